section
/-! memory, worlds, the judgement JO -/
abbrev Mem : Type := Nat → Nat → Int32
def upd2 (M : Mem) (o k : Nat) (v : Int32) : Mem := fun a i => if a = o ∧ i = k then v else M a i
def cpyM (M : Mem) (a b sp dp n : Nat) : Mem := fun o i => if o = b ∧ dp ≤ i ∧ i < dp + n then M a (sp + (i - dp)) else M o i
def HI : Nat := 1000000
def SO : Nat := 1000000
def SV : Nat := 1000100
def FO : Nat := 1000200
def lcb (a b : Int32) : Int64 := Int64.ofBitVec ((b.toBitVec ++ a.toBitVec : BitVec (32 + 32)))
def llo (v : Int64) : Int32 := Int32.ofBitVec (v.toBitVec.extractLsb' 0 32)
def lhi (v : Int64) : Int32 := Int32.ofBitVec (v.toBitVec.extractLsb' 32 32)
theorem lcb_of (v : Int64) : lcb (llo v) (lhi v) = v := by
  unfold lcb llo lhi
  apply Int64.toBitVec_inj.mp
  simp only [Int64.toBitVec_ofBitVec, Int32.toBitVec_ofBitVec]
  apply BitVec.eq_of_getLsbD_eq
  intro i hi
  simp only [BitVec.getLsbD_append, BitVec.getLsbD_extractLsb']
  by_cases h : i < 32
  · simp [h]
  · have h2 : i - 32 < 32 := by omega
    simp [h, h2, show 32 + (i - 32) = i by omega]
def chk {α : Type} (i : Int32) (n : Nat) (x : Option α) : Option α := if i < 0 ∨ n ≤ i.toNatClampNeg then none else x
def dvi {α : Type} (b : Int32) (x : Option α) : Option α := if b = 0 then none else x
def dvl {α : Type} (b : Int64) (x : Option α) : Option α := if b = 0 then none else x
def zb {α : Type} (v : Int32) (x : Option α) : Option α := if v = 0 ∨ v = 1 then x else none
def cpc {α : Type} (sp dp n : Int32) (n0 n1 : Nat) (x : Option α) : Option α := if ¬ sp < 0 ∧ ¬ dp < 0 ∧ ¬ n < 0 ∧ sp.toNatClampNeg + n.toNatClampNeg ≤ n0 ∧ dp.toNatClampNeg + n.toNatClampNeg ≤ n1 then x else none
def bnd {α : Type} (x : Option (Int32 × Mem)) (f : Int32 → Mem → Option α) : Option α := match x with
  | some (r, M) => f r M
  | none => none
def bnp {α β : Type} (x : Option β) (f : β → Option α) : Option α := match x with
  | some r => f r
  | none => none
def lt {α : Type} (M : Mem) (f : Mem → Option α) : Option α := f M
theorem chk_in {α : Type} {i : Int32} {n : Nat} {x : Option α} (h : vp_in i n) : chk i n x = x := if_neg h
theorem chk_out {α : Type} {i : Int32} {n : Nat} {x : Option α} (h : ¬ vp_in i n) : chk i n x = none := if_pos (Classical.byContradiction h)
abbrev GW : Type := (Nat → Nat) × (Nat → Nat) × (Nat → Nat → Option Nat)
def sLen : List Nat := [49, 12, 68, 36]
def sByt : List (List Int32) := [[112, 114, 105, 99, 101, 32, 102, 114, 101, 101, 32, 116, 105, 101, 114, 32, 114, 101, 115, 116, 32, 109, 111, 100, 101, 32, 112, 97, 117, 115, 101, 32, 98, 117, 108, 107, 32, 108, 101, 115, 115, 32, 102, 101, 101, 32, 116, 97, 120], [97, 100, 100, 105, 110, 103, 32, 119, 104, 111, 108, 101], [98, 101, 103, 105, 110, 32, 99, 104, 97, 110, 103, 101, 32, 115, 101, 97, 116, 115, 32, 115, 116, 111, 112, 32, 111, 110, 32, 113, 117, 105, 116, 32, 117, 115, 101, 32, 100, 97, 121, 115, 32, 102, 97, 118, 111, 117, 114, 32, 112, 97, 121, 32, 114, 101, 109, 105, 110, 100, 32, 109, 111, 118, 101, 32, 116, 117, 114, 110], [99, 104, 97, 114, 103, 101, 99, 114, 101, 100, 105, 116, 117, 115, 97, 103, 101, 32, 102, 97, 118, 111, 117, 114, 116, 117, 114, 110, 101, 100, 102, 101, 101, 32, 32, 32]]
def folL : List Int32 := [7, 3, 5, 1, 1, 1, 5, 4, 5, 5, 1, 5, 4]
def kdL : List Nat := [10, 13, 3, 12, 1, 9, 16, 12, 12, 7, 12, 12, 12, 12, 7, 12, 12, 12, 12, 7, 12, 12, 12, 12, 7, 12, 12, 12, 12, 7, 12, 12, 12, 12, 7, 12, 12, 12, 12, 15, 5, 12, 12, 12, 12, 12, 12, 12, 12, 12, 12, 0, 0, 0, 0, 0, 0, 1, 9, 16, 12, 12, 7, 12, 12, 12, 12, 7, 12, 12, 12, 12, 7, 12, 12, 12, 12, 7, 12, 12, 12, 12, 7, 12, 12, 12, 12, 7, 12, 12, 12, 12, 15, 5, 12, 12, 12, 12, 12, 12, 12, 12, 12, 12, 0, 0, 0, 0, 0, 0, 1, 9, 16, 12, 12, 7, 12, 12, 12, 12, 7, 12, 12, 12, 12, 7, 12, 12, 12, 12, 7, 12, 12, 12, 12, 7, 12, 12, 12, 12, 7, 12, 12, 12, 12, 15, 5, 12, 12, 12, 12, 12, 12, 12, 12, 12, 12, 0, 0, 0, 0, 0, 0, 2, 9, 16, 12, 12, 7, 12, 12, 12, 12, 7, 12, 12, 12, 12, 7, 12, 12, 12, 12, 7, 12, 12, 12, 12, 7, 12, 12, 12, 12, 7, 12, 12, 12, 12, 8, 4, 12, 12, 12, 12, 8, 6, 13, 11, 12, 12, 13, 12, 14, 12, 12, 12, 13, 12]
def lnL : List Nat := [0, 400, 0, 123, 0, 0, 6, 4, 4, 0, 4, 4, 3, 3, 0, 4, 4, 3, 3, 0, 4, 4, 3, 3, 0, 4, 4, 3, 3, 0, 4, 4, 3, 3, 0, 4, 4, 3, 3, 6, 0, 400, 400, 400, 400, 400, 400, 400, 400, 400, 400, 0, 0, 0, 0, 0, 0, 0, 0, 6, 4, 4, 0, 4, 4, 3, 3, 0, 4, 4, 3, 3, 0, 4, 4, 3, 3, 0, 4, 4, 3, 3, 0, 4, 4, 3, 3, 0, 4, 4, 3, 3, 6, 0, 400, 400, 400, 400, 400, 400, 400, 400, 400, 400, 0, 0, 0, 0, 0, 0, 0, 0, 6, 4, 4, 0, 4, 4, 3, 3, 0, 4, 4, 3, 3, 0, 4, 4, 3, 3, 0, 4, 4, 3, 3, 0, 4, 4, 3, 3, 0, 4, 4, 3, 3, 6, 0, 400, 400, 400, 400, 400, 400, 400, 400, 400, 400, 0, 0, 0, 0, 0, 0, 0, 0, 6, 4, 4, 0, 4, 4, 3, 3, 0, 4, 4, 3, 3, 0, 4, 4, 3, 3, 0, 4, 4, 3, 3, 0, 4, 4, 3, 3, 0, 4, 4, 3, 3, 0, 0, 24, 24, 24, 24, 0, 0, 80, 0, 127, 12750, 400, 164, 24, 24, 24, 24, 80, 400]
def rfL : List (List (Option Nat)) := [[some 1, none, some 2, some 4, some 57, some 110, none, some 163, some 199, some 205], [], [some 3], [], [some 2, some 5, some 39, some 40], [some 6, none, none, none, none, some 7, some 8], [some 9, some 14, some 19, some 24, some 29, some 34], [], [], [none, none, none, some 10, some 11, none, none, none, none, some 12, some 13], [], [], [], [], [none, none, none, some 15, some 16, none, none, none, none, some 17, some 18], [], [], [], [], [none, none, none, some 20, some 21, none, none, none, none, some 22, some 23], [], [], [], [], [none, none, none, some 25, some 26, none, none, none, none, some 27, some 28], [], [], [], [], [none, none, none, some 30, some 31, none, none, none, none, some 32, some 33], [], [], [], [], [none, none, none, some 35, some 36, none, none, none, none, some 37, some 38], [], [], [], [], [some 51, some 52, some 53, some 54, some 55, some 56], [none, some 41, some 42, some 43, some 44, some 45, some 46, some 47, some 48, some 49, some 50], [], [], [], [], [], [], [], [], [], [], [], [], [], [], [], [], [some 2, some 58, some 92, some 93], [some 59, none, none, none, none, some 60, some 61], [some 62, some 67, some 72, some 77, some 82, some 87], [], [], [none, none, none, some 63, some 64, none, none, none, none, some 65, some 66], [], [], [], [], [none, none, none, some 68, some 69, none, none, none, none, some 70, some 71], [], [], [], [], [none, none, none, some 73, some 74, none, none, none, none, some 75, some 76], [], [], [], [], [none, none, none, some 78, some 79, none, none, none, none, some 80, some 81], [], [], [], [], [none, none, none, some 83, some 84, none, none, none, none, some 85, some 86], [], [], [], [], [none, none, none, some 88, some 89, none, none, none, none, some 90, some 91], [], [], [], [], [some 104, some 105, some 106, some 107, some 108, some 109], [none, some 94, some 95, some 96, some 97, some 98, some 99, some 100, some 101, some 102, some 103], [], [], [], [], [], [], [], [], [], [], [], [], [], [], [], [], [some 2, some 111, some 145, some 146], [some 112, none, none, none, none, some 113, some 114], [some 115, some 120, some 125, some 130, some 135, some 140], [], [], [none, none, none, some 116, some 117, none, none, none, none, some 118, some 119], [], [], [], [], [none, none, none, some 121, some 122, none, none, none, none, some 123, some 124], [], [], [], [], [none, none, none, some 126, some 127, none, none, none, none, some 128, some 129], [], [], [], [], [none, none, none, some 131, some 132, none, none, none, none, some 133, some 134], [], [], [], [], [none, none, none, some 136, some 137, none, none, none, none, some 138, some 139], [], [], [], [], [none, none, none, some 141, some 142, none, none, none, none, some 143, some 144], [], [], [], [], [some 157, some 158, some 159, some 160, some 161, some 162], [none, some 147, some 148, some 149, some 150, some 151, some 152, some 153, some 154, some 155, some 156], [], [], [], [], [], [], [], [], [], [], [], [], [], [], [], [], [some 198, some 164], [some 165, none, none, none, none, some 166, some 167], [some 168, some 173, some 178, some 183, some 188, some 193], [], [], [none, none, none, some 169, some 170, none, none, none, none, some 171, some 172], [], [], [], [], [none, none, none, some 174, some 175, none, none, none, none, some 176, some 177], [], [], [], [], [none, none, none, some 179, some 180, none, none, none, none, some 181, some 182], [], [], [], [], [none, none, none, some 184, some 185, none, none, none, none, some 186, some 187], [], [], [], [], [none, none, none, some 189, some 190, none, none, none, none, some 191, some 192], [], [], [], [], [none, none, none, some 194, some 195, none, none, none, none, some 196, some 197], [], [], [], [], [some 1], [some 204, none, some 200, some 201, some 202, some 203], [], [], [], [], [some 1], [some 2, some 206], [], [some 208, some 209, none, some 210, none, none, none, none, none, none, none, some 211, none, some 212, some 213, some 214, some 215, none, some 216, none, some 217], [], [], [], [], [], [], [], [], [], []]
def GS : (Nat → Nat) × (Nat → Nat) × (Nat → Nat → Option Nat) := (fun o => kdL.getD o 99, fun o => lnL.getD o 0, fun o k => (rfL.getD o []).getD k none)
end
section
def mX0_copyFrom (o : Nat) (a : Nat) (M : Mem) : Option Mem := (zb (M a 1) (zb ((upd2 M o 1 (M a 1)) a 2) (zb ((upd2 (upd2 M o 1 (M a 1)) o 2 ((upd2 M o 1 (M a 1)) a 2)) a 3) (lt (upd2 (upd2 (upd2 M o 1 (M a 1)) o 2 ((upd2 M o 1 (M a 1)) a 2)) o 3 ((upd2 (upd2 M o 1 (M a 1)) o 2 ((upd2 M o 1 (M a 1)) a 2)) a 3)) fun M1 => (lt (upd2 (upd2 (upd2 M1 o 4 (M1 a 4)) o 5 ((upd2 M1 o 4 (M1 a 4)) a 5)) o 6 ((upd2 (upd2 M1 o 4 (M1 a 4)) o 5 ((upd2 M1 o 4 (M1 a 4)) a 5)) a 6)) fun M2 => (lt (upd2 (upd2 (upd2 M2 o 7 (M2 a 7)) o 8 ((upd2 M2 o 7 (M2 a 7)) a 8)) o 9 ((upd2 (upd2 M2 o 7 (M2 a 7)) o 8 ((upd2 M2 o 7 (M2 a 7)) a 8)) a 9)) fun M3 => (lt (upd2 (upd2 (upd2 M3 o 10 (M3 a 10)) o 11 ((upd2 M3 o 10 (M3 a 10)) a 11)) o 12 ((upd2 (upd2 M3 o 10 (M3 a 10)) o 11 ((upd2 M3 o 10 (M3 a 10)) a 11)) a 12)) fun M4 => (some (upd2 M4 o 13 (M4 a 13))))))))))
def mX3_slice (a : Int32) (b : Int32) (c : Int32) (d : Int32) : Option Int32 := (if (1 : Int32) ≤ b then (dvi b (dvi b (some (((a * d) / b) - ((a * c) / b))))) else (some (0 : Int32)))
def mX0_partToEnd (o : Nat) (a : Int32) (b : Int32) (M : Mem) : Option Int32 := (bnp (mX3_slice a ((M o 9) - (M o 10)) (b - (M o 10)) ((M o 9) - (M o 10))) fun r1 => (some r1))
def mX0_tell (o : Nat) (a : Int32) (M : Mem) : Option Int32 := (if a = (0 : Int32) then (some (M o 4)) else (if a = (1 : Int32) then (some (M o 5)) else (if a = (2 : Int32) then (some (M o 7)) else (if a = (3 : Int32) then (some (M o 8)) else (if a = (4 : Int32) then (some (M o 9)) else (if a = (5 : Int32) then (some ((M o 9) - (M o 10))) else (if a = (6 : Int32) then (some (-1000000 : Int32)) else (if a = (7 : Int32) then (some (M o 11)) else (if a = (8 : Int32) then (some (M o 13)) else (if a = (9 : Int32) then (if (M o 3) = 0 then (some (0 : Int32)) else (some (1 : Int32))) else (if a = (10 : Int32) then (if (M o 2) = 0 then (some (0 : Int32)) else (some (1 : Int32))) else (if a = (11 : Int32) then (some (-1000000 : Int32)) else (if a = (12 : Int32) then (some (-1000000 : Int32)) else (if a = (13 : Int32) then (some (-1000000 : Int32)) else (if a = (14 : Int32) then (some (-1000000 : Int32)) else (if a = (15 : Int32) then (some (-1000000 : Int32)) else (if a = (16 : Int32) then (some (-1000000 : Int32)) else (if a = (17 : Int32) then (some (-1000000 : Int32)) else (if a = (18 : Int32) then (some (M o 12)) else (if a = (19 : Int32) then (some (M o 6)) else (some (-1000000 : Int32))))))))))))))))))))))
def mX7_copyFrom (o : Nat) (a : Nat) (M : Mem) : Option Mem := (lt (upd2 (upd2 (upd2 M o 0 (M a 0)) o 1 ((upd2 M o 0 (M a 0)) a 1)) o 2 ((upd2 (upd2 M o 0 (M a 0)) o 1 ((upd2 M o 0 (M a 0)) a 1)) a 2)) fun M1 => (cpc (0 : Int32) (0 : Int32) (4 : Int32) 4 4 (lt (cpyM M1 (a + 1) (o + 1) (Int32.toNatClampNeg (0 : Int32)) (Int32.toNatClampNeg (0 : Int32)) (Int32.toNatClampNeg (4 : Int32))) fun M2 => (cpc (0 : Int32) (0 : Int32) (4 : Int32) 4 4 (lt (cpyM M2 (a + 2) (o + 2) (Int32.toNatClampNeg (0 : Int32)) (Int32.toNatClampNeg (0 : Int32)) (Int32.toNatClampNeg (4 : Int32))) fun M3 => (zb ((upd2 M3 o 5 (M3 a 5)) a 6) (lt (upd2 (upd2 (upd2 M3 o 5 (M3 a 5)) o 6 ((upd2 M3 o 5 (M3 a 5)) a 6)) o 7 ((upd2 (upd2 M3 o 5 (M3 a 5)) o 6 ((upd2 M3 o 5 (M3 a 5)) a 6)) a 7)) fun M4 => (cpc (0 : Int32) (0 : Int32) (3 : Int32) 3 3 (lt (cpyM (upd2 M4 o 8 (M4 a 8)) (a + 3) (o + 3) (Int32.toNatClampNeg (0 : Int32)) (Int32.toNatClampNeg (0 : Int32)) (Int32.toNatClampNeg (3 : Int32))) fun M5 => (cpc (0 : Int32) (0 : Int32) (3 : Int32) 3 3 (lt (cpyM M5 (a + 4) (o + 4) (Int32.toNatClampNeg (0 : Int32)) (Int32.toNatClampNeg (0 : Int32)) (Int32.toNatClampNeg (3 : Int32))) fun M6 => (some M6))))))))))))
def mX9_copyFrom_c2 (n : Nat) : Nat → Nat → Nat → Int32 → Mem → Option Mem
  | 0, _, _, _, _ => none
  | f + 1, v0, v1, v2, M => (if (6 : Int32) ≤ v2 then (lt (upd2 (upd2 (upd2 M v0 1 (M v1 1)) v0 2 ((upd2 M v0 1 (M v1 1)) v1 2)) v0 3 ((upd2 (upd2 M v0 1 (M v1 1)) v0 2 ((upd2 M v0 1 (M v1 1)) v1 2)) v1 3)) fun M1 => (cpc (0 : Int32) (0 : Int32) (4 : Int32) 4 4 (lt (cpyM (upd2 M1 v0 4 (M1 v1 4)) (v1 + 2) (v0 + 2) (Int32.toNatClampNeg (0 : Int32)) (Int32.toNatClampNeg (0 : Int32)) (Int32.toNatClampNeg (4 : Int32))) fun M2 => (cpc (0 : Int32) (0 : Int32) (4 : Int32) 4 4 (lt (cpyM M2 (v1 + 3) (v0 + 3) (Int32.toNatClampNeg (0 : Int32)) (Int32.toNatClampNeg (0 : Int32)) (Int32.toNatClampNeg (4 : Int32))) fun M3 => (some (upd2 M3 v0 7 (M3 v1 7)))))))) else (chk v2 6 (chk v2 6 (bnp (mX7_copyFrom ((v0 + 1) + 3 + 5 * Int32.toNatClampNeg v2) ((v1 + 1) + 3 + 5 * Int32.toNatClampNeg v2) M) fun M7 => ((mX9_copyFrom_c2 n f) v0 v1 (v2 + (1 : Int32)) M7)))))
def mX9_copyFrom (n : Nat) (o : Nat) (a : Nat) (M : Mem) : Option Mem := (mX9_copyFrom_c2 n n o a (0 : Int32) M)
def mX5_copyFrom (o : Nat) (a : Nat) (M : Mem) : Option Mem := (lt (upd2 M o 0 (if (0 : Int32) < (if (400 : Int32) < (M a 0) then (400 : Int32) else (M a 0)) then (if (400 : Int32) < (M a 0) then (400 : Int32) else (M a 0)) else (0 : Int32))) fun M1 => (cpc (0 : Int32) (0 : Int32) (M1 o 0) 400 400 (lt (cpyM M1 (a + 1) (o + 1) (Int32.toNatClampNeg (0 : Int32)) (Int32.toNatClampNeg (0 : Int32)) (Int32.toNatClampNeg (M1 o 0))) fun M2 => (cpc (0 : Int32) (0 : Int32) (M2 o 0) 400 400 (lt (cpyM M2 (a + 2) (o + 2) (Int32.toNatClampNeg (0 : Int32)) (Int32.toNatClampNeg (0 : Int32)) (Int32.toNatClampNeg (M2 o 0))) fun M3 => (cpc (0 : Int32) (0 : Int32) (M3 o 0) 400 400 (lt (cpyM M3 (a + 3) (o + 3) (Int32.toNatClampNeg (0 : Int32)) (Int32.toNatClampNeg (0 : Int32)) (Int32.toNatClampNeg (M3 o 0))) fun M4 => (cpc (0 : Int32) (0 : Int32) (M4 o 0) 400 400 (lt (cpyM M4 (a + 4) (o + 4) (Int32.toNatClampNeg (0 : Int32)) (Int32.toNatClampNeg (0 : Int32)) (Int32.toNatClampNeg (M4 o 0))) fun M5 => (cpc (0 : Int32) (0 : Int32) (M5 o 0) 400 400 (lt (cpyM M5 (a + 5) (o + 5) (Int32.toNatClampNeg (0 : Int32)) (Int32.toNatClampNeg (0 : Int32)) (Int32.toNatClampNeg (M5 o 0))) fun M6 => (cpc (0 : Int32) (0 : Int32) (M6 o 0) 400 400 (lt (cpyM M6 (a + 6) (o + 6) (Int32.toNatClampNeg (0 : Int32)) (Int32.toNatClampNeg (0 : Int32)) (Int32.toNatClampNeg (M6 o 0))) fun M7 => (cpc (0 : Int32) (0 : Int32) (M7 o 0) 400 400 (lt (cpyM M7 (a + 7) (o + 7) (Int32.toNatClampNeg (0 : Int32)) (Int32.toNatClampNeg (0 : Int32)) (Int32.toNatClampNeg (M7 o 0))) fun M8 => (cpc (0 : Int32) (0 : Int32) (M8 o 0) 400 400 (lt (cpyM M8 (a + 8) (o + 8) (Int32.toNatClampNeg (0 : Int32)) (Int32.toNatClampNeg (0 : Int32)) (Int32.toNatClampNeg (M8 o 0))) fun M9 => (cpc (0 : Int32) (0 : Int32) (M9 o 0) 400 400 (lt (cpyM M9 (a + 9) (o + 9) (Int32.toNatClampNeg (0 : Int32)) (Int32.toNatClampNeg (0 : Int32)) (Int32.toNatClampNeg (M9 o 0))) fun M10 => (cpc (0 : Int32) (0 : Int32) (M10 o 0) 400 400 (lt (cpyM M10 (a + 10) (o + 10) (Int32.toNatClampNeg (0 : Int32)) (Int32.toNatClampNeg (0 : Int32)) (Int32.toNatClampNeg (M10 o 0))) fun M11 => (some M11))))))))))))))))))))))
def mX1_copyFrom_c13 (n : Nat) : Nat → Nat → Nat → Int32 → Mem → Option Mem
  | 0, _, _, _, _ => none
  | f + 1, v0, v1, v2, M => (if (6 : Int32) ≤ v2 then (bnp (mX5_copyFrom (v0 + 36) (v1 + 36) M) fun M2 => (some (upd2 M2 v0 4 (M2 v1 4)))) else (chk v2 6 (chk v2 6 (bnp (mX0_copyFrom ((v0 + 35) + 12 + Int32.toNatClampNeg v2) ((v1 + 35) + 12 + Int32.toNatClampNeg v2) M) fun M6 => ((mX1_copyFrom_c13 n f) v0 v1 (v2 + (1 : Int32)) M6)))))
def mX1_copyFrom (n : Nat) (o : Nat) (a : Nat) (M : Mem) : Option Mem := (bnp (mX9_copyFrom n (o + 1) (a + 1) M) fun M8 => (mX1_copyFrom_c13 n n o a (0 : Int32) M8))
def mX10_isAccount (a : Int32) : Option Int32 := (if a < 0 then (some (0 : Int32)) else (if (6 : Int32) ≤ a then (some (0 : Int32)) else (some (1 : Int32))))
def mX1_hasBegun (o : Nat) (a : Int32) (M : Mem) : Option Int32 := (bnp (mX10_isAccount a) fun r1 => (if r1 = 0 then (some (0 : Int32)) else (chk a 6 (if (M ((o + 35) + 12 + Int32.toNatClampNeg a) 1) = 0 then (some (0 : Int32)) else (some (1 : Int32))))))
def mX1_isRunning (o : Nat) (a : Int32) (M : Mem) : Option Int32 := (bnp (mX1_hasBegun o a M) fun r1 => (if r1 = 0 then (some (0 : Int32)) else (chk a 6 (if (M ((o + 35) + 12 + Int32.toNatClampNeg a) 2) = 0 then (some (1 : Int32)) else (some (0 : Int32))))))
def mX5_add (o : Nat) (a : Int32) (b : Int32) (c : Int32) (d : Int32) (M : Mem) : Option (Int32 × Mem) := (if (M o 0) < 0 then (some ((-1 : Int32), M)) else (if (M o 0) < (400 : Int32) then (chk (M o 0) 400 (chk (M o 0) 400 (lt (upd2 (upd2 M (o + 1) (Int32.toNatClampNeg (M o 0)) a) (o + 2) (Int32.toNatClampNeg (M o 0)) b) fun M1 => (chk (M o 0) 400 (chk (M o 0) 400 (lt (upd2 (upd2 M1 (o + 3) (Int32.toNatClampNeg (M o 0)) c) (o + 8) (Int32.toNatClampNeg (M o 0)) d) fun M2 => (chk (M o 0) 400 (chk (M o 0) 400 (lt (upd2 (upd2 M2 (o + 9) (Int32.toNatClampNeg (M o 0)) (-2 : Int32)) (o + 10) (Int32.toNatClampNeg (M o 0)) (-2 : Int32)) fun M3 => (some ((M o 0), (upd2 M3 o 0 ((M3 o 0) + (1 : Int32)))))))))))))) else (some ((-1 : Int32), M))))
def mX5_describe (o : Nat) (a : Int32) (b : Int32) (c : Int32) (d : Int32) (e0 : Int32) (M : Mem) : Option Mem := (if a < 0 then (some M) else (if (400 : Int32) ≤ a then (some M) else (chk a 400 (chk a 400 (chk a 400 (lt (upd2 (upd2 (upd2 M (o + 4) (Int32.toNatClampNeg a) b) (o + 7) (Int32.toNatClampNeg a) c) (o + 5) (Int32.toNatClampNeg a) d) fun M1 => (chk a 400 (some (upd2 M1 (o + 6) (Int32.toNatClampNeg a) e0)))))))))
def mX1_write (o : Nat) (a : Nat) (b : Int32) (c : Int32) (d : Int32) (e0 : Int32) (M : Mem) : Option (Int32 × Mem) := (bnd (mX5_add (o + 36) b (M a 0) (M o 4) e0 M) fun r1 M2 => (bnp (mX5_describe (o + 36) r1 (M2 a 7) (M2 a 4) c d M2) fun M4 => (some (e0, (upd2 M4 a 13 ((M4 a 13) + e0))))))
def mX9_termsOf (o : Nat) (a : Int32) : Option Nat := (if a < 0 then (chk (0 : Int32) 6 (some ((o + 1) + 3 + 5 * Int32.toNatClampNeg (0 : Int32)))) else (if (6 : Int32) ≤ a then (chk (0 : Int32) 6 (some ((o + 1) + 3 + 5 * Int32.toNatClampNeg (0 : Int32)))) else (chk a 6 (some ((o + 1) + 3 + 5 * Int32.toNatClampNeg a)))))
def mX7_priceOf_c4 (n : Nat) : Nat → Nat → Int32 → Int32 → Int32 → Mem → Option Int32
  | 0, _, _, _, _, _ => none
  | f + 1, v0, v1, v2, v3, M => (if (M v0 8) ≤ v3 then (some (((M v0 0) * v1) - ((((M v0 0) * v1) * v2) / (100 : Int32)))) else (if (3 : Int32) ≤ v3 then (some (((M v0 0) * v1) - ((((M v0 0) * v1) * v2) / (100 : Int32)))) else (chk v3 3 (if v1 < (M (v0 + 3) (Int32.toNatClampNeg v3)) then ((mX7_priceOf_c4 n f) v0 v1 v2 (v3 + (1 : Int32)) M) else (chk v3 3 ((mX7_priceOf_c4 n f) v0 v1 (M (v0 + 4) (Int32.toNatClampNeg v3)) (v3 + (1 : Int32)) M))))))
def mX7_priceOf (n : Nat) (o : Nat) (a : Int32) (M : Mem) : Option Int32 := (mX7_priceOf_c4 n n o a (0 : Int32) (0 : Int32) M)
def mX9_worth (n : Nat) (o : Nat) (a : Int32) (b : Nat) (M : Mem) : Option Int32 := (bnp (mX9_termsOf o a) fun r1 => (bnp (mX7_priceOf n r1 (M b 6) M) fun r3 => (if (M o 2) ≤ (M b 7) then (if (M b 3) = 0 then (some r3) else (some ((r3 * (M r1 7)) / (100 : Int32)))) else (if (M b 3) = 0 then (some (r3 - ((r3 * (M o 1)) / (100 : Int32)))) else (some (((r3 - ((r3 * (M o 1)) / (100 : Int32))) * (M r1 7)) / (100 : Int32)))))))
def mX1_writeCredit (n : Nat) (o : Nat) (a : Nat) (M : Mem) : Option (Int32 × Mem) := (bnp (mX9_worth n (o + 1) (M a 4) a M) fun r1 => (bnp (mX0_partToEnd a r1 (M o 4) M) fun r2 => (bnd (mX1_write o a (1 : Int32) (M o 4) (M a 9) (-r2) M) fun r3 M4 => (some (r3, M4)))))
def mX1_writeCharge (n : Nat) (o : Nat) (a : Nat) (M : Mem) : Option (Int32 × Mem) := (bnp (mX9_worth n (o + 1) (M a 4) a M) fun r1 => (bnp (mX0_partToEnd a r1 (M o 4) M) fun r2 => (bnd (mX1_write o a (0 : Int32) (M o 4) (M a 9) r2 M) fun r3 M4 => (some (r3, M4)))))
def mX7_wholeUsage_c2 (n : Nat) : Nat → Nat → Int32 → Int32 → Mem → Option Int32
  | 0, _, _, _, _ => none
  | f + 1, v0, v1, v2, M => (if (M v0 2) ≤ v2 then (some (v1 * (M v0 5))) else (if (4 : Int32) ≤ v2 then (some (v1 * (M v0 5))) else (chk v2 4 (if (M (v0 + 1) (Int32.toNatClampNeg v2)) < v1 then ((mX7_wholeUsage_c2 n f) v0 v1 (v2 + (1 : Int32)) M) else (chk v2 4 (some (v1 * (M (v0 + 2) (Int32.toNatClampNeg v2)))))))))
def mX7_wholeUsage (n : Nat) (o : Nat) (a : Int32) (M : Mem) : Option Int32 := (mX7_wholeUsage_c2 n n o a (0 : Int32) M)
def mX7_addedUsage_c7 (n : Nat) : Nat → Nat → Int32 → Int32 → Int32 → Int32 → Mem → Option Int32
  | 0, _, _, _, _, _, _ => none
  | f + 1, v0, v1, v2, v3, v4, M => (if (M v0 2) ≤ v4 then (some (v2 + ((v1 - v3) * (M v0 5)))) else (if (4 : Int32) ≤ v4 then (some (v2 + ((v1 - v3) * (M v0 5)))) else (chk v4 4 (chk v4 4 ((mX7_addedUsage_c7 n f) v0 v1 (v2 + (((if (M (v0 + 1) (Int32.toNatClampNeg v4)) < v1 then (M (v0 + 1) (Int32.toNatClampNeg v4)) else v1) - v3) * (M (v0 + 2) (Int32.toNatClampNeg v4)))) (if (M (v0 + 1) (Int32.toNatClampNeg v4)) < v1 then (M (v0 + 1) (Int32.toNatClampNeg v4)) else v1) (v4 + (1 : Int32)) M)))))
def mX7_addedUsage (n : Nat) (o : Nat) (a : Int32) (M : Mem) : Option Int32 := (mX7_addedUsage_c7 n n o a (0 : Int32) (0 : Int32) (0 : Int32) M)
def mX7_usageOf (n : Nat) (o : Nat) (a : Int32) (M : Mem) : Option Int32 := (if (M o 6) = 0 then (bnp (mX7_addedUsage n o (if (0 : Int32) < (a - (M o 1)) then (a - (M o 1)) else (0 : Int32)) M) fun r1 => (some r1)) else (bnp (mX7_wholeUsage n o (if (0 : Int32) < (a - (M o 1)) then (a - (M o 1)) else (0 : Int32)) M) fun r2 => (some r2)))
def mX1_writeUsage (n : Nat) (o : Nat) (a : Nat) (M : Mem) : Option (Int32 × Mem) := (bnp (mX9_termsOf (o + 1) (M a 4)) fun r1 => (bnp (mX7_usageOf n r1 (M a 11) M) fun r3 => (bnd (mX1_write o a (2 : Int32) ((upd2 M a 11 (0 : Int32)) a 8) ((upd2 M a 11 (0 : Int32)) o 4) r3 (upd2 M a 11 (0 : Int32))) fun r4 M5 => (some (r4, M5)))))
def mX3_monthWith_c11 (n : Nat) : Nat → Int32 → Int32 → Mem → Option Int32
  | 0, _, _, _ => none
  | f + 1, v1, v2, M => (if (123 : Int32) ≤ (v2 + (2 : Int32)) then (some (if (121 : Int32) < v2 then (121 : Int32) else v2)) else (chk (v2 + (1 : Int32)) 123 (if v1 < (M 3 (Int32.toNatClampNeg (v2 + (1 : Int32)))) then (some (if (121 : Int32) < v2 then (121 : Int32) else v2)) else ((mX3_monthWith_c11 n f) v1 (v2 + (1 : Int32)) M))))
def mX3_monthWith (n : Nat) (a : Int32) (M : Mem) : Option Int32 := (mX3_monthWith_c11 n n a (if (0 : Int32) < ((a / (31 : Int32)) + (1 : Int32)) then ((a / (31 : Int32)) + (1 : Int32)) else (0 : Int32)) M)
def mX3_turnIn (a : Int32) (b : Int32) (M : Mem) : Option Int32 := (if b < 0 then (some (0 : Int32)) else (if (b + (1 : Int32)) < (123 : Int32) then (chk b 123 (chk (b + (1 : Int32)) 123 (chk b 123 (some (((M 3 (Int32.toNatClampNeg b)) + (if ((M 3 (Int32.toNatClampNeg (b + (1 : Int32)))) - (M 3 (Int32.toNatClampNeg b))) < a then ((M 3 (Int32.toNatClampNeg (b + (1 : Int32)))) - (M 3 (Int32.toNatClampNeg b))) else a)) - (1 : Int32)))))) else (some (0 : Int32))))
def mX3_lastTurn (n : Nat) (a : Int32) (b : Int32) (M : Mem) : Option Int32 := (bnp (mX3_monthWith n b M) fun r1 => (bnp (mX3_turnIn a r1 M) fun r2 => (if b < r2 then (bnp (mX3_turnIn a (r1 - (1 : Int32)) M) fun r3 => (some r3)) else (some r2))))
def mX3_nextTurn (n : Nat) (a : Int32) (b : Int32) (M : Mem) : Option Int32 := (bnp (mX3_monthWith n b M) fun r1 => (bnp (mX3_turnIn a r1 M) fun r2 => (if r2 ≤ b then (bnp (mX3_turnIn a (r1 + (1 : Int32)) M) fun r3 => (some r3)) else (some r2))))
def mX1_startPeriod (n : Nat) (o : Nat) (a : Nat) (b : Int32) (M : Mem) : Option Mem := (bnp (mX3_lastTurn n ((upd2 (upd2 M a 7 b) a 8 ((upd2 M a 7 b) o 4)) a 5) ((upd2 (upd2 M a 7 b) a 8 ((upd2 M a 7 b) o 4)) o 4) (upd2 (upd2 M a 7 b) a 8 ((upd2 M a 7 b) o 4))) fun r1 => (bnp (mX3_nextTurn n ((upd2 (upd2 (upd2 M a 7 b) a 8 ((upd2 M a 7 b) o 4)) a 10 r1) a 5) ((upd2 (upd2 (upd2 M a 7 b) a 8 ((upd2 M a 7 b) o 4)) a 10 r1) o 4) (upd2 (upd2 (upd2 M a 7 b) a 8 ((upd2 M a 7 b) o 4)) a 10 r1)) fun r2 => (some (upd2 (upd2 (upd2 (upd2 M a 7 b) a 8 ((upd2 M a 7 b) o 4)) a 10 r1) a 9 r2))))
def mX10_isPlan (a : Int32) : Option Int32 := (if a < 0 then (some (0 : Int32)) else (if (6 : Int32) ≤ a then (some (0 : Int32)) else (some (1 : Int32))))
def mX10_isAnchor (a : Int32) : Option Int32 := (if a < (1 : Int32) then (some (0 : Int32)) else (if (31 : Int32) < a then (some (0 : Int32)) else (some (1 : Int32))))
def mX5_haveRoom (o : Nat) (a : Int32) (M : Mem) : Option Int32 := (if (400 : Int32) < ((M o 0) + a) then (some (0 : Int32)) else (some (1 : Int32)))
def mX1_startAccount (n : Nat) (o : Nat) (a : Int32) (b : Int32) (c : Int32) (M : Mem) : Option (Int32 × Mem) := (bnp (mX10_isAccount a) fun r1 => (if r1 = 0 then (some ((-1 : Int32), M)) else (bnp (mX10_isPlan b) fun r3 => (if r3 = 0 then (some ((-1 : Int32), M)) else (bnp (mX10_isAnchor c) fun r5 => (if r5 = 0 then (some ((-1 : Int32), M)) else (bnp (mX5_haveRoom (o + 36) (1 : Int32) M) fun r7 => (if r7 = 0 then (some ((-3 : Int32), M)) else (chk a 6 (if (M ((o + 35) + 12 + Int32.toNatClampNeg a) 1) = 0 then (bnp (mX3_nextTurn n c (M o 4) M) fun r10 => (if r10 ≤ (3652 : Int32) then (lt (upd2 (upd2 M ((o + 35) + 12 + Int32.toNatClampNeg a) 1 (1 : Int32)) ((o + 35) + 12 + Int32.toNatClampNeg a) 4 b) fun M11 => (lt (upd2 (upd2 M11 ((o + 35) + 12 + Int32.toNatClampNeg a) 5 c) ((o + 35) + 12 + Int32.toNatClampNeg a) 6 (1 : Int32)) fun M12 => (bnp (mX1_startPeriod n o ((o + 35) + 12 + Int32.toNatClampNeg a) (0 : Int32) M12) fun M14 => (bnd (mX1_writeCharge n o ((o + 35) + 12 + Int32.toNatClampNeg a) M14) fun r15 M16 => (some (r15, M16)))))) else (some ((-5 : Int32), M)))) else (some ((-4 : Int32), M))))))))))))
def mX1_putPlan (n : Nat) (o : Nat) (a : Int32) (b : Int32) (M : Mem) : Option (Int32 × Mem) := (bnp (mX1_isRunning o a M) fun r1 => (if r1 = 0 then (some ((-1000000 : Int32), M)) else (bnp (mX10_isPlan b) fun r3 => (if r3 = 0 then (some ((-1000000 : Int32), M)) else (chk a 6 (if (M ((o + 35) + 12 + Int32.toNatClampNeg a) 4) = b then (some ((-1000000 : Int32), M)) else (bnp (mX5_haveRoom (o + 36) (2 : Int32) M) fun r6 => (if r6 = 0 then (some ((-1000001 : Int32), M)) else (chk a 6 (bnd (mX1_writeCredit n o ((o + 35) + 12 + Int32.toNatClampNeg a) M) fun r9 M10 => (bnd (mX1_writeCharge n o ((o + 35) + 12 + Int32.toNatClampNeg a) (upd2 M10 ((o + 35) + 12 + Int32.toNatClampNeg a) 4 b)) fun r11 M12 => (some ((r9 + r11), M12)))))))))))))
def mX1_putSeats (n : Nat) (o : Nat) (a : Int32) (b : Int32) (M : Mem) : Option (Int32 × Mem) := (bnp (mX1_isRunning o a M) fun r1 => (if r1 = 0 then (some ((-1000000 : Int32), M)) else (if b < (1 : Int32) then (some ((-1000000 : Int32), M)) else (if (9 : Int32) < b then (some ((-1000000 : Int32), M)) else (chk a 6 (if (M ((o + 35) + 12 + Int32.toNatClampNeg a) 6) = b then (some ((-1000000 : Int32), M)) else (bnp (mX5_haveRoom (o + 36) (2 : Int32) M) fun r4 => (if r4 = 0 then (some ((-1000001 : Int32), M)) else (chk a 6 (bnd (mX1_writeCredit n o ((o + 35) + 12 + Int32.toNatClampNeg a) M) fun r7 M8 => (bnd (mX1_writeCharge n o ((o + 35) + 12 + Int32.toNatClampNeg a) (upd2 M8 ((o + 35) + 12 + Int32.toNatClampNeg a) 6 b)) fun r9 M10 => (some ((r7 + r9), M10)))))))))))))
def mX1_putPaused (n : Nat) (o : Nat) (a : Int32) (b : Int32) (M : Mem) : Option (Int32 × Mem) := (bnp (mX1_isRunning o a M) fun r1 => (if r1 = 0 then (some ((-1000000 : Int32), M)) else (chk a 6 (if (M ((o + 35) + 12 + Int32.toNatClampNeg a) 3) = b then (some ((-1000000 : Int32), M)) else (bnp (mX5_haveRoom (o + 36) (2 : Int32) M) fun r4 => (if r4 = 0 then (some ((-1000001 : Int32), M)) else (chk a 6 (bnd (mX1_writeCredit n o ((o + 35) + 12 + Int32.toNatClampNeg a) M) fun r7 M8 => (bnd (mX1_writeCharge n o ((o + 35) + 12 + Int32.toNatClampNeg a) (upd2 M8 ((o + 35) + 12 + Int32.toNatClampNeg a) 3 b)) fun r9 M10 => (some ((r7 + r9), M10)))))))))))
def mX1_endAccount (n : Nat) (o : Nat) (a : Int32) (M : Mem) : Option (Int32 × Mem) := (bnp (mX1_isRunning o a M) fun r1 => (if r1 = 0 then (some ((-1000000 : Int32), M)) else (bnp (mX5_haveRoom (o + 36) (2 : Int32) M) fun r3 => (if r3 = 0 then (some ((-1000001 : Int32), M)) else (chk a 6 (bnd (mX1_writeCredit n o ((o + 35) + 12 + Int32.toNatClampNeg a) M) fun r6 M7 => (bnd (mX1_writeUsage n o ((o + 35) + 12 + Int32.toNatClampNeg a) (upd2 M7 ((o + 35) + 12 + Int32.toNatClampNeg a) 2 (1 : Int32))) fun r8 M9 => (some ((r6 + r8), M9)))))))))
def mX1_putAnchor (n : Nat) (o : Nat) (a : Int32) (b : Int32) (M : Mem) : Option (Int32 × Mem) := (bnp (mX1_isRunning o a M) fun r1 => (if r1 = 0 then (some ((-1000000 : Int32), M)) else (bnp (mX10_isAnchor b) fun r3 => (if r3 = 0 then (some ((-1000000 : Int32), M)) else (chk a 6 (if (M ((o + 35) + 12 + Int32.toNatClampNeg a) 5) = b then (some ((-1000000 : Int32), M)) else (bnp (mX5_haveRoom (o + 36) (3 : Int32) M) fun r6 => (if r6 = 0 then (some ((-1000001 : Int32), M)) else (bnp (mX3_nextTurn n b (M o 4) M) fun r8 => (if r8 ≤ (3652 : Int32) then (chk a 6 (bnd (mX1_writeCredit n o ((o + 35) + 12 + Int32.toNatClampNeg a) M) fun r10 M11 => (bnd (mX1_writeUsage n o ((o + 35) + 12 + Int32.toNatClampNeg a) M11) fun r12 M13 => (bnp (mX1_startPeriod n o ((o + 35) + 12 + Int32.toNatClampNeg a) (((upd2 M13 ((o + 35) + 12 + Int32.toNatClampNeg a) 5 b) ((o + 35) + 12 + Int32.toNatClampNeg a) 7) + (1 : Int32)) (upd2 M13 ((o + 35) + 12 + Int32.toNatClampNeg a) 5 b)) fun M15 => (bnd (mX1_writeCharge n o ((o + 35) + 12 + Int32.toNatClampNeg a) M15) fun r16 M17 => (some (((r10 + r12) + r16), M17))))))) else (some ((-1000002 : Int32), M))))))))))))
def mX1_addUnits (o : Nat) (a : Int32) (b : Int32) (M : Mem) : Option (Int32 × Mem) := (bnp (mX1_isRunning o a M) fun r1 => (if r1 = 0 then (some ((-1 : Int32), M)) else (if 0 ≤ b then (chk a 6 (if (M ((o + 35) + 12 + Int32.toNatClampNeg a) 3) = 0 then (if b ≤ ((9999 : Int32) - (M ((o + 35) + 12 + Int32.toNatClampNeg a) 11)) then (lt (upd2 M ((o + 35) + 12 + Int32.toNatClampNeg a) 11 ((M ((o + 35) + 12 + Int32.toNatClampNeg a) 11) + b)) fun M4 => (some ((M4 ((o + 35) + 12 + Int32.toNatClampNeg a) 11), M4))) else (some ((-3 : Int32), M))) else (some ((-2 : Int32), M)))) else (some ((-1 : Int32), M)))))
def mX1_grantFavour (o : Nat) (a : Int32) (b : Int32) (M : Mem) : Option (Int32 × Mem) := (bnp (mX1_hasBegun o a M) fun r1 => (if r1 = 0 then (some ((-1000000 : Int32), M)) else (if b < (1 : Int32) then (some ((-1000000 : Int32), M)) else (chk a 6 (if b ≤ (M ((o + 35) + 12 + Int32.toNatClampNeg a) 13) then (bnp (mX5_haveRoom (o + 36) (1 : Int32) M) fun r4 => (if r4 = 0 then (some ((-1000001 : Int32), M)) else (chk a 6 (bnd (mX1_write o ((o + 35) + 12 + Int32.toNatClampNeg a) (3 : Int32) (M o 4) (M o 4) (-b) M) fun r7 M8 => (chk a 6 (some ((M8 ((o + 35) + 12 + Int32.toNatClampNeg a) 13), M8))))))) else (some ((-1000000 : Int32), M)))))))
def mX1_takePayment (o : Nat) (a : Int32) (b : Int32) (M : Mem) : Option (Int32 × Mem) := (bnp (mX1_hasBegun o a M) fun r1 => (if r1 = 0 then (some ((-1 : Int32), M)) else (if b < (1 : Int32) then (some ((-1 : Int32), M)) else (if b ≤ (999999 : Int32) then (chk a 6 (if b ≤ ((99999999 : Int32) - (M ((o + 35) + 12 + Int32.toNatClampNeg a) 12)) then (lt (upd2 M ((o + 35) + 12 + Int32.toNatClampNeg a) 12 ((M ((o + 35) + 12 + Int32.toNatClampNeg a) 12) + b)) fun M4 => (some ((M4 ((o + 35) + 12 + Int32.toNatClampNeg a) 12), M4))) else (some ((-1 : Int32), M)))) else (some ((-1 : Int32), M))))))
def mX5_isOf (o : Nat) (a : Int32) (b : Int32) (M : Mem) : Option Int32 := (if a < 0 then (some (0 : Int32)) else (if (M o 0) ≤ a then (some (0 : Int32)) else (if (400 : Int32) ≤ a then (some (0 : Int32)) else (chk a 400 (if (M (o + 2) (Int32.toNatClampNeg a)) = b then (some (1 : Int32)) else (some (0 : Int32)))))))
def mX5_coverOf_c5 (n : Nat) : Nat → Nat → Int32 → Int32 → Int32 → Mem → Option Int32
  | 0, _, _, _, _, _ => none
  | f + 1, v0, v1, v3, v4, M => (if (M v0 0) ≤ v4 then (some v3) else (bnp (mX5_isOf v0 v4 v1 M) fun r1 => (if r1 = 0 then ((mX5_coverOf_c5 n f) v0 v1 v3 (v4 + (1 : Int32)) M) else (chk v4 400 (if 0 ≤ (M (v0 + 8) (Int32.toNatClampNeg v4)) then ((mX5_coverOf_c5 n f) v0 v1 v3 (v4 + (1 : Int32)) M) else (chk v4 400 ((mX5_coverOf_c5 n f) v0 v1 (v3 - (M (v0 + 8) (Int32.toNatClampNeg v4))) (v4 + (1 : Int32)) M)))))))
def mX5_coverOf (n : Nat) (o : Nat) (a : Int32) (b : Int32) (M : Mem) : Option Int32 := (mX5_coverOf_c5 n n o a b (0 : Int32) M)
def mX5_sumLate_c14 (n : Nat) : Nat → Nat → Int32 → Int32 → Int32 → Int32 → Int32 → Mem → Option Int32
  | 0, _, _, _, _, _, _, _ => none
  | f + 1, v0, v1, v3, v4, v5, v6, M => (if (M v0 0) ≤ v6 then (some v5) else (bnp (mX5_isOf v0 v6 v1 M) fun r1 => (if r1 = 0 then ((mX5_sumLate_c14 n f) v0 v1 v3 v4 v5 (v6 + (1 : Int32)) M) else (chk v6 400 (if (M (v0 + 8) (Int32.toNatClampNeg v6)) ≤ 0 then ((mX5_sumLate_c14 n f) v0 v1 v3 v4 v5 (v6 + (1 : Int32)) M) else (chk v6 400 (chk v6 400 (if v3 ≤ ((M (v0 + 3) (Int32.toNatClampNeg v6)) + (14 : Int32)) then ((mX5_sumLate_c14 n f) v0 v1 v3 (v4 - (if (M (v0 + 8) (Int32.toNatClampNeg v6)) < v4 then (M (v0 + 8) (Int32.toNatClampNeg v6)) else v4)) v5 (v6 + (1 : Int32)) M) else (chk v6 400 ((mX5_sumLate_c14 n f) v0 v1 v3 (v4 - (if (M (v0 + 8) (Int32.toNatClampNeg v6)) < v4 then (M (v0 + 8) (Int32.toNatClampNeg v6)) else v4)) (v5 + ((M (v0 + 8) (Int32.toNatClampNeg v6)) - (if (M (v0 + 8) (Int32.toNatClampNeg v6)) < v4 then (M (v0 + 8) (Int32.toNatClampNeg v6)) else v4))) (v6 + (1 : Int32)) M))))))))))
def mX5_sumLate (n : Nat) (o : Nat) (a : Int32) (b : Int32) (c : Int32) (M : Mem) : Option Int32 := (bnp (mX5_coverOf n o a b M) fun r3 => (mX5_sumLate_c14 n n o a c r3 (0 : Int32) (0 : Int32) M))
def mX5_haveFeeOn_c2 (n : Nat) : Nat → Nat → Int32 → Int32 → Int32 → Mem → Option Int32
  | 0, _, _, _, _, _ => none
  | f + 1, v0, v1, v2, v3, M => (if (M v0 0) ≤ v3 then (some (0 : Int32)) else (bnp (mX5_isOf v0 v3 v1 M) fun r1 => (if r1 = 0 then ((mX5_haveFeeOn_c2 n f) v0 v1 v2 (v3 + (1 : Int32)) M) else (chk v3 400 (if (M (v0 + 1) (Int32.toNatClampNeg v3)) = (5 : Int32) then (chk v3 400 (if (M (v0 + 3) (Int32.toNatClampNeg v3)) = v2 then (some (1 : Int32)) else ((mX5_haveFeeOn_c2 n f) v0 v1 v2 (v3 + (1 : Int32)) M))) else ((mX5_haveFeeOn_c2 n f) v0 v1 v2 (v3 + (1 : Int32)) M))))))
def mX5_haveFeeOn (n : Nat) (o : Nat) (a : Int32) (b : Int32) (M : Mem) : Option Int32 := (mX5_haveFeeOn_c2 n n o a b (0 : Int32) M)
def mX1_writeReminder (n : Nat) (o : Nat) (a : Int32) (M : Mem) : Option (Int32 × Mem) := (bnp (mX1_hasBegun o a M) fun r1 => (if r1 = 0 then (some ((-1 : Int32), M)) else (chk a 6 (bnp (mX5_sumLate n (o + 36) a (M ((o + 35) + 12 + Int32.toNatClampNeg a) 12) (M o 4) M) fun r4 => (if r4 = 0 then (some ((-2 : Int32), M)) else (bnp (mX5_haveRoom (o + 36) (1 : Int32) M) fun r5 => (if r5 = 0 then (some ((-3 : Int32), M)) else (bnp (mX5_haveFeeOn n (o + 36) a (M o 4) M) fun r7 => (if r7 = 0 then (bnd (mX1_write o ((o + 35) + 12 + Int32.toNatClampNeg a) (5 : Int32) (M o 4) (M o 4) (Int64.toInt32 (if (((Int32.toInt64 r4) * (Int32.toInt64 (M (o + 1) 3))) / (100 : Int64)) < (99999 : Int64) then (((Int32.toInt64 r4) * (Int32.toInt64 (M (o + 1) 3))) / (100 : Int64)) else (99999 : Int64))) M) fun r9 M10 => (some (r9, M10))) else (some ((-4 : Int32), M)))))))))))
def mX5_has (o : Nat) (a : Int32) (M : Mem) : Option Int32 := (if a < 0 then (some (0 : Int32)) else (if (M o 0) ≤ a then (some (0 : Int32)) else (if (400 : Int32) ≤ a then (some (0 : Int32)) else (some (1 : Int32)))))
def mX5_link (o : Nat) (a : Int32) (b : Int32) (M : Mem) : Option Mem := (bnp (mX5_has o a M) fun r1 => (if r1 = 0 then (some M) else (bnp (mX5_has o b M) fun r3 => (if r3 = 0 then (some M) else (chk a 400 (chk b 400 (some (upd2 (upd2 M (o + 9) (Int32.toNatClampNeg a) b) (o + 10) (Int32.toNatClampNeg b) a))))))))
def mX1_turnRound (o : Nat) (a : Int32) (M : Mem) : Option (Int32 × Mem) := (bnp (mX5_has (o + 36) a M) fun r1 => (if r1 = 0 then (some ((-1 : Int32), M)) else (chk a 400 (if (M ((o + 36) + 1) (Int32.toNatClampNeg a)) = (4 : Int32) then (some ((-2 : Int32), M)) else (chk a 400 (if (M ((o + 36) + 10) (Int32.toNatClampNeg a)) < 0 then (bnp (mX5_haveRoom (o + 36) (1 : Int32) M) fun r3 => (if r3 = 0 then (some ((-3 : Int32), M)) else (chk a 400 (chk a 400 (bnp (mX10_isAccount (M ((o + 36) + 2) (Int32.toNatClampNeg a))) fun r5 => (if r5 = 0 then (some ((-4 : Int32), M)) else (chk (M ((o + 36) + 2) (Int32.toNatClampNeg a)) 6 (if 0 ≤ ((M ((o + 35) + 12 + Int32.toNatClampNeg (M ((o + 36) + 2) (Int32.toNatClampNeg a))) 13) + (-(M ((o + 36) + 8) (Int32.toNatClampNeg a)))) then (bnd (mX5_add (o + 36) (4 : Int32) (M ((o + 36) + 2) (Int32.toNatClampNeg a)) (M o 4) (-(M ((o + 36) + 8) (Int32.toNatClampNeg a))) M) fun r8 M9 => (chk a 400 (chk a 400 (chk a 400 (chk a 400 (bnp (mX5_describe (o + 36) r8 (M9 ((o + 36) + 4) (Int32.toNatClampNeg a)) (M9 ((o + 36) + 7) (Int32.toNatClampNeg a)) (M9 ((o + 36) + 5) (Int32.toNatClampNeg a)) (M9 ((o + 36) + 6) (Int32.toNatClampNeg a)) M9) fun M11 => (bnp (mX5_link (o + 36) r8 a M11) fun M13 => (chk (M ((o + 36) + 2) (Int32.toNatClampNeg a)) 6 (lt (upd2 M13 ((o + 35) + 12 + Int32.toNatClampNeg (M ((o + 36) + 2) (Int32.toNatClampNeg a))) 13 ((M13 ((o + 35) + 12 + Int32.toNatClampNeg (M ((o + 36) + 2) (Int32.toNatClampNeg a))) 13) + (-(M ((o + 36) + 8) (Int32.toNatClampNeg a))))) fun M15 => (some (r8, M15))))))))))) else (some ((-4 : Int32), M)))))))))) else (some ((-2 : Int32), M))))))))
def mX1_canPassDay_c20 (n : Nat) : Nat → Nat → Int32 → Int32 → Int32 → Mem → Option Int32
  | 0, _, _, _, _, _ => none
  | f + 1, v0, v1, v2, v3, M => (if (6 : Int32) ≤ v3 then (bnp (mX5_haveRoom (v0 + 36) v2 M) fun r1 => (some r1)) else (bnp (mX1_isRunning v0 v3 M) fun r3 => (if r3 = 0 then ((mX1_canPassDay_c20 n f) v0 v1 v2 (v3 + (1 : Int32)) M) else (chk v3 6 (if (M ((v0 + 35) + 12 + Int32.toNatClampNeg v3) 9) = v1 then (chk v3 6 (bnp (mX3_nextTurn n (M ((v0 + 35) + 12 + Int32.toNatClampNeg v3) 5) v1 M) fun r7 => (if r7 ≤ (3652 : Int32) then ((mX1_canPassDay_c20 n f) v0 v1 (v2 + (2 : Int32)) (v3 + (1 : Int32)) M) else (some (0 : Int32))))) else ((mX1_canPassDay_c20 n f) v0 v1 v2 (v3 + (1 : Int32)) M))))))
def mX1_canPassDay (n : Nat) (o : Nat) (M : Mem) : Option Int32 := (if ((M o 4) + (1 : Int32)) ≤ (3652 : Int32) then (mX1_canPassDay_c20 n n o ((M o 4) + (1 : Int32)) (0 : Int32) (0 : Int32) M) else (some (0 : Int32)))
def mX1_passDay_c12 (n : Nat) : Nat → Nat → Int32 → Mem → Option Mem
  | 0, _, _, _ => none
  | f + 1, v0, v1, M => (if (6 : Int32) ≤ v1 then (some M) else (chk v1 6 (bnp (mX1_isRunning v0 v1 M) fun r2 => (if r2 = 0 then ((mX1_passDay_c12 n f) v0 (v1 + (1 : Int32)) M) else (if (M ((v0 + 35) + 12 + Int32.toNatClampNeg v1) 9) = (M v0 4) then (bnd (mX1_writeUsage n v0 ((v0 + 35) + 12 + Int32.toNatClampNeg v1) M) fun r4 M5 => (bnp (mX1_startPeriod n v0 ((v0 + 35) + 12 + Int32.toNatClampNeg v1) ((M5 ((v0 + 35) + 12 + Int32.toNatClampNeg v1) 7) + (1 : Int32)) M5) fun M7 => (bnd (mX1_writeCharge n v0 ((v0 + 35) + 12 + Int32.toNatClampNeg v1) M7) fun r8 M9 => ((mX1_passDay_c12 n f) v0 (v1 + (1 : Int32)) M9)))) else ((mX1_passDay_c12 n f) v0 (v1 + (1 : Int32)) M))))))
def mX1_passDay (n : Nat) (o : Nat) (M : Mem) : Option Mem := (mX1_passDay_c12 n n o (0 : Int32) (upd2 M o 4 ((M o 4) + (1 : Int32))))
def mX1_passDays_c16 (n : Nat) : Nat → Nat → Int32 → Int32 → Mem → Option (Int32 × Mem)
  | 0, _, _, _, _ => none
  | f + 1, v0, v1, v2, M => (if v1 ≤ v2 then (some (v2, M)) else (bnp (mX1_canPassDay n v0 M) fun r1 => (if r1 = 0 then (some (v2, M)) else (bnp (mX1_passDay n v0 M) fun M4 => ((mX1_passDays_c16 n f) v0 v1 (v2 + (1 : Int32)) M4)))))
def mX1_passDays (n : Nat) (o : Nat) (a : Int32) (M : Mem) : Option (Int32 × Mem) := (if a < (1 : Int32) then (some ((-1 : Int32), M)) else (if a ≤ (400 : Int32) then (mX1_passDays_c16 n n o a (0 : Int32) M) else (some ((-1 : Int32), M))))
def mX9_rateOn_c4 (n : Nat) : Nat → Nat → Int32 → Int32 → Int32 → Mem → Option Int32
  | 0, _, _, _, _, _ => none
  | f + 1, v0, v1, v2, v3, M => (if (M v0 4) ≤ v3 then (some v2) else (if (4 : Int32) ≤ v3 then (some v2) else (chk v3 4 (if v1 < (M (v0 + 2) (Int32.toNatClampNeg v3)) then ((mX9_rateOn_c4 n f) v0 v1 v2 (v3 + (1 : Int32)) M) else (chk v3 4 ((mX9_rateOn_c4 n f) v0 v1 (M (v0 + 3) (Int32.toNatClampNeg v3)) (v3 + (1 : Int32)) M))))))
def mX9_rateOn (n : Nat) (o : Nat) (a : Int32) (M : Mem) : Option Int32 := (mX9_rateOn_c4 n n o a (0 : Int32) (0 : Int32) M)
def mX1_hasRate (n : Nat) (o : Nat) (a : Int32) (b : Int32) (c : Int32) (M : Mem) : Option Int32 := (bnp (mX5_isOf (o + 36) a b M) fun r1 => (if r1 = 0 then (some (0 : Int32)) else (chk a 400 (bnp (mX9_rateOn n (o + 1) (M ((o + 36) + 3) (Int32.toNatClampNeg a)) M) fun r3 => (if r3 = c then (some (1 : Int32)) else (some (0 : Int32)))))))
def mX1_taxOf_c47 (n : Nat) : Nat → Nat → Int32 → Int32 → Int32 → Int64 → Int32 → Mem → Option Int32
  | 0, _, _, _, _, _, _, _ => none
  | f + 1, v0, v1, v2, v3, v4, v6, M => (if v1 ≤ v6 then (chk v1 400 (some (Int64.toInt32 ((((v4 + (Int32.toInt64 (M ((v0 + 36) + 8) (Int32.toNatClampNeg v1)))) * (Int32.toInt64 v3)) / (100 : Int64)) - ((v4 * (Int32.toInt64 v3)) / (100 : Int64)))))) else (bnp (mX1_hasRate n v0 v6 v2 v3 M) fun r1 => (if r1 = 0 then ((mX1_taxOf_c47 n f) v0 v1 v2 v3 v4 (v6 + (1 : Int32)) M) else (chk v6 400 ((mX1_taxOf_c47 n f) v0 v1 v2 v3 (v4 + (Int32.toInt64 (M ((v0 + 36) + 8) (Int32.toNatClampNeg v6)))) (v6 + (1 : Int32)) M)))))
def mX1_taxOf (n : Nat) (o : Nat) (a : Int32) (M : Mem) : Option Int32 := (bnp (mX5_has (o + 36) a M) fun r3 => (if r3 = 0 then (some (-1000000 : Int32)) else (chk a 400 (chk a 400 (bnp (mX9_rateOn n (o + 1) (M ((o + 36) + 3) (Int32.toNatClampNeg a)) M) fun r5 => (mX1_taxOf_c47 n n o a (M ((o + 36) + 2) (Int32.toNatClampNeg a)) r5 (0 : Int64) (0 : Int32) M))))))
def mX1_taxesOf_c5 (n : Nat) : Nat → Nat → Int32 → Int32 → Int64 → Int32 → Mem → Option Int32
  | 0, _, _, _, _, _, _ => none
  | f + 1, v0, v1, v2, v3, v5, M => (if (M (v0 + 36) 0) ≤ v5 then (some (Int64.toInt32 ((v3 * (Int32.toInt64 v2)) / (100 : Int64)))) else (bnp (mX1_hasRate n v0 v5 v1 v2 M) fun r1 => (if r1 = 0 then ((mX1_taxesOf_c5 n f) v0 v1 v2 v3 (v5 + (1 : Int32)) M) else (chk v5 400 ((mX1_taxesOf_c5 n f) v0 v1 v2 (v3 + (Int32.toInt64 (M ((v0 + 36) + 8) (Int32.toNatClampNeg v5)))) (v5 + (1 : Int32)) M)))))
def mX1_taxesOf (n : Nat) (o : Nat) (a : Int32) (b : Int32) (M : Mem) : Option Int32 := (mX1_taxesOf_c5 n n o a b (0 : Int64) (0 : Int32) M)
def mX1_quoteOn (n : Nat) (o : Nat) (a : Nat) (b : Int32) (c : Int32) (M : Mem) : Option Int32 := (bnp (mX9_worth n (o + 1) b a M) fun r1 => (bnp (mX0_partToEnd a r1 c M) fun r2 => (bnp (mX9_worth n (o + 1) (M a 4) a M) fun r3 => (bnp (mX0_partToEnd a r3 c M) fun r4 => (some (r2 - r4))))))
def mX1_cheapestDay_c25 (n : Nat) : Nat → Nat → Nat → Int32 → Int32 → Int32 → Int32 → Mem → Option Int32
  | 0, _, _, _, _, _, _, _ => none
  | f + 1, v0, v1, v2, v3, v4, v5, M => (if (M v1 9) ≤ v5 then (some v3) else (bnp (mX1_quoteOn n v0 v1 v2 v5 M) fun r1 => (if v4 ≤ r1 then ((mX1_cheapestDay_c25 n f) v0 v1 v2 v3 v4 (v5 + (1 : Int32)) M) else ((mX1_cheapestDay_c25 n f) v0 v1 v2 v5 r1 (v5 + (1 : Int32)) M))))
def mX1_cheapestDay (n : Nat) (o : Nat) (a : Nat) (b : Int32) (M : Mem) : Option Int32 := (bnp (mX1_quoteOn n o a b (M o 4) M) fun r2 => (mX1_cheapestDay_c25 n n o a b (M o 4) r2 ((M o 4) + (1 : Int32)) M))
def mX1_cheapestChange_c16 (n : Nat) : Nat → Nat → Nat → Int32 → Int32 → Int32 → Mem → Option Int32
  | 0, _, _, _, _, _, _ => none
  | f + 1, v0, v1, v2, v3, v4, M => (if (6 : Int32) ≤ v4 then (some v2) else (bnp (mX1_quoteOn n v0 v1 v4 (M v0 4) M) fun r1 => (if v3 ≤ r1 then ((mX1_cheapestChange_c16 n f) v0 v1 v2 v3 (v4 + (1 : Int32)) M) else ((mX1_cheapestChange_c16 n f) v0 v1 v4 r1 (v4 + (1 : Int32)) M))))
def mX1_cheapestChange (n : Nat) (o : Nat) (a : Nat) (M : Mem) : Option Int32 := (bnp (mX1_quoteOn n o a (0 : Int32) (M o 4) M) fun r2 => (mX1_cheapestChange_c16 n n o a (0 : Int32) r2 (1 : Int32) M))
def mX1_begunBits_c4 (n : Nat) : Nat → Nat → Int32 → Int32 → Mem → Option Int32
  | 0, _, _, _, _ => none
  | f + 1, v0, v1, v2, M => (if (6 : Int32) ≤ v2 then (some v1) else (chk v2 6 (if (M ((v0 + 35) + 12 + Int32.toNatClampNeg v2) 1) = 0 then ((mX1_begunBits_c4 n f) v0 (v1 ||| (0 : Int32)) (v2 + (1 : Int32)) M) else ((mX1_begunBits_c4 n f) v0 (v1 ||| ((1 : Int32) <<< (v2 &&& 31))) (v2 + (1 : Int32)) M))))
def mX1_begunBits (n : Nat) (o : Nat) (M : Mem) : Option Int32 := (mX1_begunBits_c4 n n o (0 : Int32) (0 : Int32) M)
def mX1_endedBits_c4 (n : Nat) : Nat → Nat → Int32 → Int32 → Mem → Option Int32
  | 0, _, _, _, _ => none
  | f + 1, v0, v1, v2, M => (if (6 : Int32) ≤ v2 then (some v1) else (chk v2 6 (if (M ((v0 + 35) + 12 + Int32.toNatClampNeg v2) 2) = 0 then ((mX1_endedBits_c4 n f) v0 (v1 ||| (0 : Int32)) (v2 + (1 : Int32)) M) else ((mX1_endedBits_c4 n f) v0 (v1 ||| ((1 : Int32) <<< (v2 &&& 31))) (v2 + (1 : Int32)) M))))
def mX1_endedBits (n : Nat) (o : Nat) (M : Mem) : Option Int32 := (mX1_endedBits_c4 n n o (0 : Int32) (0 : Int32) M)
def mX1_pausedBits_c4 (n : Nat) : Nat → Nat → Int32 → Int32 → Mem → Option Int32
  | 0, _, _, _, _ => none
  | f + 1, v0, v1, v2, M => (if (6 : Int32) ≤ v2 then (some v1) else (chk v2 6 (if (M ((v0 + 35) + 12 + Int32.toNatClampNeg v2) 3) = 0 then ((mX1_pausedBits_c4 n f) v0 (v1 ||| (0 : Int32)) (v2 + (1 : Int32)) M) else ((mX1_pausedBits_c4 n f) v0 (v1 ||| ((1 : Int32) <<< (v2 &&& 31))) (v2 + (1 : Int32)) M))))
def mX1_pausedBits (n : Nat) (o : Nat) (M : Mem) : Option Int32 := (mX1_pausedBits_c4 n n o (0 : Int32) (0 : Int32) M)
def mX8_start (o : Nat) (a : Int32) (M : Mem) : Option Mem := (lt (upd2 M o 1 (if (0 : Int32) < (if (400 : Int32) < a then (400 : Int32) else a) then (if (400 : Int32) < a then (400 : Int32) else a) else (0 : Int32))) fun M1 => (some (upd2 (upd2 (upd2 M1 o 2 (0 : Int32)) o 3 (0 : Int32)) o 4 (0 : Int32))))
def mX7_clear (o : Nat) (M : Mem) : Option Mem := (lt (upd2 (upd2 (upd2 (upd2 M o 0 (0 : Int32)) o 1 (0 : Int32)) o 2 (0 : Int32)) o 5 (0 : Int32)) fun M1 => (some (upd2 (upd2 (upd2 M1 o 6 (0 : Int32)) o 7 (0 : Int32)) o 8 (0 : Int32))))
def mX9_clear_c2 (n : Nat) : Nat → Nat → Int32 → Mem → Option Mem
  | 0, _, _, _ => none
  | f + 1, v0, v1, M => (if (6 : Int32) ≤ v1 then (lt (upd2 (upd2 (upd2 (upd2 M v0 1 (0 : Int32)) v0 2 (0 : Int32)) v0 3 (0 : Int32)) v0 4 (0 : Int32)) fun M1 => (some (upd2 M1 v0 7 (0 : Int32)))) else (chk v1 6 (bnp (mX7_clear ((v0 + 1) + 3 + 5 * Int32.toNatClampNeg v1) M) fun M4 => ((mX9_clear_c2 n f) v0 (v1 + (1 : Int32)) M4))))
def mX9_clear (n : Nat) (o : Nat) (M : Mem) : Option Mem := (mX9_clear_c2 n n o (0 : Int32) M)
def mX8_mark (o : Nat) (a : Int32) (b : Int32) (M : Mem) : Option Mem := (if (M o 3) = 0 then (some (upd2 (upd2 M o 3 a) o 4 b)) else (some M))
def mX8_byteAt (o : Nat) (a : Int32) (M : Mem) : Option Int32 := (if a < 0 then (some (-1 : Int32)) else (if (M o 1) ≤ a then (some (-1 : Int32)) else (if (400 : Int32) ≤ a then (some (-1 : Int32)) else (chk a 400 (some ((M 1 (Int32.toNatClampNeg a)) &&& (255 : Int32)))))))
def mX8_isSame_c3 (n : Nat) : Nat → Nat → Nat → Int32 → Int32 → Int32 → Mem → Option Int32
  | 0, _, _, _, _, _, _ => none
  | f + 1, v0, v1, v2, v3, v4, M => (if v3 ≤ v4 then (some (1 : Int32)) else (if (Int32.ofNat (sLen.getD v1 0)) ≤ v4 then (some (1 : Int32)) else (chk v4 (sLen.getD v1 0) (bnp (mX8_byteAt v0 (((M v0 2) + v4) - v2) M) fun r1 => (if ((sByt.getD v1 []).getD (Int32.toNatClampNeg v4) 0) = r1 then ((mX8_isSame_c3 n f) v0 v1 v2 v3 (v4 + (1 : Int32)) M) else (some (0 : Int32)))))))
def mX8_isSame (n : Nat) (o : Nat) (a : Nat) (b : Int32) (c : Int32) (M : Mem) : Option Int32 := (mX8_isSame_c3 n n o a b c b M)
def mX8_word_c85 (n : Nat) (k56 : Nat → Nat → Int32 → Int32 → Int32 → Int32 → Mem → Option (Int32 × Mem)) (v0 : Nat) (v1 : Nat) (v2 : Int32) (v3 : Int32) (v4 : Int32) (v5 : Int32) (M : Mem) : Option (Int32 × Mem) := (if (v5 - v3) = (v2 - (M v0 2)) then (bnp (mX8_isSame n v0 v1 v3 v5 M) fun r1 => (if r1 = 0 then (k56 v0 v1 v2 (v5 + (1 : Int32)) (v4 + (1 : Int32)) (v5 + (1 : Int32)) M) else (some (v4, (upd2 M v0 2 v2))))) else (k56 v0 v1 v2 (v5 + (1 : Int32)) (v4 + (1 : Int32)) (v5 + (1 : Int32)) M))
def mX8_word_c56 (n : Nat) : Nat → Nat → Nat → Int32 → Int32 → Int32 → Int32 → Mem → Option (Int32 × Mem)
  | 0, _, _, _, _, _, _, _ => none
  | f + 1, v0, v1, v2, v3, v4, v5, M => (if (Int32.ofNat (sLen.getD v1 0)) < v5 then (bnp (mX8_mark v0 (1 : Int32) (M v0 2) M) fun M4 => (some ((-1 : Int32), M4))) else (if v5 = (Int32.ofNat (sLen.getD v1 0)) then (mX8_word_c85 n (mX8_word_c56 n f) v0 v1 v2 v3 v4 v5 M) else (chk v5 (sLen.getD v1 0) (if ((sByt.getD v1 []).getD (Int32.toNatClampNeg v5) 0) = (32 : Int32) then (mX8_word_c85 n (mX8_word_c56 n f) v0 v1 v2 v3 v4 v5 M) else ((mX8_word_c56 n f) v0 v1 v2 v3 v4 (v5 + (1 : Int32)) M)))))
def mX8_word_c14 (n : Nat) : Nat → Nat → Nat → Int32 → Mem → Option (Int32 × Mem)
  | 0, _, _, _, _ => none
  | f + 1, v0, v1, v2, M => (if (M v0 1) ≤ v2 then (mX8_word_c56 n n v0 v1 v2 (0 : Int32) (0 : Int32) (0 : Int32) M) else (bnp (mX8_byteAt v0 v2 M) fun r5 => (if r5 < (97 : Int32) then (mX8_word_c56 n n v0 v1 v2 (0 : Int32) (0 : Int32) (0 : Int32) M) else (bnp (mX8_byteAt v0 v2 M) fun r6 => (if (122 : Int32) < r6 then (mX8_word_c56 n n v0 v1 v2 (0 : Int32) (0 : Int32) (0 : Int32) M) else ((mX8_word_c14 n f) v0 v1 (v2 + (1 : Int32)) M))))))
def mX8_word (n : Nat) (o : Nat) (a : Nat) (M : Mem) : Option (Int32 × Mem) := (if (M o 3) = 0 then (mX8_word_c14 n n o a (M o 2) M) else (some ((-1 : Int32), M)))
def mX8_blank (o : Nat) (M : Mem) : Option Mem := (if (M o 3) = 0 then (bnp (mX8_byteAt o (M o 2) M) fun r1 => (if r1 = (32 : Int32) then (some (upd2 M o 2 ((M o 2) + (1 : Int32)))) else (bnp (mX8_mark o (1 : Int32) (M o 2) M) fun M3 => (some M3)))) else (some M))
def mX8_isSound (o : Nat) (M : Mem) : Option Int32 := (if (M o 3) = 0 then (some (1 : Int32)) else (some (0 : Int32)))
def mX8_number_c122 (n : Nat) (v0 : Nat) (v1 : Int32) (v2 : Int32) (v3 : Int32) (v4 : Int32) (M : Mem) : Option (Int32 × Mem) := (if (M v0 2) = v3 then (bnp (mX8_mark v0 (1 : Int32) v3 M) fun M6 => (if (M6 v0 3) = 0 then (some (v4, M6)) else (some (v1, M6)))) else (if v4 < v1 then (bnp (mX8_mark v0 (3 : Int32) v3 M) fun M2 => (if (M2 v0 3) = 0 then (some (v4, M2)) else (some (v1, M2)))) else (if v4 ≤ v2 then (if (M v0 3) = 0 then (some (v4, M)) else (some (v1, M))) else (bnp (mX8_mark v0 (3 : Int32) v3 M) fun M4 => (if (M4 v0 3) = 0 then (some (v4, M4)) else (some (v1, M4)))))))
def mX8_number_c87 (n : Nat) (v0 : Nat) (v1 : Int32) (v2 : Int32) (v3 : Int32) (v4 : Int32) (v5 : Int32) (M : Mem) : Option (Int32 × Mem) := (if (M v0 2) = (v3 + (5 : Int32)) then (if v5 < (48 : Int32) then (mX8_number_c122 n v0 v1 v2 v3 v4 M) else (if (57 : Int32) < v5 then (mX8_number_c122 n v0 v1 v2 v3 v4 M) else (bnp (mX8_mark v0 (2 : Int32) (M v0 2) M) fun M8 => (some (v1, M8))))) else (mX8_number_c122 n v0 v1 v2 v3 v4 M))
def mX8_number_c27 (n : Nat) : Nat → Nat → Int32 → Int32 → Int32 → Int32 → Int32 → Mem → Option (Int32 × Mem)
  | 0, _, _, _, _, _, _, _ => none
  | f + 1, v0, v1, v2, v3, v4, v5, M => (if (v3 + (5 : Int32)) ≤ (M v0 2) then (mX8_number_c87 n v0 v1 v2 v3 v4 v5 M) else (if v5 < (48 : Int32) then (mX8_number_c87 n v0 v1 v2 v3 v4 v5 M) else (if (57 : Int32) < v5 then (mX8_number_c87 n v0 v1 v2 v3 v4 v5 M) else (bnp (mX8_byteAt v0 ((upd2 M v0 2 ((M v0 2) + (1 : Int32))) v0 2) (upd2 M v0 2 ((M v0 2) + (1 : Int32)))) fun r9 => ((mX8_number_c27 n f) v0 v1 v2 v3 (((v4 * (10 : Int32)) + v5) - (48 : Int32)) r9 (upd2 M v0 2 ((M v0 2) + (1 : Int32))))))))
def mX8_number (n : Nat) (o : Nat) (a : Int32) (b : Int32) (M : Mem) : Option (Int32 × Mem) := (if (M o 3) = 0 then (bnp (mX8_byteAt o (M o 2) M) fun r10 => (mX8_number_c27 n n o a b (M o 2) (0 : Int32) r10 M)) else (some (a, M)))
def mX9_isAboveTaxes (o : Nat) (a : Int32) (M : Mem) : Option Int32 := (if (M o 4) < (1 : Int32) then (some (1 : Int32)) else (if (4 : Int32) < (M o 4) then (some (1 : Int32)) else (chk ((M o 4) - (1 : Int32)) 4 (if a ≤ (M (o + 2) (Int32.toNatClampNeg ((M o 4) - (1 : Int32)))) then (some (0 : Int32)) else (some (1 : Int32))))))
def mX9_addTax (o : Nat) (a : Int32) (b : Int32) (M : Mem) : Option Mem := (if (M o 4) < 0 then (some M) else (if (4 : Int32) ≤ (M o 4) then (some M) else (chk (M o 4) 4 (chk ((upd2 M (o + 2) (Int32.toNatClampNeg (M o 4)) a) o 4) 4 (lt (upd2 (upd2 M (o + 2) (Int32.toNatClampNeg (M o 4)) a) (o + 3) (Int32.toNatClampNeg ((upd2 M (o + 2) (Int32.toNatClampNeg (M o 4)) a) o 4)) b) fun M1 => (some (upd2 M1 o 4 ((M1 o 4) + (1 : Int32)))))))))
def mX2_readTax (n : Nat) (M : Mem) : Option Mem := (bnd (mX8_number n 198 (0 : Int32) (3652 : Int32) M) fun r1 M2 => (bnp (mX9_isAboveTaxes 164 r1 M2) fun r3 => (if r3 = 0 then (bnp (mX8_mark 198 (6 : Int32) (M 198 2) M2) fun M12 => (bnp (mX8_blank 198 M12) fun M14 => (bnd (mX8_number n 198 (0 : Int32) (100 : Int32) M14) fun r15 M16 => (bnp (mX9_addTax 164 r1 r15 M16) fun M18 => (some M18))))) else (bnp (mX8_blank 198 M2) fun M6 => (bnd (mX8_number n 198 (0 : Int32) (100 : Int32) M6) fun r7 M8 => (bnp (mX9_addTax 164 r1 r7 M8) fun M10 => (some M10)))))))
def mX8_planLetter (o : Nat) (M : Mem) : Option (Int32 × Mem) := (bnp (mX8_byteAt o (M o 2) M) fun r1 => (if (M o 3) = 0 then (if r1 < (65 : Int32) then (bnp (mX8_mark o (1 : Int32) (M o 2) M) fun M3 => (some ((0 : Int32), M3))) else (if r1 ≤ (70 : Int32) then (some ((r1 - (65 : Int32)), (upd2 M o 2 ((M o 2) + (1 : Int32))))) else (bnp (mX8_mark o (1 : Int32) (M o 2) M) fun M5 => (some ((0 : Int32), M5))))) else (some ((0 : Int32), M))))
def mX7_isAboveBounds (o : Nat) (a : Int32) (M : Mem) : Option Int32 := (if (M o 2) < (1 : Int32) then (some (1 : Int32)) else (if (4 : Int32) < (M o 2) then (some (1 : Int32)) else (chk ((M o 2) - (1 : Int32)) 4 (if a ≤ (M (o + 1) (Int32.toNatClampNeg ((M o 2) - (1 : Int32)))) then (some (0 : Int32)) else (some (1 : Int32))))))
def mX7_addTier (o : Nat) (a : Int32) (b : Int32) (M : Mem) : Option Mem := (if (M o 2) < 0 then (some M) else (if (4 : Int32) ≤ (M o 2) then (some M) else (chk (M o 2) 4 (chk ((upd2 M (o + 1) (Int32.toNatClampNeg (M o 2)) a) o 2) 4 (lt (upd2 (upd2 M (o + 1) (Int32.toNatClampNeg (M o 2)) a) (o + 2) (Int32.toNatClampNeg ((upd2 M (o + 1) (Int32.toNatClampNeg (M o 2)) a) o 2)) b) fun M1 => (some (upd2 M1 o 2 ((M1 o 2) + (1 : Int32)))))))))
def mX2_readTier (n : Nat) (a : Nat) (M : Mem) : Option Mem := (bnd (mX8_number n 198 (1 : Int32) (9999 : Int32) M) fun r1 M2 => (bnp (mX7_isAboveBounds a r1 M2) fun r3 => (if r3 = 0 then (bnp (mX8_mark 198 (6 : Int32) (M 198 2) M2) fun M12 => (bnp (mX8_blank 198 M12) fun M14 => (bnd (mX8_number n 198 (0 : Int32) (99 : Int32) M14) fun r15 M16 => (bnp (mX7_addTier a r1 r15 M16) fun M18 => (some M18))))) else (bnp (mX8_blank 198 M2) fun M6 => (bnd (mX8_number n 198 (0 : Int32) (99 : Int32) M6) fun r7 M8 => (bnp (mX7_addTier a r1 r7 M8) fun M10 => (some M10)))))))
def mX7_isAboveBulks (o : Nat) (a : Int32) (M : Mem) : Option Int32 := (if (M o 8) < (1 : Int32) then (some (1 : Int32)) else (if (3 : Int32) < (M o 8) then (some (1 : Int32)) else (chk ((M o 8) - (1 : Int32)) 3 (if a ≤ (M (o + 3) (Int32.toNatClampNeg ((M o 8) - (1 : Int32)))) then (some (0 : Int32)) else (some (1 : Int32))))))
def mX7_addBulk (o : Nat) (a : Int32) (b : Int32) (M : Mem) : Option Mem := (if (M o 8) < 0 then (some M) else (if (3 : Int32) ≤ (M o 8) then (some M) else (chk (M o 8) 3 (chk ((upd2 M (o + 3) (Int32.toNatClampNeg (M o 8)) a) o 8) 3 (lt (upd2 (upd2 M (o + 3) (Int32.toNatClampNeg (M o 8)) a) (o + 4) (Int32.toNatClampNeg ((upd2 M (o + 3) (Int32.toNatClampNeg (M o 8)) a) o 8)) b) fun M1 => (some (upd2 M1 o 8 ((M1 o 8) + (1 : Int32)))))))))
def mX2_readBulk (n : Nat) (a : Nat) (M : Mem) : Option Mem := (bnd (mX8_number n 198 (2 : Int32) (9 : Int32) M) fun r1 M2 => (bnp (mX7_isAboveBulks a r1 M2) fun r3 => (if r3 = 0 then (bnp (mX8_mark 198 (6 : Int32) (M 198 2) M2) fun M12 => (bnp (mX8_blank 198 M12) fun M14 => (bnd (mX8_number n 198 (0 : Int32) (100 : Int32) M14) fun r15 M16 => (bnp (mX7_addBulk a r1 r15 M16) fun M18 => (some M18))))) else (bnp (mX8_blank 198 M2) fun M6 => (bnd (mX8_number n 198 (0 : Int32) (100 : Int32) M6) fun r7 M8 => (bnp (mX7_addBulk a r1 r7 M8) fun M10 => (some M10)))))))
def mX2_readOfPlan_c60 (n : Nat) (v1 : Int32) (v3 : Nat) (M : Mem) : Option Mem := (bnp (mX8_blank 198 M) fun M2 => (bnp (mX8_isSound 198 M2) fun r3 => (if r3 = 0 then (some M2) else (if v1 = (0 : Int32) then (bnd (mX8_number n 198 (0 : Int32) (99999 : Int32) M2) fun r5 M6 => (some (upd2 M6 v3 0 r5))) else (if v1 = (1 : Int32) then (bnd (mX8_number n 198 (0 : Int32) (9999 : Int32) M2) fun r8 M9 => (some (upd2 M9 v3 1 r8))) else (if v1 = (2 : Int32) then (bnp (mX2_readTier n v3 M2) fun M12 => (some M12)) else (if v1 = (3 : Int32) then (bnd (mX8_number n 198 (0 : Int32) (99 : Int32) M2) fun r14 M15 => (some (upd2 M15 v3 5 r14))) else (if v1 = (4 : Int32) then (bnd (mX8_word n 198 1 M2) fun r17 M18 => (if r17 = (1 : Int32) then (some (upd2 M18 v3 6 (1 : Int32))) else (some (upd2 M18 v3 6 (0 : Int32))))) else (if v1 = (5 : Int32) then (bnd (mX8_number n 198 (0 : Int32) (100 : Int32) M2) fun r20 M21 => (some (upd2 M21 v3 7 r20))) else (bnp (mX2_readBulk n v3 M2) fun M24 => (some M24)))))))))))
def mX2_readOfPlan_c36 (n : Nat) (v1 : Int32) (v2 : Int32) (v3 : Nat) (M : Mem) : Option Mem := (if v1 = (6 : Int32) then (if (M v3 8) < (3 : Int32) then (mX2_readOfPlan_c60 n v1 v3 M) else (bnp (mX8_mark 198 (6 : Int32) v2 M) fun M26 => (mX2_readOfPlan_c60 n v1 v3 M26))) else (mX2_readOfPlan_c60 n v1 v3 M))
def mX2_readOfPlan (n : Nat) (a : Int32) (M : Mem) : Option Mem := (bnd (mX8_planLetter 198 M) fun r27 M28 => (bnp (mX9_termsOf 164 r27) fun r29 => (if a = (2 : Int32) then (if (4 : Int32) ≤ (M28 r29 2) then (bnp (mX8_mark 198 (6 : Int32) (M 198 2) M28) fun M32 => (mX2_readOfPlan_c60 n a r29 M32)) else (mX2_readOfPlan_c36 n a (M 198 2) r29 M28)) else (mX2_readOfPlan_c36 n a (M 198 2) r29 M28))))
def mX2_readClause_c45 (n : Nat) (v2 : Int32) (M : Mem) : Option Mem := (bnp (mX8_blank 198 M) fun M2 => (bnp (mX8_isSound 198 M2) fun r3 => (if r3 = 0 then (some M2) else (if v2 = (7 : Int32) then (bnd (mX8_number n 198 (0 : Int32) (100 : Int32) M2) fun r5 M6 => (bnp (mX8_blank 198 (upd2 M6 164 1 r5)) fun M8 => (bnd (mX8_number n 198 (0 : Int32) (99 : Int32) M8) fun r9 M10 => (some (upd2 M10 164 2 r9))))) else (if v2 = (8 : Int32) then (bnd (mX8_number n 198 (0 : Int32) (20 : Int32) M2) fun r12 M13 => (some (upd2 M13 164 3 r12))) else (if v2 = (9 : Int32) then (bnp (mX2_readTax n M2) fun M16 => (some M16)) else (bnp (mX2_readOfPlan n v2 M2) fun M19 => (some M19))))))))
def mX2_readClause (n : Nat) (M : Mem) : Option Mem := (bnd (mX8_word n 198 0 M) fun r20 M21 => (if r20 = (9 : Int32) then (if (M21 164 4) < (4 : Int32) then (mX2_readClause_c45 n r20 M21) else (bnp (mX8_mark 198 (6 : Int32) (M 198 2) M21) fun M23 => (mX2_readClause_c45 n r20 M23))) else (mX2_readClause_c45 n r20 M21)))
def mX8_goesOn (o : Nat) (M : Mem) : Option (Int32 × Mem) := (if (M o 3) = 0 then (if (M o 2) < (M o 1) then (bnp (mX8_byteAt o (M o 2) M) fun r1 => (if r1 = (59 : Int32) then (some ((1 : Int32), (upd2 M o 2 ((M o 2) + (1 : Int32))))) else (bnp (mX8_mark o (1 : Int32) (M o 2) M) fun M3 => (some ((0 : Int32), M3))))) else (some ((0 : Int32), M))) else (some ((0 : Int32), M)))
def mX8_faultAnswer (o : Nat) (M : Mem) : Option Int32 := (some (((-1000 : Int32) * (M o 3)) - (M o 4)))
def mX2_read_c19 (n : Nat) : Nat → Int32 → Int32 → Mem → Option (Int32 × Mem)
  | 0, _, _, _ => none
  | f + 1, v2, v3, M => (if (20 : Int32) < v3 then (bnp (mX8_faultAnswer 198 M) fun r1 => (some (r1, M))) else (if v2 = 0 then (bnp (mX8_faultAnswer 198 M) fun r2 => (some (r2, M))) else (if v3 = (20 : Int32) then (bnp (mX8_mark 198 (4 : Int32) (M 198 2) M) fun M9 => (bnd (mX8_goesOn 198 M9) fun r10 M11 => ((mX2_read_c19 n f) r10 (v3 + (1 : Int32)) M11))) else (bnp (mX2_readClause n M) fun M4 => (bnd (mX8_goesOn 198 (upd2 M4 164 7 ((M4 164 7) + (1 : Int32)))) fun r5 M6 => ((mX2_read_c19 n f) r5 (v3 + (1 : Int32)) M6))))))
def mX2_read (n : Nat) (a : Int32) (M : Mem) : Option (Int32 × Mem) := (bnp (mX8_start 198 a M) fun M14 => (bnp (mX9_clear n 164 M14) fun M16 => (mX2_read_c19 n n (1 : Int32) (0 : Int32) M16)))
def mX3_lengthOf (a : Int32) : Option Int32 := (if ((a + (11 : Int32)) - (a + (11 : Int32)) / (12 : Int32) * (12 : Int32)) = (1 : Int32) then (if (((a + (11 : Int32)) / (12 : Int32)) - ((a + (11 : Int32)) / (12 : Int32)) / (4 : Int32) * (4 : Int32)) = (1 : Int32) then (some (29 : Int32)) else (some (28 : Int32))) else (if ((a + (11 : Int32)) - (a + (11 : Int32)) / (12 : Int32) * (12 : Int32)) = (2 : Int32) then (some (31 : Int32)) else (if ((a + (11 : Int32)) - (a + (11 : Int32)) / (12 : Int32) * (12 : Int32)) = (3 : Int32) then (some (30 : Int32)) else (if ((a + (11 : Int32)) - (a + (11 : Int32)) / (12 : Int32) * (12 : Int32)) = (4 : Int32) then (some (31 : Int32)) else (if ((a + (11 : Int32)) - (a + (11 : Int32)) / (12 : Int32) * (12 : Int32)) = (5 : Int32) then (some (30 : Int32)) else (if ((a + (11 : Int32)) - (a + (11 : Int32)) / (12 : Int32) * (12 : Int32)) = (6 : Int32) then (some (31 : Int32)) else (if ((a + (11 : Int32)) - (a + (11 : Int32)) / (12 : Int32) * (12 : Int32)) = (7 : Int32) then (some (31 : Int32)) else (if ((a + (11 : Int32)) - (a + (11 : Int32)) / (12 : Int32) * (12 : Int32)) = (8 : Int32) then (some (30 : Int32)) else (if ((a + (11 : Int32)) - (a + (11 : Int32)) / (12 : Int32) * (12 : Int32)) = (9 : Int32) then (some (31 : Int32)) else (if ((a + (11 : Int32)) - (a + (11 : Int32)) / (12 : Int32) * (12 : Int32)) = (10 : Int32) then (some (30 : Int32)) else (some (31 : Int32))))))))))))
def mX3_yearOf (n : Nat) (a : Int32) (M : Mem) : Option Int32 := (bnp (mX3_monthWith n a M) fun r1 => (some ((2023 : Int32) + ((r1 + (11 : Int32)) / (12 : Int32)))))
def mX3_monthOf (n : Nat) (a : Int32) (M : Mem) : Option Int32 := (bnp (mX3_monthWith n a M) fun r1 => (some (((r1 + (11 : Int32)) - (r1 + (11 : Int32)) / (12 : Int32) * (12 : Int32)) + (1 : Int32))))
def mX3_dayOfMonth (n : Nat) (a : Int32) (M : Mem) : Option Int32 := (bnp (mX3_monthWith n a M) fun r1 => (chk r1 123 (some ((a - (M 3 (Int32.toNatClampNeg r1))) + (1 : Int32)))))
def mX3_dayOf (a : Int32) (b : Int32) (c : Int32) (M : Mem) : Option Int32 := (if a < (2024 : Int32) then (some (-1 : Int32)) else (if (2033 : Int32) < a then (some (-1 : Int32)) else (if b < (1 : Int32) then (some (-1 : Int32)) else (if (12 : Int32) < b then (some (-1 : Int32)) else (if (1 : Int32) ≤ c then (if (123 : Int32) ≤ ((((a - (2024 : Int32)) * (12 : Int32)) + b) + (1 : Int32)) then (some (-1 : Int32)) else (chk ((((a - (2024 : Int32)) * (12 : Int32)) + b) + (1 : Int32)) 123 (chk (((a - (2024 : Int32)) * (12 : Int32)) + b) 123 (if c ≤ ((M 3 (Int32.toNatClampNeg ((((a - (2024 : Int32)) * (12 : Int32)) + b) + (1 : Int32)))) - (M 3 (Int32.toNatClampNeg (((a - (2024 : Int32)) * (12 : Int32)) + b)))) then (chk (((a - (2024 : Int32)) * (12 : Int32)) + b) 123 (some (((M 3 (Int32.toNatClampNeg (((a - (2024 : Int32)) * (12 : Int32)) + b))) + c) - (1 : Int32)))) else (some (-1 : Int32)))))) else (some (-1 : Int32)))))))
def mX8_accountDigit (o : Nat) (M : Mem) : Option (Int32 × Mem) := (bnp (mX8_byteAt o (M o 2) M) fun r1 => (if (M o 3) = 0 then (if r1 < (48 : Int32) then (bnp (mX8_mark o (1 : Int32) (M o 2) M) fun M3 => (some ((0 : Int32), M3))) else (if r1 ≤ (57 : Int32) then (if (r1 - (48 : Int32)) < (6 : Int32) then (some ((r1 - (48 : Int32)), (upd2 M o 2 ((M o 2) + (1 : Int32))))) else (bnp (mX8_mark o (3 : Int32) (M o 2) M) fun M5 => (some ((0 : Int32), M5)))) else (bnp (mX8_mark o (1 : Int32) (M o 2) M) fun M7 => (some ((0 : Int32), M7))))) else (some ((0 : Int32), M))))
def mX4_readStep_c100 (n : Nat) (v1 : Int32) (v2 : Int32) (M : Mem) : Option Mem := (chk v2 13 (if ((folL.getD (Int32.toNatClampNeg v2) 0) &&& (4 : Int32)) = 0 then (some M) else (bnp (mX8_blank 204 M) fun M2 => (bnd (mX8_number n 204 (0 : Int32) (99999 : Int32) M2) fun r3 M4 => (chk v1 24 (some (upd2 M4 203 (Int32.toNatClampNeg v1) r3)))))))
def mX4_readStep_c70 (n : Nat) (v1 : Int32) (v2 : Int32) (M : Mem) : Option Mem := (chk v2 13 (if ((folL.getD (Int32.toNatClampNeg v2) 0) &&& (2 : Int32)) = 0 then (mX4_readStep_c100 n v1 v2 M) else (bnp (mX8_blank 204 M) fun M6 => (bnd (mX8_planLetter 204 M6) fun r7 M8 => (chk v1 24 (mX4_readStep_c100 n v1 v2 (upd2 M8 202 (Int32.toNatClampNeg v1) r7)))))))
def mX4_readStep (n : Nat) (a : Int32) (M : Mem) : Option Mem := (bnd (mX8_word n 204 2 M) fun r9 M10 => (if r9 < 0 then (some M10) else (if (13 : Int32) ≤ r9 then (some M10) else (if a < 0 then (some M10) else (if a < (24 : Int32) then (chk a 24 (chk r9 13 (if ((folL.getD (Int32.toNatClampNeg r9) 0) &&& (1 : Int32)) = 0 then (mX4_readStep_c70 n a r9 (upd2 M10 200 (Int32.toNatClampNeg a) r9)) else (bnp (mX8_blank 204 (upd2 M10 200 (Int32.toNatClampNeg a) r9)) fun M12 => (bnd (mX8_accountDigit 204 M12) fun r13 M14 => (chk a 24 (mX4_readStep_c70 n a r9 (upd2 M14 201 (Int32.toNatClampNeg a) r13)))))))) else (some M10))))))
def mX4_read_c17 (n : Nat) : Nat → Int32 → Int32 → Mem → Option (Int32 × Mem)
  | 0, _, _, _ => none
  | f + 1, v2, v3, M => (if (24 : Int32) < v3 then (bnp (mX8_faultAnswer 204 M) fun r1 => (some (r1, M))) else (if v2 = 0 then (bnp (mX8_faultAnswer 204 M) fun r2 => (some (r2, M))) else (if v3 = (24 : Int32) then (bnp (mX8_mark 204 (4 : Int32) (M 204 2) M) fun M9 => (bnd (mX8_goesOn 204 M9) fun r10 M11 => ((mX4_read_c17 n f) r10 (v3 + (1 : Int32)) M11))) else (bnp (mX4_readStep n v3 M) fun M4 => (bnd (mX8_goesOn 204 (upd2 M4 199 1 ((M4 199 1) + (1 : Int32)))) fun r5 M6 => ((mX4_read_c17 n f) r5 (v3 + (1 : Int32)) M6))))))
def mX4_read (n : Nat) (a : Int32) (M : Mem) : Option (Int32 × Mem) := (bnp (mX8_start 204 a M) fun M14 => (mX4_read_c17 n n (1 : Int32) (0 : Int32) (upd2 M14 199 1 (0 : Int32))))
def mX4_isDone (n : Nat) (a : Int32) (b : Nat) (M : Mem) : Option (Int32 × Mem) := (if a < 0 then (some ((0 : Int32), M)) else (if (M 199 1) ≤ a then (some ((0 : Int32), M)) else (if a < (24 : Int32) then (chk a 24 (chk a 24 (chk a 24 (if (M 200 (Int32.toNatClampNeg a)) = (0 : Int32) then (chk a 24 (bnd (mX1_startAccount n b (M 201 (Int32.toNatClampNeg a)) (M 202 (Int32.toNatClampNeg a)) (M 203 (Int32.toNatClampNeg a)) M) fun r1 M2 => (if r1 < 0 then (some ((0 : Int32), M2)) else (some ((1 : Int32), M2))))) else (if (M 200 (Int32.toNatClampNeg a)) = (1 : Int32) then (chk a 24 (bnd (mX1_putPlan n b (M 201 (Int32.toNatClampNeg a)) (M 202 (Int32.toNatClampNeg a)) M) fun r4 M5 => (if r4 ≤ (-1000000 : Int32) then (some ((0 : Int32), M5)) else (some ((1 : Int32), M5))))) else (if (M 200 (Int32.toNatClampNeg a)) = (2 : Int32) then (bnd (mX1_putSeats n b (M 201 (Int32.toNatClampNeg a)) (M 203 (Int32.toNatClampNeg a)) M) fun r7 M8 => (if r7 ≤ (-1000000 : Int32) then (some ((0 : Int32), M8)) else (some ((1 : Int32), M8)))) else (if (M 200 (Int32.toNatClampNeg a)) = (3 : Int32) then (bnd (mX1_putPaused n b (M 201 (Int32.toNatClampNeg a)) (1 : Int32) M) fun r10 M11 => (if r10 ≤ (-1000000 : Int32) then (some ((0 : Int32), M11)) else (some ((1 : Int32), M11)))) else (if (M 200 (Int32.toNatClampNeg a)) = (4 : Int32) then (bnd (mX1_putPaused n b (M 201 (Int32.toNatClampNeg a)) (0 : Int32) M) fun r13 M14 => (if r13 ≤ (-1000000 : Int32) then (some ((0 : Int32), M14)) else (some ((1 : Int32), M14)))) else (if (M 200 (Int32.toNatClampNeg a)) = (5 : Int32) then (bnd (mX1_endAccount n b (M 201 (Int32.toNatClampNeg a)) M) fun r16 M17 => (if r16 ≤ (-1000000 : Int32) then (some ((0 : Int32), M17)) else (some ((1 : Int32), M17)))) else (if (M 200 (Int32.toNatClampNeg a)) = (6 : Int32) then (bnd (mX1_addUnits b (M 201 (Int32.toNatClampNeg a)) (M 203 (Int32.toNatClampNeg a)) M) fun r19 M20 => (if r19 < 0 then (some ((0 : Int32), M20)) else (some ((1 : Int32), M20)))) else (if (M 200 (Int32.toNatClampNeg a)) = (7 : Int32) then (bnd (mX1_passDays n b (M 203 (Int32.toNatClampNeg a)) M) fun r22 M23 => (if r22 < 0 then (some ((0 : Int32), M23)) else (some ((1 : Int32), M23)))) else (if (M 200 (Int32.toNatClampNeg a)) = (8 : Int32) then (bnd (mX1_grantFavour b (M 201 (Int32.toNatClampNeg a)) (M 203 (Int32.toNatClampNeg a)) M) fun r25 M26 => (if r25 ≤ (-1000000 : Int32) then (some ((0 : Int32), M26)) else (some ((1 : Int32), M26)))) else (if (M 200 (Int32.toNatClampNeg a)) = (9 : Int32) then (bnd (mX1_takePayment b (M 201 (Int32.toNatClampNeg a)) (M 203 (Int32.toNatClampNeg a)) M) fun r28 M29 => (if r28 < 0 then (some ((0 : Int32), M29)) else (some ((1 : Int32), M29)))) else (if (M 200 (Int32.toNatClampNeg a)) = (10 : Int32) then (bnd (mX1_writeReminder n b (M 201 (Int32.toNatClampNeg a)) M) fun r31 M32 => (if r31 < 0 then (some ((0 : Int32), M32)) else (some ((1 : Int32), M32)))) else (if (M 200 (Int32.toNatClampNeg a)) = (11 : Int32) then (bnd (mX1_putAnchor n b (M 201 (Int32.toNatClampNeg a)) (M 203 (Int32.toNatClampNeg a)) M) fun r34 M35 => (if r34 ≤ (-1000000 : Int32) then (some ((0 : Int32), M35)) else (some ((1 : Int32), M35)))) else (bnd (mX1_turnRound b (M 203 (Int32.toNatClampNeg a)) M) fun r37 M38 => (if r37 < 0 then (some ((0 : Int32), M38)) else (some ((1 : Int32), M38))))))))))))))))))) else (some ((0 : Int32), M)))))
def mX5_howManyOf_c4 (n : Nat) : Nat → Nat → Int32 → Int32 → Int32 → Mem → Option Int32
  | 0, _, _, _, _, _ => none
  | f + 1, v0, v1, v2, v3, M => (if (M v0 0) ≤ v3 then (some v2) else (bnp (mX5_isOf v0 v3 v1 M) fun r1 => (if r1 = 0 then ((mX5_howManyOf_c4 n f) v0 v1 v2 (v3 + (1 : Int32)) M) else ((mX5_howManyOf_c4 n f) v0 v1 (v2 + (1 : Int32)) (v3 + (1 : Int32)) M))))
def mX5_howManyOf (n : Nat) (o : Nat) (a : Int32) (M : Mem) : Option Int32 := (mX5_howManyOf_c4 n n o a (0 : Int32) (0 : Int32) M)
def mX5_sumOfKind_c5 (n : Nat) : Nat → Nat → Int32 → Int32 → Int32 → Int32 → Mem → Option Int32
  | 0, _, _, _, _, _, _ => none
  | f + 1, v0, v1, v2, v3, v4, M => (if (M v0 0) ≤ v4 then (some v3) else (bnp (mX5_isOf v0 v4 v1 M) fun r1 => (if r1 = 0 then ((mX5_sumOfKind_c5 n f) v0 v1 v2 v3 (v4 + (1 : Int32)) M) else (chk v4 400 (if (M (v0 + 1) (Int32.toNatClampNeg v4)) = v2 then (chk v4 400 ((mX5_sumOfKind_c5 n f) v0 v1 v2 (v3 + (M (v0 + 8) (Int32.toNatClampNeg v4))) (v4 + (1 : Int32)) M)) else ((mX5_sumOfKind_c5 n f) v0 v1 v2 v3 (v4 + (1 : Int32)) M))))))
def mX5_sumOfKind (n : Nat) (o : Nat) (a : Int32) (b : Int32) (M : Mem) : Option Int32 := (mX5_sumOfKind_c5 n n o a b (0 : Int32) (0 : Int32) M)
def mX5_sumOfPeriod_c5 (n : Nat) : Nat → Nat → Int32 → Int32 → Int32 → Int32 → Mem → Option Int32
  | 0, _, _, _, _, _, _ => none
  | f + 1, v0, v1, v2, v3, v4, M => (if (M v0 0) ≤ v4 then (some v3) else (bnp (mX5_isOf v0 v4 v1 M) fun r1 => (if r1 = 0 then ((mX5_sumOfPeriod_c5 n f) v0 v1 v2 v3 (v4 + (1 : Int32)) M) else (chk v4 400 (if (M (v0 + 4) (Int32.toNatClampNeg v4)) = v2 then (chk v4 400 ((mX5_sumOfPeriod_c5 n f) v0 v1 v2 (v3 + (M (v0 + 8) (Int32.toNatClampNeg v4))) (v4 + (1 : Int32)) M)) else ((mX5_sumOfPeriod_c5 n f) v0 v1 v2 v3 (v4 + (1 : Int32)) M))))))
def mX5_sumOfPeriod (n : Nat) (o : Nat) (a : Int32) (b : Int32) (M : Mem) : Option Int32 := (mX5_sumOfPeriod_c5 n n o a b (0 : Int32) (0 : Int32) M)
def mX5_sumWritten_c5 (n : Nat) : Nat → Nat → Int32 → Int32 → Int32 → Int32 → Mem → Option Int32
  | 0, _, _, _, _, _, _ => none
  | f + 1, v0, v1, v2, v3, v4, M => (if (M v0 0) ≤ v4 then (some v3) else (if (400 : Int32) ≤ v4 then (some v3) else (chk v4 400 (if (M (v0 + 3) (Int32.toNatClampNeg v4)) < v1 then ((mX5_sumWritten_c5 n f) v0 v1 v2 v3 (v4 + (1 : Int32)) M) else (chk v4 400 (if v2 < (M (v0 + 3) (Int32.toNatClampNeg v4)) then ((mX5_sumWritten_c5 n f) v0 v1 v2 v3 (v4 + (1 : Int32)) M) else (chk v4 400 ((mX5_sumWritten_c5 n f) v0 v1 v2 (v3 + (M (v0 + 8) (Int32.toNatClampNeg v4))) (v4 + (1 : Int32)) M))))))))
def mX5_sumWritten (n : Nat) (o : Nat) (a : Int32) (b : Int32) (M : Mem) : Option Int32 := (mX5_sumWritten_c5 n n o a b (0 : Int32) (0 : Int32) M)
def mX5_openOf_c34 (n : Nat) : Nat → Nat → Int32 → Int32 → Int32 → Mem → Option Int32
  | 0, _, _, _, _, _ => none
  | f + 1, v0, v1, v3, v4, M => (if v1 ≤ v4 then (chk v1 400 (chk v1 400 (some ((M (v0 + 8) (Int32.toNatClampNeg v1)) - (if (M (v0 + 8) (Int32.toNatClampNeg v1)) < v3 then (M (v0 + 8) (Int32.toNatClampNeg v1)) else v3))))) else (chk v1 400 (bnp (mX5_isOf v0 v4 (M (v0 + 2) (Int32.toNatClampNeg v1)) M) fun r1 => (if r1 = 0 then ((mX5_openOf_c34 n f) v0 v1 v3 (v4 + (1 : Int32)) M) else (chk v4 400 (if (M (v0 + 8) (Int32.toNatClampNeg v4)) ≤ 0 then ((mX5_openOf_c34 n f) v0 v1 v3 (v4 + (1 : Int32)) M) else (chk v4 400 ((mX5_openOf_c34 n f) v0 v1 (v3 - (if (M (v0 + 8) (Int32.toNatClampNeg v4)) < v3 then (M (v0 + 8) (Int32.toNatClampNeg v4)) else v3)) (v4 + (1 : Int32)) M))))))))
def mX5_openOf (n : Nat) (o : Nat) (a : Int32) (b : Int32) (M : Mem) : Option Int32 := (bnp (mX5_has o a M) fun r3 => (if r3 = 0 then (some (0 : Int32)) else (chk a 400 (if 0 < (M (o + 8) (Int32.toNatClampNeg a)) then (chk a 400 (bnp (mX5_coverOf n o (M (o + 2) (Int32.toNatClampNeg a)) b M) fun r5 => (mX5_openOf_c34 n n o a r5 (0 : Int32) M))) else (some (0 : Int32))))))
def mX5_tellOpen_c21 (n : Nat) : Nat → Nat → Int32 → Int32 → Int32 → Int32 → Int32 → Int32 → Int32 → Mem → Option Int32
  | 0, _, _, _, _, _, _, _, _, _ => none
  | f + 1, v0, v1, v3, v4, v5, v6, v7, v8, M => (if (M v0 0) ≤ v8 then (if v3 = (0 : Int32) then (some v5) else (if v3 = (1 : Int32) then (some v6) else (if v3 = (2 : Int32) then (some v7) else (some v4)))) else (bnp (mX5_isOf v0 v8 v1 M) fun r4 => (if r4 = 0 then ((mX5_tellOpen_c21 n f) v0 v1 v3 v4 v5 v6 v7 (v8 + (1 : Int32)) M) else (chk v8 400 (if (M (v0 + 8) (Int32.toNatClampNeg v8)) ≤ 0 then ((mX5_tellOpen_c21 n f) v0 v1 v3 v4 v5 v6 v7 (v8 + (1 : Int32)) M) else (chk v8 400 (chk v8 400 (if (M (v0 + 8) (Int32.toNatClampNeg v8)) ≤ (if (M (v0 + 8) (Int32.toNatClampNeg v8)) < v4 then (M (v0 + 8) (Int32.toNatClampNeg v8)) else v4) then ((mX5_tellOpen_c21 n f) v0 v1 v3 (v4 - (if (M (v0 + 8) (Int32.toNatClampNeg v8)) < v4 then (M (v0 + 8) (Int32.toNatClampNeg v8)) else v4)) v5 v6 v7 (v8 + (1 : Int32)) M) else (if v5 = 0 then (chk v8 400 ((mX5_tellOpen_c21 n f) v0 v1 v3 (v4 - (if (M (v0 + 8) (Int32.toNatClampNeg v8)) < v4 then (M (v0 + 8) (Int32.toNatClampNeg v8)) else v4)) (v5 + (1 : Int32)) v8 (v7 + ((M (v0 + 8) (Int32.toNatClampNeg v8)) - (if (M (v0 + 8) (Int32.toNatClampNeg v8)) < v4 then (M (v0 + 8) (Int32.toNatClampNeg v8)) else v4))) (v8 + (1 : Int32)) M)) else (chk v8 400 ((mX5_tellOpen_c21 n f) v0 v1 v3 (v4 - (if (M (v0 + 8) (Int32.toNatClampNeg v8)) < v4 then (M (v0 + 8) (Int32.toNatClampNeg v8)) else v4)) (v5 + (1 : Int32)) v6 (v7 + ((M (v0 + 8) (Int32.toNatClampNeg v8)) - (if (M (v0 + 8) (Int32.toNatClampNeg v8)) < v4 then (M (v0 + 8) (Int32.toNatClampNeg v8)) else v4))) (v8 + (1 : Int32)) M)))))))))))
def mX5_tellOpen (n : Nat) (o : Nat) (a : Int32) (b : Int32) (c : Int32) (M : Mem) : Option Int32 := (bnp (mX5_coverOf n o a b M) fun r6 => (mX5_tellOpen_c21 n n o a c r6 (0 : Int32) (-2 : Int32) (0 : Int32) (0 : Int32) M))
def mX5_earnedOf (o : Nat) (a : Int32) (b : Int32) (M : Mem) : Option Int32 := (bnp (mX5_has o a M) fun r1 => (if r1 = 0 then (some (0 : Int32)) else (chk a 400 (chk a 400 (chk a 400 (if (1 : Int32) < (M (o + 1) (Int32.toNatClampNeg a)) then (chk a 400 (if b ≤ (M (o + 3) (Int32.toNatClampNeg a)) then (some (0 : Int32)) else (chk a 400 (some (M (o + 8) (Int32.toNatClampNeg a)))))) else (if (1 : Int32) ≤ ((M (o + 6) (Int32.toNatClampNeg a)) - (M (o + 5) (Int32.toNatClampNeg a))) then (chk a 400 (chk a 400 (dvi ((M (o + 6) (Int32.toNatClampNeg a)) - (M (o + 5) (Int32.toNatClampNeg a))) (some (((M (o + 8) (Int32.toNatClampNeg a)) * (if (0 : Int32) < (if (b - (M (o + 5) (Int32.toNatClampNeg a))) < ((M (o + 6) (Int32.toNatClampNeg a)) - (M (o + 5) (Int32.toNatClampNeg a))) then (b - (M (o + 5) (Int32.toNatClampNeg a))) else ((M (o + 6) (Int32.toNatClampNeg a)) - (M (o + 5) (Int32.toNatClampNeg a)))) then (if (b - (M (o + 5) (Int32.toNatClampNeg a))) < ((M (o + 6) (Int32.toNatClampNeg a)) - (M (o + 5) (Int32.toNatClampNeg a))) then (b - (M (o + 5) (Int32.toNatClampNeg a))) else ((M (o + 6) (Int32.toNatClampNeg a)) - (M (o + 5) (Int32.toNatClampNeg a)))) else (0 : Int32))) / ((M (o + 6) (Int32.toNatClampNeg a)) - (M (o + 5) (Int32.toNatClampNeg a)))))))) else (chk a 400 (if b ≤ (M (o + 3) (Int32.toNatClampNeg a)) then (some (0 : Int32)) else (chk a 400 (some (M (o + 8) (Int32.toNatClampNeg a)))))))))))))
def mX5_sumEarned_c5 (n : Nat) : Nat → Nat → Int32 → Int32 → Int32 → Int32 → Mem → Option Int32
  | 0, _, _, _, _, _, _ => none
  | f + 1, v0, v1, v2, v3, v4, M => (if (M v0 0) ≤ v4 then (some v3) else (bnp (mX5_isOf v0 v4 v1 M) fun r1 => (if r1 = 0 then ((mX5_sumEarned_c5 n f) v0 v1 v2 v3 (v4 + (1 : Int32)) M) else (bnp (mX5_earnedOf v0 v4 v2 M) fun r3 => ((mX5_sumEarned_c5 n f) v0 v1 v2 (v3 + r3) (v4 + (1 : Int32)) M)))))
def mX5_sumEarned (n : Nat) (o : Nat) (a : Int32) (b : Int32) (M : Mem) : Option Int32 := (mX5_sumEarned_c5 n n o a b (0 : Int32) (0 : Int32) M)
def mX5_tell (o : Nat) (a : Int32) (b : Int32) (M : Mem) : Option Int32 := (bnp (mX5_has o a M) fun r1 => (if r1 = 0 then (some (-1000000 : Int32)) else (if b = (0 : Int32) then (chk a 400 (some (M (o + 1) (Int32.toNatClampNeg a)))) else (if b = (1 : Int32) then (chk a 400 (some (M (o + 2) (Int32.toNatClampNeg a)))) else (if b = (2 : Int32) then (chk a 400 (some (M (o + 3) (Int32.toNatClampNeg a)))) else (if b = (3 : Int32) then (chk a 400 (some (M (o + 4) (Int32.toNatClampNeg a)))) else (if b = (4 : Int32) then (chk a 400 (some (M (o + 5) (Int32.toNatClampNeg a)))) else (if b = (5 : Int32) then (chk a 400 (some (M (o + 6) (Int32.toNatClampNeg a)))) else (if b = (6 : Int32) then (chk a 400 (some (M (o + 7) (Int32.toNatClampNeg a)))) else (if b = (7 : Int32) then (chk a 400 (some (M (o + 8) (Int32.toNatClampNeg a)))) else (if b = (8 : Int32) then (chk a 400 (some (M (o + 9) (Int32.toNatClampNeg a)))) else (if b = (9 : Int32) then (chk a 400 (some (M (o + 10) (Int32.toNatClampNeg a)))) else (some (-1000000 : Int32))))))))))))))
def mX6_byteAt (a : Int32) (M : Mem) : Option Int32 := (if a < 0 then (some (-4 : Int32)) else (if (M 205 2) ≤ a then (some (-4 : Int32)) else (if (80 : Int32) ≤ a then (some (-4 : Int32)) else (chk a 80 (some ((M 206 (Int32.toNatClampNeg a)) &&& (255 : Int32)))))))
def mX6_put (a : Int32) (M : Mem) : Option Mem := (if (M 205 2) < 0 then (some M) else (if (80 : Int32) ≤ (M 205 2) then (some M) else (chk (M 205 2) 80 (lt (upd2 M 206 (Int32.toNatClampNeg (M 205 2)) (vp_nar .byte (Int8.toInt32 (Int32.toInt8 a)))) fun M1 => (some (upd2 M1 205 2 ((M1 205 2) + (1 : Int32))))))))
def mX6_putNumber_c40 (n : Nat) : Nat → Int32 → Int32 → Int32 → Mem → Option Mem
  | 0, _, _, _, _ => none
  | f + 1, v1, v3, v4, M => (if (10 : Int32) ≤ v4 then (some M) else (if v3 ≤ 0 then (some M) else (dvi v3 (bnp (mX6_put ((48 : Int32) + ((v1 / v3) - (v1 / v3) / (10 : Int32) * (10 : Int32))) M) fun M2 => ((mX6_putNumber_c40 n f) v1 (v3 / (10 : Int32)) (v4 + (1 : Int32)) M2)))))
def mX6_putNumber_c5 (n : Nat) : Nat → Int32 → Int32 → Int32 → Int32 → Mem → Option Mem
  | 0, _, _, _, _, _ => none
  | f + 1, v1, v2, v3, v4, M => (if (10 : Int32) ≤ v4 then (mX6_putNumber_c40 n n v1 v3 (0 : Int32) M) else (if v4 < v2 then ((mX6_putNumber_c5 n f) v1 v2 (v3 * (10 : Int32)) (v4 + (1 : Int32)) M) else (if (v1 / (10 : Int32)) < v3 then (mX6_putNumber_c40 n n v1 v3 (0 : Int32) M) else ((mX6_putNumber_c5 n f) v1 v2 (v3 * (10 : Int32)) (v4 + (1 : Int32)) M))))
end
section
def mX6_putNumber (n : Nat) (a : Int32) (b : Int32) (M : Mem) : Option Mem := (mX6_putNumber_c5 n n a b (1 : Int32) (1 : Int32) M)
def mX6_putDate (n : Nat) (a : Int32) (M : Mem) : Option Mem := (bnp (mX3_yearOf n a M) fun r1 => (bnp (mX6_putNumber n r1 (4 : Int32) M) fun M3 => (bnp (mX6_put (45 : Int32) M3) fun M5 => (bnp (mX3_monthOf n a M5) fun r6 => (bnp (mX6_putNumber n r6 (2 : Int32) M5) fun M8 => (bnp (mX6_put (45 : Int32) M8) fun M10 => (bnp (mX3_dayOfMonth n a M10) fun r11 => (bnp (mX6_putNumber n r11 (2 : Int32) M10) fun M13 => (some M13)))))))))
def mX6_putKind_c7 (n : Nat) : Nat → Int32 → Int32 → Mem → Option Mem
  | 0, _, _, _ => none
  | f + 1, v2, v3, M => (if v3 < 0 then (some M) else (if (v2 + (6 : Int32)) ≤ v3 then (some M) else (if (Int32.ofNat (sLen.getD 3 0)) ≤ v3 then (some M) else (chk v3 (sLen.getD 3 0) (if ((sByt.getD 3 []).getD (Int32.toNatClampNeg v3) 0) = (32 : Int32) then ((mX6_putKind_c7 n f) v2 (v3 + (1 : Int32)) M) else (chk v3 (sLen.getD 3 0) (bnp (mX6_put ((sByt.getD 3 []).getD (Int32.toNatClampNeg v3) 0) M) fun M2 => ((mX6_putKind_c7 n f) v2 (v3 + (1 : Int32)) M2))))))))
def mX6_putKind (n : Nat) (a : Int32) (M : Mem) : Option Mem := (mX6_putKind_c7 n n (a * (6 : Int32)) (a * (6 : Int32)) M)
def mX6_putEuros_c10 (n : Nat) (v1 : Int32) (M : Mem) : Option Mem := (bnp (mX6_putNumber n ((if 0 ≤ v1 then v1 else 0 - v1) / (100 : Int32)) (1 : Int32) M) fun M2 => (bnp (mX6_put (46 : Int32) M2) fun M4 => (bnp (mX6_putNumber n ((if 0 ≤ v1 then v1 else 0 - v1) - (if 0 ≤ v1 then v1 else 0 - v1) / (100 : Int32) * (100 : Int32)) (2 : Int32) M4) fun M6 => (some M6))))
def mX6_putEuros (n : Nat) (a : Int32) (M : Mem) : Option Mem := (if 0 ≤ a then (mX6_putEuros_c10 n a M) else (bnp (mX6_put (45 : Int32) M) fun M8 => (mX6_putEuros_c10 n a M8)))
def mX6_write (n : Nat) (a : Nat) (b : Int32) (M : Mem) : Option Mem := (bnp (mX5_has a b (upd2 M 205 2 (0 : Int32))) fun r1 => (if r1 = 0 then (some (upd2 M 205 2 (0 : Int32))) else (bnp (mX6_put (80 : Int32) (upd2 M 205 2 (0 : Int32))) fun M4 => (chk b 400 (bnp (mX6_putNumber n (M4 (a + 4) (Int32.toNatClampNeg b)) (1 : Int32) M4) fun M6 => (bnp (mX6_put (32 : Int32) M6) fun M8 => (chk b 400 (bnp (mX6_putDate n (M8 (a + 5) (Int32.toNatClampNeg b)) M8) fun M10 => (bnp (mX6_put (32 : Int32) M10) fun M12 => (bnp (mX6_put (116 : Int32) M12) fun M14 => (bnp (mX6_put (111 : Int32) M14) fun M16 => (bnp (mX6_put (32 : Int32) M16) fun M18 => (chk b 400 (bnp (mX6_putDate n (M18 (a + 6) (Int32.toNatClampNeg b)) M18) fun M20 => (bnp (mX6_put (32 : Int32) M20) fun M22 => (chk b 400 (bnp (mX6_put ((65 : Int32) + (M22 (a + 7) (Int32.toNatClampNeg b))) M22) fun M24 => (bnp (mX6_put (32 : Int32) M24) fun M26 => (chk b 400 (bnp (mX6_putKind n (M26 (a + 1) (Int32.toNatClampNeg b)) M26) fun M28 => (bnp (mX6_put (32 : Int32) M28) fun M30 => (chk b 400 (bnp (mX6_putEuros n (M30 (a + 8) (Int32.toNatClampNeg b)) M30) fun M32 => (some M32))))))))))))))))))))))))
def mX7_mostWhole_c4 (n : Nat) : Nat → Nat → Int32 → Int32 → Int32 → Mem → Option Int32
  | 0, _, _, _, _, _ => none
  | f + 1, v0, v1, v2, v3, M => (if (M v0 2) ≤ v3 then (if (M v0 5) ≤ 0 then (some (9999 : Int32)) else (dvi (M v0 5) (some (if v2 < (v1 / (M v0 5)) then (v1 / (M v0 5)) else v2)))) else (if (4 : Int32) ≤ v3 then (if (M v0 5) ≤ 0 then (some (9999 : Int32)) else (dvi (M v0 5) (some (if v2 < (v1 / (M v0 5)) then (v1 / (M v0 5)) else v2)))) else (chk v3 4 (if (M (v0 + 2) (Int32.toNatClampNeg v3)) ≤ 0 then (chk v3 4 ((mX7_mostWhole_c4 n f) v0 v1 (M (v0 + 1) (Int32.toNatClampNeg v3)) (v3 + (1 : Int32)) M)) else (chk v3 4 (chk v3 4 (if ((M (v0 + 1) (Int32.toNatClampNeg v3)) * (M (v0 + 2) (Int32.toNatClampNeg v3))) ≤ v1 then (chk v3 4 ((mX7_mostWhole_c4 n f) v0 v1 (M (v0 + 1) (Int32.toNatClampNeg v3)) (v3 + (1 : Int32)) M)) else (chk v3 4 (dvi (M (v0 + 2) (Int32.toNatClampNeg v3)) (some (if v2 < (v1 / (M (v0 + 2) (Int32.toNatClampNeg v3))) then (v1 / (M (v0 + 2) (Int32.toNatClampNeg v3))) else v2)))))))))))
def mX7_mostWhole (n : Nat) (o : Nat) (a : Int32) (M : Mem) : Option Int32 := (mX7_mostWhole_c4 n n o a (0 : Int32) (0 : Int32) M)
def mX7_mostAdded_c7 (n : Nat) : Nat → Nat → Int32 → Int32 → Int32 → Mem → Option Int32
  | 0, _, _, _, _, _ => none
  | f + 1, v0, v2, v3, v4, M => (if (M v0 2) ≤ v4 then (if (M v0 5) ≤ 0 then (some (9999 : Int32)) else (dvi (M v0 5) (some (v2 + (v3 / (M v0 5)))))) else (if (4 : Int32) ≤ v4 then (if (M v0 5) ≤ 0 then (some (9999 : Int32)) else (dvi (M v0 5) (some (v2 + (v3 / (M v0 5)))))) else (chk v4 4 (chk v4 4 (chk v4 4 (if (M (v0 + 2) (Int32.toNatClampNeg v4)) ≤ 0 then (chk v4 4 ((mX7_mostAdded_c7 n f) v0 (M (v0 + 1) (Int32.toNatClampNeg v4)) (v3 - (((M (v0 + 1) (Int32.toNatClampNeg v4)) - v2) * (M (v0 + 2) (Int32.toNatClampNeg v4)))) (v4 + (1 : Int32)) M)) else (if (((M (v0 + 1) (Int32.toNatClampNeg v4)) - v2) * (M (v0 + 2) (Int32.toNatClampNeg v4))) ≤ v3 then (chk v4 4 ((mX7_mostAdded_c7 n f) v0 (M (v0 + 1) (Int32.toNatClampNeg v4)) (v3 - (((M (v0 + 1) (Int32.toNatClampNeg v4)) - v2) * (M (v0 + 2) (Int32.toNatClampNeg v4)))) (v4 + (1 : Int32)) M)) else (chk v4 4 (dvi (M (v0 + 2) (Int32.toNatClampNeg v4)) (some (v2 + (v3 / (M (v0 + 2) (Int32.toNatClampNeg v4))))))))))))))
def mX7_mostAdded (n : Nat) (o : Nat) (a : Int32) (M : Mem) : Option Int32 := (mX7_mostAdded_c7 n n o (0 : Int32) a (0 : Int32) M)
def mX7_mostUnits (n : Nat) (o : Nat) (a : Int32) (M : Mem) : Option Int32 := (if (M o 6) = 0 then (bnp (mX7_mostAdded n o a M) fun r1 => (some (if ((M o 1) + r1) < (9999 : Int32) then ((M o 1) + r1) else (9999 : Int32)))) else (bnp (mX7_mostWhole n o a M) fun r2 => (some (if ((M o 1) + r2) < (9999 : Int32) then ((M o 1) + r2) else (9999 : Int32)))))
def mX10_tellOf (a : Nat) (b : Int32) (c : Int32) (M : Mem) : Option Int32 := (if c < 0 then (some (-2 : Int32)) else (if b ≤ c then (some (-2 : Int32)) else (if (Int32.ofNat (GS.2.1 a)) ≤ c then (some (-2 : Int32)) else (chk c (GS.2.1 a) (some (M a (Int32.toNatClampNeg c)))))))
def mX7_tell (o : Nat) (a : Int32) (M : Mem) : Option Int32 := (if a = (0 : Int32) then (some (M o 0)) else (if a = (1 : Int32) then (some (M o 1)) else (if a = (2 : Int32) then (some (M o 2)) else (if a = (3 : Int32) then (some (M o 5)) else (if a = (4 : Int32) then (if (M o 6) = 0 then (some (0 : Int32)) else (some (1 : Int32))) else (if a = (5 : Int32) then (some (M o 7)) else (if a = (6 : Int32) then (some (-1 : Int32)) else (if a = (7 : Int32) then (some (-1 : Int32)) else (if a = (8 : Int32) then (some (-1 : Int32)) else (if a = (9 : Int32) then (some (-1 : Int32)) else (if a = (10 : Int32) then (bnp (mX10_tellOf (o + 1) (M o 2) (a - (10 : Int32)) M) fun r11 => (some r11)) else (if a = (11 : Int32) then (bnp (mX10_tellOf (o + 1) (M o 2) (a - (10 : Int32)) M) fun r13 => (some r13)) else (if a = (12 : Int32) then (bnp (mX10_tellOf (o + 1) (M o 2) (a - (10 : Int32)) M) fun r15 => (some r15)) else (if a = (13 : Int32) then (bnp (mX10_tellOf (o + 1) (M o 2) (a - (10 : Int32)) M) fun r17 => (some r17)) else (if a = (14 : Int32) then (some (-1 : Int32)) else (if a = (15 : Int32) then (some (-1 : Int32)) else (if a = (16 : Int32) then (some (-1 : Int32)) else (if a = (17 : Int32) then (some (-1 : Int32)) else (if a = (18 : Int32) then (some (-1 : Int32)) else (if a = (19 : Int32) then (some (-1 : Int32)) else (if a = (20 : Int32) then (bnp (mX10_tellOf (o + 2) (M o 2) (a - (20 : Int32)) M) fun r25 => (some r25)) else (if a = (21 : Int32) then (bnp (mX10_tellOf (o + 2) (M o 2) (a - (20 : Int32)) M) fun r27 => (some r27)) else (if a = (22 : Int32) then (bnp (mX10_tellOf (o + 2) (M o 2) (a - (20 : Int32)) M) fun r29 => (some r29)) else (if a = (23 : Int32) then (bnp (mX10_tellOf (o + 2) (M o 2) (a - (20 : Int32)) M) fun r31 => (some r31)) else (if a = (24 : Int32) then (some (-1 : Int32)) else (if a = (25 : Int32) then (some (-1 : Int32)) else (if a = (26 : Int32) then (some (-1 : Int32)) else (if a = (27 : Int32) then (some (-1 : Int32)) else (if a = (28 : Int32) then (some (-1 : Int32)) else (if a = (29 : Int32) then (some (-1 : Int32)) else (if a = (30 : Int32) then (bnp (mX10_tellOf (o + 3) (M o 8) (a - (30 : Int32)) M) fun r39 => (some r39)) else (if a = (31 : Int32) then (bnp (mX10_tellOf (o + 3) (M o 8) (a - (30 : Int32)) M) fun r41 => (some r41)) else (if a = (32 : Int32) then (bnp (mX10_tellOf (o + 3) (M o 8) (a - (30 : Int32)) M) fun r43 => (some r43)) else (if a = (33 : Int32) then (some (-1 : Int32)) else (if a = (34 : Int32) then (some (-1 : Int32)) else (if a = (35 : Int32) then (some (-1 : Int32)) else (if a = (36 : Int32) then (some (-1 : Int32)) else (if a = (37 : Int32) then (some (-1 : Int32)) else (if a = (38 : Int32) then (some (-1 : Int32)) else (if a = (39 : Int32) then (some (-1 : Int32)) else (if a = (40 : Int32) then (bnp (mX10_tellOf (o + 4) (M o 8) (a - (40 : Int32)) M) fun r52 => (some r52)) else (if a = (41 : Int32) then (bnp (mX10_tellOf (o + 4) (M o 8) (a - (40 : Int32)) M) fun r54 => (some r54)) else (if a = (42 : Int32) then (bnp (mX10_tellOf (o + 4) (M o 8) (a - (40 : Int32)) M) fun r56 => (some r56)) else (some (-1 : Int32)))))))))))))))))))))))))))))))))))))))))))))
def mX9_cheapestPlan_c7 (n : Nat) : Nat → Nat → Int32 → Int32 → Int32 → Int32 → Mem → Option Int32
  | 0, _, _, _, _, _, _ => none
  | f + 1, v0, v1, v2, v3, v4, M => (if (6 : Int32) ≤ v4 then (some v2) else (chk v4 6 (chk v4 6 (bnp (mX7_usageOf n ((v0 + 1) + 3 + 5 * Int32.toNatClampNeg v4) v1 M) fun r3 => (if v4 = 0 then ((mX9_cheapestPlan_c7 n f) v0 v1 v4 ((M ((v0 + 1) + 3 + 5 * Int32.toNatClampNeg v4) 0) + r3) (v4 + (1 : Int32)) M) else (if v3 ≤ ((M ((v0 + 1) + 3 + 5 * Int32.toNatClampNeg v4) 0) + r3) then ((mX9_cheapestPlan_c7 n f) v0 v1 v2 v3 (v4 + (1 : Int32)) M) else ((mX9_cheapestPlan_c7 n f) v0 v1 v4 ((M ((v0 + 1) + 3 + 5 * Int32.toNatClampNeg v4) 0) + r3) (v4 + (1 : Int32)) M)))))))
def mX9_cheapestPlan (n : Nat) (o : Nat) (a : Int32) (M : Mem) : Option Int32 := (mX9_cheapestPlan_c7 n n o a (0 : Int32) (0 : Int32) (0 : Int32) M)
def mX9_tell (o : Nat) (a : Int32) (M : Mem) : Option Int32 := (if a = (0 : Int32) then (some (M o 1)) else (if a = (1 : Int32) then (some (M o 2)) else (if a = (2 : Int32) then (some (-1 : Int32)) else (if a = (3 : Int32) then (some (-1 : Int32)) else (if a = (4 : Int32) then (some (-1 : Int32)) else (if a = (5 : Int32) then (some (-1 : Int32)) else (if a = (6 : Int32) then (some (-1 : Int32)) else (if a = (7 : Int32) then (some (M o 3)) else (if a = (8 : Int32) then (some (-1 : Int32)) else (if a = (9 : Int32) then (some (-1 : Int32)) else (if a = (10 : Int32) then (bnp (mX10_tellOf (o + 2) (M o 4) (a - (10 : Int32)) M) fun r11 => (some r11)) else (if a = (11 : Int32) then (bnp (mX10_tellOf (o + 2) (M o 4) (a - (10 : Int32)) M) fun r13 => (some r13)) else (if a = (12 : Int32) then (bnp (mX10_tellOf (o + 2) (M o 4) (a - (10 : Int32)) M) fun r15 => (some r15)) else (if a = (13 : Int32) then (bnp (mX10_tellOf (o + 2) (M o 4) (a - (10 : Int32)) M) fun r17 => (some r17)) else (if a = (14 : Int32) then (some (-1 : Int32)) else (if a = (15 : Int32) then (some (-1 : Int32)) else (if a = (16 : Int32) then (some (-1 : Int32)) else (if a = (17 : Int32) then (some (-1 : Int32)) else (if a = (18 : Int32) then (some (-1 : Int32)) else (if a = (19 : Int32) then (some (-1 : Int32)) else (if a = (20 : Int32) then (bnp (mX10_tellOf (o + 3) (M o 4) (a - (20 : Int32)) M) fun r25 => (some r25)) else (if a = (21 : Int32) then (bnp (mX10_tellOf (o + 3) (M o 4) (a - (20 : Int32)) M) fun r27 => (some r27)) else (if a = (22 : Int32) then (bnp (mX10_tellOf (o + 3) (M o 4) (a - (20 : Int32)) M) fun r29 => (some r29)) else (if a = (23 : Int32) then (bnp (mX10_tellOf (o + 3) (M o 4) (a - (20 : Int32)) M) fun r31 => (some r31)) else (some (-1 : Int32))))))))))))))))))))))))))
def mX10_putOnTape_c3 (n : Nat) : Nat → Int32 → Int32 → Mem → Option Mem
  | 0, _, _, _ => none
  | f + 1, v1, v2, M => (if v2 < 0 then (some M) else (if (M 0 1) < 0 then ((mX10_putOnTape_c3 n f) v1 (v2 + (-8 : Int32)) M) else (if (400 : Int32) ≤ (M 0 1) then ((mX10_putOnTape_c3 n f) v1 (v2 + (-8 : Int32)) M) else (chk (M 0 1) 400 (lt (upd2 M 1 (Int32.toNatClampNeg (M 0 1)) (vp_nar .byte (Int8.toInt32 (Int32.toInt8 (v1 >>> (v2 &&& 31)))))) fun M1 => ((mX10_putOnTape_c3 n f) v1 (v2 + (-8 : Int32)) (upd2 M1 0 1 ((M1 0 1) + (1 : Int32)))))))))
def mX10_putOnTape (n : Nat) (a : Int32) (M : Mem) : Option Mem := (mX10_putOnTape_c3 n n a (24 : Int32) M)
def mX10_feed (n : Nat) (a : Int32) (b : Int32) (c : Int32) (d : Int32) (e0 : Int32) (M : Mem) : Option (Int32 × Mem) := (if ((M 0 1) + (20 : Int32)) ≤ (400 : Int32) then (bnp (mX10_putOnTape n a M) fun M2 => (bnp (mX10_putOnTape n b M2) fun M4 => (bnp (mX10_putOnTape n c M4) fun M6 => (bnp (mX10_putOnTape n d M6) fun M8 => (bnp (mX10_putOnTape n e0 M8) fun M10 => (some ((M10 0 1), M10))))))) else (some ((-1 : Int32), M)))
def mX10_hasText (a : Int32) (M : Mem) : Option Int32 := (if a < (1 : Int32) then (some (0 : Int32)) else (if (200 : Int32) < a then (some (0 : Int32)) else (if (M 0 1) < a then (some (0 : Int32)) else (some (1 : Int32)))))
def mX10_book (n : Nat) (a : Int32) (M : Mem) : Option (Int32 × Mem) := (bnp (mX10_hasText a M) fun r1 => (if r1 = 0 then (some ((-1 : Int32), M)) else (if ((upd2 M 0 1 (0 : Int32)) 40 0) ≤ 0 then (bnd (mX2_read n a (upd2 M 0 1 (0 : Int32))) fun r3 M4 => (if r3 = 0 then (bnp (mX9_copyFrom n 5 164 M4) fun M6 => (some ((M6 5 7), M6))) else (some (r3, M4)))) else (some ((-3 : Int32), (upd2 M 0 1 (0 : Int32)))))))
def mX10_deeds_c32 (n : Nat) : Nat → Int32 → Mem → Option (Int32 × Mem)
  | 0, _, _ => none
  | f + 1, v3, M => (if (M 199 1) ≤ v3 then (some (v3, M)) else (bnd (mX4_isDone n v3 4 M) fun r1 M2 => (if r1 = 0 then (some (v3, M2)) else ((mX10_deeds_c32 n f) (v3 + (1 : Int32)) M2))))
def mX10_deeds (n : Nat) (a : Int32) (M : Mem) : Option (Int32 × Mem) := (bnp (mX10_hasText a M) fun r4 => (if r4 = 0 then (some ((-1 : Int32), M)) else (bnd (mX4_read n a (upd2 M 0 1 (0 : Int32))) fun r6 M7 => (if r6 = 0 then (mX10_deeds_c32 n n (0 : Int32) M7) else (some (r6, M7))))))
def mX10_tried_c85 (n : Nat) (v2 : Int32) (M : Mem) : Option (Int32 × Mem) := (bnp (mX1_hasBegun 110 v2 M) fun r1 => (if r1 = 0 then (some ((-1000000 : Int32), M)) else (chk v2 6 (some ((M (145 + 12 + Int32.toNatClampNeg v2) 13), M)))))
def mX10_tried_c51 (n : Nat) : Nat → Int32 → Int32 → Mem → Option (Int32 × Mem)
  | 0, _, _, _ => none
  | f + 1, v2, v4, M => (if (M 199 1) ≤ v4 then (mX10_tried_c85 n v2 M) else (bnd (mX4_isDone n v4 110 M) fun r4 M5 => (if r4 = 0 then (mX10_tried_c85 n v2 M5) else ((mX10_tried_c51 n f) v2 (v4 + (1 : Int32)) M5))))
def mX10_tried (n : Nat) (a : Int32) (b : Int32) (M : Mem) : Option (Int32 × Mem) := (bnp (mX10_isAccount b) fun r7 => (if r7 = 0 then (some ((-1 : Int32), M)) else (bnp (mX10_hasText a M) fun r9 => (if r9 = 0 then (some ((-1 : Int32), M)) else (bnd (mX4_read n a (upd2 M 0 1 (0 : Int32))) fun r11 M12 => (if r11 = 0 then (bnp (mX1_copyFrom n 110 4 M12) fun M14 => (mX10_tried_c51 n n b (0 : Int32) M14)) else (some (r11, M12))))))))
def mX10_check_c29 (n : Nat) : Nat → Int32 → Int32 → Mem → Option (Int32 × Mem)
  | 0, _, _, _ => none
  | f + 1, v1, v2, M => (if v1 ≤ v2 then (some ((-1 : Int32), M)) else (if (400 : Int32) ≤ v2 then (some ((-1 : Int32), M)) else (bnp (mX5_has 40 v2 M) fun r1 => (if r1 = 0 then (some (v2, M)) else (chk v2 400 (chk v2 400 (if ((M 48 (Int32.toNatClampNeg v2)) &&& (255 : Int32)) = ((M 1 (Int32.toNatClampNeg v2)) &&& (255 : Int32)) then ((mX10_check_c29 n f) v1 (v2 + (1 : Int32)) M) else (some (v2, M)))))))))
def mX10_check (n : Nat) (a : Int32) (M : Mem) : Option (Int32 × Mem) := (if a < 0 then (some ((-2 : Int32), M)) else (if (400 : Int32) < a then (some ((-2 : Int32), M)) else (if a ≤ (M 0 1) then (mX10_check_c29 n n a (0 : Int32) (upd2 M 0 1 (0 : Int32))) else (some ((-2 : Int32), M)))))
def mX10_keep (n : Nat) (M : Mem) : Option (Int32 × Mem) := (bnp (mX1_copyFrom n 57 4 M) fun M2 => (some (((upd2 M2 0 6 (1 : Int32)) 40 0), (upd2 M2 0 6 (1 : Int32)))))
def mX10_undo (n : Nat) (M : Mem) : Option (Int32 × Mem) := (if (M 0 6) = 0 then (some ((0 : Int32), M)) else (bnp (mX1_copyFrom n 4 57 M) fun M2 => (some ((1 : Int32), M2))))
def mX10_count (a : Int32) (M : Mem) : Option Int32 := (if a = (0 : Int32) then (some (M 40 0)) else (if a = (1 : Int32) then (some (M 4 4)) else (if a = (2 : Int32) then (some (M 0 1)) else (if a = (3 : Int32) then (some (M 5 7)) else (some (-1 : Int32))))))
def mX10_begin (n : Nat) (a : Int32) (b : Int32) (c : Int32) (M : Mem) : Option (Int32 × Mem) := (bnd (mX1_startAccount n 4 a b c M) fun r1 M2 => (some (r1, M2)))
def mX10_change (n : Nat) (a : Int32) (b : Int32) (M : Mem) : Option (Int32 × Mem) := (bnd (mX1_putPlan n 4 a b M) fun r1 M2 => (some (r1, M2)))
def mX10_seats (n : Nat) (a : Int32) (b : Int32) (M : Mem) : Option (Int32 × Mem) := (bnd (mX1_putSeats n 4 a b M) fun r1 M2 => (some (r1, M2)))
def mX10_pause (n : Nat) (a : Int32) (b : Int32) (M : Mem) : Option (Int32 × Mem) := (bnd (mX1_putPaused n 4 a b M) fun r1 M2 => (some (r1, M2)))
def mX10_giveUp (n : Nat) (a : Int32) (M : Mem) : Option (Int32 × Mem) := (bnd (mX1_endAccount n 4 a M) fun r1 M2 => (some (r1, M2)))
def mX10_move (n : Nat) (a : Int32) (b : Int32) (M : Mem) : Option (Int32 × Mem) := (bnd (mX1_putAnchor n 4 a b M) fun r1 M2 => (some (r1, M2)))
def mX10_use (a : Int32) (b : Int32) (M : Mem) : Option (Int32 × Mem) := (bnd (mX1_addUnits 4 a b M) fun r1 M2 => (some (r1, M2)))
def mX10_days (n : Nat) (a : Int32) (M : Mem) : Option (Int32 × Mem) := (bnd (mX1_passDays n 4 a M) fun r1 M2 => (some (r1, M2)))
def mX10_favour (a : Int32) (b : Int32) (M : Mem) : Option (Int32 × Mem) := (bnd (mX1_grantFavour 4 a b M) fun r1 M2 => (some (r1, M2)))
def mX10_pay (a : Int32) (b : Int32) (M : Mem) : Option (Int32 × Mem) := (bnd (mX1_takePayment 4 a b M) fun r1 M2 => (some (r1, M2)))
def mX10_remind (n : Nat) (a : Int32) (M : Mem) : Option (Int32 × Mem) := (bnd (mX1_writeReminder n 4 a M) fun r1 M2 => (some (r1, M2)))
def mX10_turn (a : Int32) (M : Mem) : Option (Int32 × Mem) := (bnd (mX1_turnRound 4 a M) fun r1 M2 => (some (r1, M2)))
def mX10_accountIs_c52 (n : Nat) (v1 : Int32) (v2 : Int32) (v3 : Nat) (M : Mem) : Option Int32 := (if v2 = (6 : Int32) then (bnp (mX9_worth n 5 (M v3 4) v3 M) fun r1 => (some r1)) else (if v2 = (11 : Int32) then (bnp (mX5_howManyOf n 40 v1 M) fun r3 => (some r3)) else (bnp (mX0_tell v3 v2 M) fun r5 => (some r5))))
def mX10_accountIs (n : Nat) (a : Int32) (b : Int32) (M : Mem) : Option Int32 := (bnp (mX1_hasBegun 4 a M) fun r6 => (if r6 = 0 then (some (-1000000 : Int32)) else (chk a 6 (if b < (12 : Int32) then (mX10_accountIs_c52 n a b (39 + 12 + Int32.toNatClampNeg a) M) else (if (17 : Int32) < b then (mX10_accountIs_c52 n a b (39 + 12 + Int32.toNatClampNeg a) M) else (bnp (mX5_sumOfKind n 40 a (b - (12 : Int32)) M) fun r9 => (some r9)))))))
def mX10_late (n : Nat) (a : Int32) (b : Int32) (M : Mem) : Option Int32 := (bnp (mX1_hasBegun 4 a M) fun r1 => (if r1 = 0 then (some (-1000000 : Int32)) else (if b < (M 4 4) then (some (-1000000 : Int32)) else (if b ≤ (3652 : Int32) then (chk a 6 (bnp (mX5_sumLate n 40 a (M (39 + 12 + Int32.toNatClampNeg a) 12) b M) fun r4 => (some r4))) else (some (-1000000 : Int32))))))
def mX10_owes (n : Nat) (a : Int32) (b : Int32) (M : Mem) : Option Int32 := (bnp (mX1_hasBegun 4 a M) fun r1 => (if r1 = 0 then (some (-1 : Int32)) else (if b < 0 then (some (-1 : Int32)) else (if b ≤ (3 : Int32) then (chk a 6 (bnp (mX5_tellOpen n 40 a (M (39 + 12 + Int32.toNatClampNeg a) 12) b M) fun r4 => (some r4))) else (some (-1 : Int32))))))
def mX10_earned (n : Nat) (a : Int32) (b : Int32) (M : Mem) : Option Int32 := (bnp (mX1_hasBegun 4 a M) fun r1 => (if r1 = 0 then (some (-1000000 : Int32)) else (if b < 0 then (some (-1000000 : Int32)) else (if b ≤ (3653 : Int32) then (bnp (mX5_sumEarned n 40 a b M) fun r3 => (some r3)) else (some (-1000000 : Int32))))))
def mX10_period (n : Nat) (a : Int32) (b : Int32) (M : Mem) : Option Int32 := (bnp (mX1_hasBegun 4 a M) fun r1 => (if r1 = 0 then (some (-1000000 : Int32)) else (if b < 0 then (some (-1000000 : Int32)) else (if b ≤ (199 : Int32) then (bnp (mX5_sumOfPeriod n 40 a b M) fun r3 => (some r3)) else (some (-1000000 : Int32))))))
def mX10_taxes (n : Nat) (a : Int32) (b : Int32) (M : Mem) : Option Int32 := (bnp (mX1_hasBegun 4 a M) fun r1 => (if r1 = 0 then (some (-1000000 : Int32)) else (if b < 0 then (some (-1000000 : Int32)) else (if b ≤ (100 : Int32) then (bnp (mX1_taxesOf n 4 a b M) fun r3 => (some r3)) else (some (-1000000 : Int32))))))
def mX10_quote (n : Nat) (a : Int32) (b : Int32) (c : Int32) (M : Mem) : Option Int32 := (bnp (mX1_isRunning 4 a M) fun r1 => (if r1 = 0 then (some (-1000000 : Int32)) else (bnp (mX10_isPlan b) fun r3 => (if r3 = 0 then (some (-1000000 : Int32)) else (chk a 6 (if c < (M 4 4) then (some (-1000000 : Int32)) else (if c < (M (39 + 12 + Int32.toNatClampNeg a) 9) then (bnp (mX1_quoteOn n 4 (39 + 12 + Int32.toNatClampNeg a) b c M) fun r6 => (some r6)) else (some (-1000000 : Int32)))))))))
def mX10_best (n : Nat) (a : Int32) (b : Int32) (c : Int32) (M : Mem) : Option Int32 := (bnp (mX1_isRunning 4 a M) fun r1 => (if r1 = 0 then (some (-1000000 : Int32)) else (bnp (mX10_isPlan b) fun r3 => (if r3 = 0 then (some (-1000000 : Int32)) else (chk a 6 (if c = (0 : Int32) then (bnp (mX1_cheapestDay n 4 (39 + 12 + Int32.toNatClampNeg a) b M) fun r6 => (some r6)) else (if c = (1 : Int32) then (bnp (mX1_cheapestDay n 4 (39 + 12 + Int32.toNatClampNeg a) b M) fun r8 => (bnp (mX1_quoteOn n 4 (39 + 12 + Int32.toNatClampNeg a) b r8 M) fun r9 => (some r9))) else (if c = (2 : Int32) then (bnp (mX1_cheapestChange n 4 (39 + 12 + Int32.toNatClampNeg a) M) fun r11 => (some r11)) else (some (-1000000 : Int32))))))))))
def mX10_ahead (n : Nat) (a : Int32) (b : Int32) (M : Mem) : Option (Int32 × Mem) := (bnp (mX1_hasBegun 4 a M) fun r1 => (if r1 = 0 then (some ((-1000000 : Int32), M)) else (if b < 0 then (some ((-1000000 : Int32), M)) else (if b ≤ (400 : Int32) then (bnp (mX1_copyFrom n 110 4 M) fun M4 => (if b ≤ 0 then (chk a 6 (some ((M4 (145 + 12 + Int32.toNatClampNeg a) 13), M4))) else (bnd (mX1_passDays n 110 b M4) fun r6 M7 => (chk a 6 (some ((M7 (145 + 12 + Int32.toNatClampNeg a) 13), M7)))))) else (some ((-1000000 : Int32), M))))))
def mX10_when_c26 (n : Nat) : Nat → Int32 → Int32 → Int32 → Mem → Option (Int32 × Mem)
  | 0, _, _, _, _ => none
  | f + 1, v1, v2, v3, M => (if (400 : Int32) < v3 then (some ((-2 : Int32), M)) else (chk v1 6 (if (M (145 + 12 + Int32.toNatClampNeg v1) 13) < v2 then (if v3 = (400 : Int32) then (some ((-2 : Int32), M)) else (bnp (mX1_canPassDay n 110 M) fun r2 => (if r2 = 0 then (some ((-2 : Int32), M)) else (bnp (mX1_passDay n 110 M) fun M5 => ((mX10_when_c26 n f) v1 v2 (v3 + (1 : Int32)) M5))))) else (some (v3, M)))))
def mX10_when (n : Nat) (a : Int32) (b : Int32) (M : Mem) : Option (Int32 × Mem) := (bnp (mX1_hasBegun 4 a M) fun r6 => (if r6 = 0 then (some ((-1 : Int32), M)) else (bnp (mX1_copyFrom n 110 4 M) fun M9 => (mX10_when_c26 n n a b (0 : Int32) M9))))
def mX10_tax (n : Nat) (a : Int32) (M : Mem) : Option Int32 := (bnp (mX1_taxOf n 4 a M) fun r1 => (some r1))
def mX10_open (n : Nat) (a : Int32) (M : Mem) : Option Int32 := (bnp (mX5_has 40 a M) fun r1 => (if r1 = 0 then (some (-1000000 : Int32)) else (chk a 400 (bnp (mX10_isAccount (M 42 (Int32.toNatClampNeg a))) fun r3 => (if r3 = 0 then (some (-1000000 : Int32)) else (chk (M 42 (Int32.toNatClampNeg a)) 6 (bnp (mX5_openOf n 40 a (M (39 + 12 + Int32.toNatClampNeg (M 42 (Int32.toNatClampNeg a))) 12) M) fun r6 => (some r6))))))))
def mX10_written (n : Nat) (a : Int32) (b : Int32) (M : Mem) : Option Int32 := (if a < 0 then (some (-1000000 : Int32)) else (if b < a then (some (-1000000 : Int32)) else (if b ≤ (3652 : Int32) then (bnp (mX5_sumWritten n 40 a b M) fun r1 => (some r1)) else (some (-1000000 : Int32)))))
def mX10_entry (a : Int32) (b : Int32) (M : Mem) : Option Int32 := (bnp (mX5_tell 40 a b M) fun r1 => (some r1))
def mX10_line (n : Nat) (a : Int32) (b : Int32) (M : Mem) : Option (Int32 × Mem) := (bnp (mX5_has 40 a M) fun r1 => (if r1 = 0 then (some ((-1 : Int32), M)) else (if (-1 : Int32) ≤ b then (bnp (mX6_write n 40 a M) fun M4 => (if b = (-1 : Int32) then (some ((M4 205 2), M4)) else (bnp (mX6_byteAt b M4) fun r5 => (some (r5, M4))))) else (some ((-9 : Int32), M)))))
def mX10_plan (a : Int32) (b : Int32) (M : Mem) : Option Int32 := (bnp (mX10_isPlan a) fun r1 => (if r1 = 0 then (some (-1 : Int32)) else (bnp (mX9_termsOf 5 a) fun r3 => (bnp (mX7_tell r3 b M) fun r5 => (some r5)))))
def mX10_billIs (n : Nat) (a : Int32) (M : Mem) : Option Int32 := (if a = (2 : Int32) then (some (M 4 4)) else (if a = (3 : Int32) then (some (M 40 0)) else (if a = (4 : Int32) then (bnp (mX1_begunBits n 4 M) fun r3 => (some r3)) else (if a = (5 : Int32) then (bnp (mX1_endedBits n 4 M) fun r5 => (some r5)) else (if a = (6 : Int32) then (bnp (mX1_pausedBits n 4 M) fun r7 => (some r7)) else (bnp (mX9_tell 5 a M) fun r9 => (some r9)))))))
def mX10_areUnits (a : Int32) : Option Int32 := (if a < 0 then (some (0 : Int32)) else (if (9999 : Int32) < a then (some (0 : Int32)) else (some (1 : Int32))))
def mX10_usage (n : Nat) (a : Int32) (b : Int32) (M : Mem) : Option Int32 := (bnp (mX10_isPlan a) fun r1 => (if r1 = 0 then (some (-1 : Int32)) else (bnp (mX10_areUnits b) fun r3 => (if r3 = 0 then (some (-1 : Int32)) else (bnp (mX9_termsOf 5 a) fun r5 => (bnp (mX7_usageOf n r5 b M) fun r7 => (some r7)))))))
def mX10_units (n : Nat) (a : Int32) (b : Int32) (M : Mem) : Option Int32 := (bnp (mX10_isPlan a) fun r1 => (if r1 = 0 then (some (-1 : Int32)) else (if b < 0 then (some (-1 : Int32)) else (if b ≤ (99999999 : Int32) then (bnp (mX9_termsOf 5 a) fun r3 => (bnp (mX7_mostUnits n r3 b M) fun r5 => (some r5))) else (some (-1 : Int32))))))
def mX10_cheapest (n : Nat) (a : Int32) (M : Mem) : Option Int32 := (bnp (mX10_areUnits a) fun r1 => (if r1 = 0 then (some (-1 : Int32)) else (bnp (mX9_cheapestPlan n 5 a M) fun r3 => (some r3))))
def mX10_isDay (a : Int32) : Option Int32 := (if a < 0 then (some (0 : Int32)) else (if (3652 : Int32) < a then (some (0 : Int32)) else (some (1 : Int32))))
def mX10_part (n : Nat) (a : Int32) (b : Int32) (c : Int32) (d : Int32) (M : Mem) : Option Int32 := (if a < 0 then (some (-1 : Int32)) else (if (999999 : Int32) < a then (some (-1 : Int32)) else (bnp (mX10_isAnchor b) fun r1 => (if r1 = 0 then (some (-1 : Int32)) else (bnp (mX10_isDay c) fun r3 => (if r3 = 0 then (some (-1 : Int32)) else (bnp (mX10_isDay d) fun r5 => (if r5 = 0 then (some (-1 : Int32)) else (if c ≤ d then (bnp (mX3_lastTurn n b c M) fun r7 => (bnp (mX3_nextTurn n b c M) fun r8 => (if d ≤ r8 then (bnp (mX3_slice a (r8 - r7) (c - r7) (d - r7)) fun r9 => (some r9)) else (some (-1 : Int32))))) else (some (-1 : Int32)))))))))))
def mX10_span (n : Nat) (a : Int32) (b : Int32) (c : Int32) (M : Mem) : Option Int32 := (bnp (mX10_isAnchor a) fun r1 => (if r1 = 0 then (some (-1 : Int32)) else (bnp (mX10_isDay b) fun r3 => (if r3 = 0 then (some (-1 : Int32)) else (bnp (mX3_lastTurn n a b M) fun r5 => (bnp (mX3_nextTurn n a b M) fun r6 => (if c = (0 : Int32) then (if 0 ≤ r5 then (some r5) else (some (-2 : Int32))) else (if c = (1 : Int32) then (some r6) else (if c = (2 : Int32) then (some (r6 - r5)) else (some (-1 : Int32)))))))))))
def mX10_date (n : Nat) (a : Int32) (b : Int32) (M : Mem) : Option Int32 := (bnp (mX10_isDay a) fun r1 => (if r1 = 0 then (some (-1 : Int32)) else (if b = (0 : Int32) then (bnp (mX3_yearOf n a M) fun r3 => (some r3)) else (if b = (1 : Int32) then (bnp (mX3_monthOf n a M) fun r5 => (some r5)) else (if b = (2 : Int32) then (bnp (mX3_dayOfMonth n a M) fun r7 => (some r7)) else (some (-1 : Int32)))))))
def mX10_day (a : Int32) (b : Int32) (c : Int32) (M : Mem) : Option Int32 := (bnp (mX3_dayOf a b c M) fun r1 => (some r1))
def mX11_in (a : Int32) (b : Int32) (c : Int32) : Option Int32 := (if a < b then (some (0 : Int32)) else (if c < a then (some (0 : Int32)) else (some (1 : Int32))))
def mX11_min (a : Int32) (b : Int32) : Option Int32 := (if b ≤ a then (some b) else (some a))
def mX11_max (a : Int32) (b : Int32) : Option Int32 := (if a ≤ b then (some b) else (some a))
def mX11_copies_c2 (n : Nat) : Nat → Int32 → Int32 → Int32 → Mem → Option Mem
  | 0, _, _, _, _ => none
  | f + 1, v1, v2, v3, M => (if (4250 : Int32) ≤ v3 then (some M) else (chk (((4250 : Int32) * v1) + v3) 12750 (chk (((4250 : Int32) * v2) + v3) 12750 (lt (upd2 M 209 (Int32.toNatClampNeg (((4250 : Int32) * v2) + v3)) (M 209 (Int32.toNatClampNeg (((4250 : Int32) * v1) + v3)))) fun M1 => ((mX11_copies_c2 n f) v1 v2 (v3 + (1 : Int32)) M1)))))
def mX11_copies (n : Nat) (a : Int32) (b : Int32) (M : Mem) : Option Mem := (mX11_copies_c2 n n a b (0 : Int32) M)
def mX11_lengthOf (a : Int32) : Option Int32 := (if (((a + (11 : Int32)) - (a + (11 : Int32)) / (12 : Int32) * (12 : Int32)) + (1 : Int32)) = (2 : Int32) then (if (((a + (11 : Int32)) / (12 : Int32)) - ((a + (11 : Int32)) / (12 : Int32)) / (4 : Int32) * (4 : Int32)) = (1 : Int32) then (some (29 : Int32)) else (some (28 : Int32))) else (if (((a + (11 : Int32)) - (a + (11 : Int32)) / (12 : Int32) * (12 : Int32)) + (1 : Int32)) = (4 : Int32) then (some (30 : Int32)) else (if (((a + (11 : Int32)) - (a + (11 : Int32)) / (12 : Int32) * (12 : Int32)) + (1 : Int32)) = (6 : Int32) then (some (30 : Int32)) else (if (((a + (11 : Int32)) - (a + (11 : Int32)) / (12 : Int32) * (12 : Int32)) + (1 : Int32)) = (9 : Int32) then (some (30 : Int32)) else (if (((a + (11 : Int32)) - (a + (11 : Int32)) / (12 : Int32) * (12 : Int32)) + (1 : Int32)) = (11 : Int32) then (some (30 : Int32)) else (some (31 : Int32)))))))
def mX11_monthOf_c2 (n : Nat) : Nat → Int32 → Int32 → Mem → Option Int32
  | 0, _, _, _ => none
  | f + 1, v1, v2, M => (chk (v2 + (1 : Int32)) 127 (if v1 < (M 208 (Int32.toNatClampNeg (v2 + (1 : Int32)))) then (some v2) else ((mX11_monthOf_c2 n f) v1 (v2 + (1 : Int32)) M)))
def mX11_monthOf (n : Nat) (a : Int32) (M : Mem) : Option Int32 := (mX11_monthOf_c2 n n a (0 : Int32) M)
def mX11_turnIn (a : Int32) (b : Int32) (M : Mem) : Option Int32 := (chk a 127 (chk (a + (1 : Int32)) 127 (chk a 127 (bnp (mX11_min b ((M 208 (Int32.toNatClampNeg (a + (1 : Int32)))) - (M 208 (Int32.toNatClampNeg a)))) fun r1 => (some (((M 208 (Int32.toNatClampNeg a)) + r1) - (1 : Int32)))))))
def mX11_lastTurn (n : Nat) (a : Int32) (b : Int32) (M : Mem) : Option Int32 := (bnp (mX11_monthOf n b M) fun r1 => (bnp (mX11_turnIn r1 a M) fun r2 => (if b < r2 then (bnp (mX11_turnIn (r1 - (1 : Int32)) a M) fun r3 => (some r3)) else (bnp (mX11_turnIn r1 a M) fun r4 => (some r4)))))
def mX11_nextTurn (n : Nat) (a : Int32) (b : Int32) (M : Mem) : Option Int32 := (bnp (mX11_monthOf n b M) fun r1 => (bnp (mX11_turnIn r1 a M) fun r2 => (if r2 ≤ b then (bnp (mX11_turnIn (r1 + (1 : Int32)) a M) fun r3 => (some r3)) else (bnp (mX11_turnIn r1 a M) fun r4 => (some r4)))))
def mX11_isDay (a : Int32) : Option Int32 := (bnp (mX11_in a (0 : Int32) (3652 : Int32)) fun r1 => (some r1))
def mX11_isAnchor (a : Int32) : Option Int32 := (bnp (mX11_in a (1 : Int32) (31 : Int32)) fun r1 => (some r1))
def mX11_span (n : Nat) (a : Int32) (b : Int32) (c : Int32) (M : Mem) : Option Int32 := (bnp (mX11_isAnchor a) fun r1 => (if r1 = 0 then (some (-1 : Int32)) else (bnp (mX11_isDay b) fun r3 => (if r3 = 0 then (some (-1 : Int32)) else (bnp (mX11_in c (0 : Int32) (2 : Int32)) fun r5 => (if r5 = 0 then (some (-1 : Int32)) else (bnp (mX11_lastTurn n a b M) fun r7 => (bnp (mX11_nextTurn n a b M) fun r8 => (if c = 0 then (if 0 ≤ r7 then (some r7) else (some (-2 : Int32))) else (if c = (1 : Int32) then (some r8) else (some (r8 - r7))))))))))))
def mX11_yearOf (a : Int32) : Option Int32 := (some ((2023 : Int32) + ((a + (11 : Int32)) / (12 : Int32))))
def mX11_dateOf (n : Nat) (a : Int32) (b : Int32) (M : Mem) : Option Int32 := (bnp (mX11_monthOf n a M) fun r1 => (if b = 0 then (bnp (mX11_yearOf r1) fun r2 => (some r2)) else (if b = (1 : Int32) then (some (((r1 + (11 : Int32)) - (r1 + (11 : Int32)) / (12 : Int32) * (12 : Int32)) + (1 : Int32))) else (chk r1 127 (some ((a - (M 208 (Int32.toNatClampNeg r1))) + (1 : Int32)))))))
def mX11_date (n : Nat) (a : Int32) (b : Int32) (M : Mem) : Option Int32 := (bnp (mX11_isDay a) fun r1 => (if r1 = 0 then (some (-1 : Int32)) else (bnp (mX11_in b (0 : Int32) (2 : Int32)) fun r3 => (if r3 = 0 then (some (-1 : Int32)) else (bnp (mX11_dateOf n a b M) fun r5 => (some r5))))))
def mX11_day (a : Int32) (b : Int32) (c : Int32) (M : Mem) : Option Int32 := (bnp (mX11_in a (2024 : Int32) (2033 : Int32)) fun r1 => (if r1 = 0 then (some (-1 : Int32)) else (bnp (mX11_in b (1 : Int32) (12 : Int32)) fun r3 => (if r3 = 0 then (some (-1 : Int32)) else (bnp (mX11_lengthOf (((12 : Int32) * (a - (2024 : Int32))) + b)) fun r5 => (bnp (mX11_in c (1 : Int32) r5) fun r6 => (if r6 = 0 then (some (-1 : Int32)) else (chk (((12 : Int32) * (a - (2024 : Int32))) + b) 127 (some (((M 208 (Int32.toNatClampNeg (((12 : Int32) * (a - (2024 : Int32))) + b))) + c) - (1 : Int32)))))))))))
def mX11_slice (n : Nat) (a : Int32) (b : Int32) (c : Int32) (d : Int32) (M : Mem) : Option Int32 := (bnp (mX11_lastTurn n b c M) fun r1 => (bnp (mX11_nextTurn n b c M) fun r2 => (dvi (r2 - r1) (dvi (r2 - r1) (some (((a * (d - r1)) / (r2 - r1)) - ((a * (c - r1)) / (r2 - r1))))))))
def mX11_part (n : Nat) (a : Int32) (b : Int32) (c : Int32) (d : Int32) (M : Mem) : Option Int32 := (bnp (mX11_in a (0 : Int32) (999999 : Int32)) fun r1 => (if r1 = 0 then (some (-1 : Int32)) else (bnp (mX11_isAnchor b) fun r3 => (if r3 = 0 then (some (-1 : Int32)) else (bnp (mX11_isDay c) fun r5 => (if r5 = 0 then (some (-1 : Int32)) else (bnp (mX11_isDay d) fun r7 => (if r7 = 0 then (some (-1 : Int32)) else (if d < c then (some (-1 : Int32)) else (bnp (mX11_nextTurn n b c M) fun r9 => (if d ≤ r9 then (bnp (mX11_slice n a b c d M) fun r10 => (some r10)) else (some (-1 : Int32)))))))))))))
def mX11_types_c2 (n : Nat) : Nat → Int32 → Int32 → Mem → Option Mem
  | 0, _, _, _ => none
  | f + 1, v1, v2, M => (if v2 < 0 then (some M) else (chk (M 207 4) 400 (lt (upd2 M 210 (Int32.toNatClampNeg (M 207 4)) (vp_nar .byte (Int8.toInt32 (Int32.toInt8 (v1 >>> (((8 : Int32) * v2) &&& 31)))))) fun M1 => ((mX11_types_c2 n f) v1 (v2 + (-1 : Int32)) (upd2 M1 207 4 ((M1 207 4) + (1 : Int32)))))))
def mX11_types (n : Nat) (a : Int32) (M : Mem) : Option Mem := (mX11_types_c2 n n a (3 : Int32) M)
def mX11_feed (n : Nat) (a : Int32) (b : Int32) (c : Int32) (d : Int32) (e0 : Int32) (M : Mem) : Option (Int32 × Mem) := (if ((M 207 4) + (20 : Int32)) ≤ (400 : Int32) then (bnp (mX11_types n a M) fun M2 => (bnp (mX11_types n b M2) fun M4 => (bnp (mX11_types n c M4) fun M6 => (bnp (mX11_types n d M6) fun M8 => (bnp (mX11_types n e0 M8) fun M10 => (some ((M10 207 4), M10))))))) else (some ((-1 : Int32), M)))
def mX11_here (M : Mem) : Option Int32 := (if (M 207 6) ≤ (M 207 5) then (some (-1 : Int32)) else (chk (M 207 5) 400 (some ((M 210 (Int32.toNatClampNeg (M 207 5))) &&& (255 : Int32)))))
def mX11_wrongAt (a : Int32) (b : Int32) (M : Mem) : Option (Int32 × Mem) := (some ((0 : Int32), (upd2 M 207 7 (((-1000 : Int32) * a) - b))))
def mX11_takesSign (a : Int32) (M : Mem) : Option (Int32 × Mem) := (bnp (mX11_here M) fun r1 => (if r1 = a then (some ((1 : Int32), (upd2 M 207 5 ((M 207 5) + (1 : Int32))))) else (bnd (mX11_wrongAt (1 : Int32) (M 207 5) M) fun r2 M3 => (some (r2, M3)))))
def mX11_isDigit (a : Int32) : Option Int32 := (bnp (mX11_in a (48 : Int32) (57 : Int32)) fun r1 => (some r1))
def mX11_readsWord_c13 (n : Nat) : Nat → Mem → Option Mem
  | 0, _ => none
  | f + 1, M => (bnp (mX11_here M) fun r1 => (bnp (mX11_in r1 (97 : Int32) (122 : Int32)) fun r2 => (if r2 = 0 then (if ((M 207 5) - (M 207 9)) ≤ (8 : Int32) then (some M) else (some (upd2 (upd2 M 207 10 (llo (-1 : Int64))) 207 (10 + HI) (lhi (-1 : Int64))))) else (if (8 : Int32) ≤ ((M 207 5) - (M 207 9)) then ((mX11_readsWord_c13 n f) (upd2 M 207 5 ((M 207 5) + (1 : Int32)))) else (bnp (mX11_here M) fun r4 => (lt (upd2 (upd2 M 207 10 (llo (((((32 : Int64) * (lcb (M 207 10) (M 207 (10 + HI)))) + (Int32.toInt64 r4)) - (97 : Int64)) + (1 : Int64)))) 207 (10 + HI) (lhi (((((32 : Int64) * (lcb (M 207 10) (M 207 (10 + HI)))) + (Int32.toInt64 r4)) - (97 : Int64)) + (1 : Int64)))) fun M5 => ((mX11_readsWord_c13 n f) (upd2 M5 207 5 ((M5 207 5) + (1 : Int32))))))))))
def mX11_readsWord (n : Nat) (M : Mem) : Option Mem := (lt (upd2 (upd2 (upd2 M 207 9 (M 207 5)) 207 10 (llo (0 : Int64))) 207 (10 + HI) (lhi (0 : Int64))) fun M6 => (mX11_readsWord_c13 n n M6))
def mX11_readsNumber_c41 (n : Nat) : Nat → Int32 → Int32 → Int32 → Mem → Option (Int32 × Mem)
  | 0, _, _, _, _ => none
  | f + 1, v1, v2, v3, M => (bnp (mX11_here M) fun r1 => (bnp (mX11_isDigit r1) fun r2 => (if r2 = 0 then (bnp (mX11_in (M 207 8) v1 v2) fun r4 => (if r4 = 0 then (bnd (mX11_wrongAt (3 : Int32) v3 M) fun r6 M7 => (if r6 = 0 then (some ((0 : Int32), M7)) else (some ((1 : Int32), M7)))) else (some ((1 : Int32), M)))) else (if (M 207 5) = (v3 + (5 : Int32)) then (bnd (mX11_wrongAt (2 : Int32) (M 207 5) M) fun r11 M12 => (some (r11, M12))) else (bnp (mX11_here M) fun r9 => (lt (upd2 (upd2 M 207 8 ((((10 : Int32) * (M 207 8)) + r9) - (48 : Int32))) 207 5 (((upd2 M 207 8 ((((10 : Int32) * (M 207 8)) + r9) - (48 : Int32))) 207 5) + (1 : Int32))) fun M10 => ((mX11_readsNumber_c41 n f) v1 v2 v3 M10)))))))
def mX11_readsNumber (n : Nat) (a : Int32) (b : Int32) (M : Mem) : Option (Int32 × Mem) := (bnd (mX11_takesSign (32 : Int32) M) fun r14 M15 => (if r14 = 0 then (some ((0 : Int32), M15)) else (bnp (mX11_here M15) fun r17 => (bnp (mX11_isDigit r17) fun r18 => (if r18 = 0 then (bnd (mX11_wrongAt (1 : Int32) (M15 207 5) M15) fun r20 M21 => (some (r20, M21))) else (mX11_readsNumber_c41 n n a b (M15 207 5) (upd2 M15 207 8 (0 : Int32))))))))
def mX11_readsPlan (M : Mem) : Option (Int32 × Mem) := (bnd (mX11_takesSign (32 : Int32) M) fun r1 M2 => (if r1 = 0 then (some ((0 : Int32), M2)) else (bnp (mX11_here M2) fun r4 => (bnp (mX11_in r4 (65 : Int32) (70 : Int32)) fun r5 => (if r5 = 0 then (bnd (mX11_wrongAt (1 : Int32) (M2 207 5) M2) fun r9 M10 => (some (r9, M10))) else (bnp (mX11_here M2) fun r7 => (lt (upd2 (upd2 M2 207 8 (r7 - (65 : Int32))) 207 5 (((upd2 M2 207 8 (r7 - (65 : Int32))) 207 5) + (1 : Int32))) fun M8 => (some ((1 : Int32), M8)))))))))
def mX11_keepsNumber (a : Int32) (M : Mem) : Option (Int32 × Mem) := (chk a 164 (some ((1 : Int32), (upd2 M 211 (Int32.toNatClampNeg a) (M 207 8)))))
def mX11_readsTier_c79 (n : Nat) (v1 : Int32) (v2 : Int32) (M : Mem) : Option (Int32 × Mem) := (chk ((v1 + (6 : Int32)) + v2) 164 (bnd (mX11_readsNumber n (0 : Int32) (99 : Int32) (upd2 M 211 (Int32.toNatClampNeg ((v1 + (6 : Int32)) + v2)) (M 207 8))) fun r1 M2 => (if r1 = 0 then (some ((0 : Int32), M2)) else (chk ((v1 + (10 : Int32)) + v2) 164 (chk (v1 + (2 : Int32)) 164 (lt (upd2 (upd2 M2 211 (Int32.toNatClampNeg ((v1 + (10 : Int32)) + v2)) (M2 207 8)) 211 (Int32.toNatClampNeg (v1 + (2 : Int32))) (v2 + (1 : Int32))) fun M4 => (some ((1 : Int32), M4))))))))
def mX11_readsTier (n : Nat) (a : Int32) (M : Mem) : Option (Int32 × Mem) := (chk (a + (2 : Int32)) 164 (if (M 211 (Int32.toNatClampNeg (a + (2 : Int32)))) = (4 : Int32) then (bnd (mX11_wrongAt (6 : Int32) ((M 207 5) - (1 : Int32)) M) fun r11 M12 => (some (r11, M12))) else (bnd (mX11_readsNumber n (1 : Int32) (9999 : Int32) M) fun r5 M6 => (if r5 = 0 then (some ((0 : Int32), M6)) else (if (M 211 (Int32.toNatClampNeg (a + (2 : Int32)))) ≤ 0 then (mX11_readsTier_c79 n a (M 211 (Int32.toNatClampNeg (a + (2 : Int32)))) M6) else (chk (((a + (6 : Int32)) + (M 211 (Int32.toNatClampNeg (a + (2 : Int32))))) - (1 : Int32)) 164 (if (M6 211 (Int32.toNatClampNeg (((a + (6 : Int32)) + (M 211 (Int32.toNatClampNeg (a + (2 : Int32))))) - (1 : Int32)))) < (M6 207 8) then (mX11_readsTier_c79 n a (M 211 (Int32.toNatClampNeg (a + (2 : Int32)))) M6) else (bnd (mX11_wrongAt (6 : Int32) ((M 207 5) + (1 : Int32)) M6) fun r8 M9 => (some (r8, M9))))))))))
def mX11_readsMode_c47 (n : Nat) (v1 : Int32) (M : Mem) : Option (Int32 × Mem) := (if (lg_cmp (lcb (M 207 10) (M 207 (10 + HI))) (24395141 : Int64)) = 0 then (chk (v1 + (4 : Int32)) 164 (some ((1 : Int32), (upd2 M 211 (Int32.toNatClampNeg (v1 + (4 : Int32))) (1 : Int32))))) else (chk (v1 + (4 : Int32)) 164 (some ((1 : Int32), (upd2 M 211 (Int32.toNatClampNeg (v1 + (4 : Int32))) (0 : Int32))))))
def mX11_readsMode (n : Nat) (a : Int32) (M : Mem) : Option (Int32 × Mem) := (bnd (mX11_takesSign (32 : Int32) M) fun r1 M2 => (if r1 = 0 then (some ((0 : Int32), M2)) else (bnp (mX11_readsWord n M2) fun M5 => (if (lg_cmp (lcb (M5 207 10) (M5 207 (10 + HI))) (37889479 : Int64)) = 0 then (mX11_readsMode_c47 n a M5) else (if (lg_cmp (lcb (M5 207 10) (M5 207 (10 + HI))) (24395141 : Int64)) = 0 then (mX11_readsMode_c47 n a M5) else (bnd (mX11_wrongAt (1 : Int32) (M5 207 9) M5) fun r6 M7 => (some (r6, M7))))))))
def mX11_readsLess (n : Nat) (M : Mem) : Option (Int32 × Mem) := (bnd (mX11_readsNumber n (0 : Int32) (100 : Int32) M) fun r1 M2 => (if r1 = 0 then (some ((0 : Int32), M2)) else (bnd (mX11_keepsNumber (2 : Int32) M2) fun r4 M5 => (if r4 = 0 then (some ((0 : Int32), M5)) else (bnd (mX11_readsNumber n (0 : Int32) (99 : Int32) M5) fun r7 M8 => (if r7 = 0 then (some ((0 : Int32), M8)) else (bnd (mX11_keepsNumber (3 : Int32) M8) fun r10 M11 => (if r10 = 0 then (some ((0 : Int32), M11)) else (some ((1 : Int32), M11))))))))))
def mX11_readsBulk_c79 (n : Nat) (v1 : Int32) (v2 : Int32) (M : Mem) : Option (Int32 × Mem) := (chk ((v1 + (15 : Int32)) + v2) 164 (bnd (mX11_readsNumber n (0 : Int32) (100 : Int32) (upd2 M 211 (Int32.toNatClampNeg ((v1 + (15 : Int32)) + v2)) (M 207 8))) fun r1 M2 => (if r1 = 0 then (some ((0 : Int32), M2)) else (chk ((v1 + (18 : Int32)) + v2) 164 (chk (v1 + (14 : Int32)) 164 (lt (upd2 (upd2 M2 211 (Int32.toNatClampNeg ((v1 + (18 : Int32)) + v2)) (M2 207 8)) 211 (Int32.toNatClampNeg (v1 + (14 : Int32))) (v2 + (1 : Int32))) fun M4 => (some ((1 : Int32), M4))))))))
def mX11_readsBulk (n : Nat) (a : Int32) (M : Mem) : Option (Int32 × Mem) := (chk (a + (14 : Int32)) 164 (if (M 211 (Int32.toNatClampNeg (a + (14 : Int32)))) = (3 : Int32) then (bnd (mX11_wrongAt (6 : Int32) ((M 207 5) - (1 : Int32)) M) fun r11 M12 => (some (r11, M12))) else (bnd (mX11_readsNumber n (2 : Int32) (9 : Int32) M) fun r5 M6 => (if r5 = 0 then (some ((0 : Int32), M6)) else (if (M 211 (Int32.toNatClampNeg (a + (14 : Int32)))) ≤ 0 then (mX11_readsBulk_c79 n a (M 211 (Int32.toNatClampNeg (a + (14 : Int32)))) M6) else (chk (((a + (15 : Int32)) + (M 211 (Int32.toNatClampNeg (a + (14 : Int32))))) - (1 : Int32)) 164 (if (M6 211 (Int32.toNatClampNeg (((a + (15 : Int32)) + (M 211 (Int32.toNatClampNeg (a + (14 : Int32))))) - (1 : Int32)))) < (M6 207 8) then (mX11_readsBulk_c79 n a (M 211 (Int32.toNatClampNeg (a + (14 : Int32)))) M6) else (bnd (mX11_wrongAt (6 : Int32) ((M 207 5) + (1 : Int32)) M6) fun r8 M9 => (some (r8, M9))))))))))
def mX11_readsTax_c74 (n : Nat) (v1 : Int32) (M : Mem) : Option (Int32 × Mem) := (chk ((7 : Int32) + v1) 164 (bnd (mX11_readsNumber n (0 : Int32) (100 : Int32) (upd2 M 211 (Int32.toNatClampNeg ((7 : Int32) + v1)) (M 207 8))) fun r1 M2 => (if r1 = 0 then (some ((0 : Int32), M2)) else (chk ((11 : Int32) + v1) 164 (chk (6 : Int32) 164 (lt (upd2 (upd2 M2 211 (Int32.toNatClampNeg ((11 : Int32) + v1)) (M2 207 8)) 211 (Int32.toNatClampNeg (6 : Int32)) (v1 + (1 : Int32))) fun M4 => (some ((1 : Int32), M4))))))))
def mX11_readsTax (n : Nat) (M : Mem) : Option (Int32 × Mem) := (chk (6 : Int32) 164 (if (M 211 (Int32.toNatClampNeg (6 : Int32))) = (4 : Int32) then (bnd (mX11_wrongAt (6 : Int32) (M 207 9) M) fun r11 M12 => (some (r11, M12))) else (bnd (mX11_readsNumber n (0 : Int32) (3652 : Int32) M) fun r5 M6 => (if r5 = 0 then (some ((0 : Int32), M6)) else (if (M 211 (Int32.toNatClampNeg (6 : Int32))) ≤ 0 then (mX11_readsTax_c74 n (M 211 (Int32.toNatClampNeg (6 : Int32))) M6) else (chk (((7 : Int32) + (M 211 (Int32.toNatClampNeg (6 : Int32)))) - (1 : Int32)) 164 (if (M6 211 (Int32.toNatClampNeg (((7 : Int32) + (M 211 (Int32.toNatClampNeg (6 : Int32)))) - (1 : Int32)))) < (M6 207 8) then (mX11_readsTax_c74 n (M 211 (Int32.toNatClampNeg (6 : Int32))) M6) else (bnd (mX11_wrongAt (6 : Int32) ((M 207 5) + (1 : Int32)) M6) fun r8 M9 => (some (r8, M9))))))))))
def mX11_readsOfAll (n : Nat) (a : Int64) (M : Mem) : Option (Int32 × Mem) := (if (lg_cmp a (398963 : Int64)) = 0 then (bnd (mX11_readsLess n M) fun r10 M11 => (some (r10, M11))) else (if (lg_cmp a (20536 : Int64)) = 0 then (bnd (mX11_readsTax n M) fun r7 M8 => (some (r7, M8))) else (bnd (mX11_readsNumber n (0 : Int32) (20 : Int32) M) fun r1 M2 => (if r1 = 0 then (some ((0 : Int32), M2)) else (bnd (mX11_keepsNumber (5 : Int32) M2) fun r4 M5 => (if r4 = 0 then (some ((0 : Int32), M5)) else (some ((1 : Int32), M5))))))))
def mX11_isClauseWord (a : Int64) : Option Int32 := (if (lg_cmp a (17376357 : Int64)) = 0 then (some (1 : Int32)) else (if (lg_cmp a (215205 : Int64)) = 0 then (some (1 : Int32)) else (if (lg_cmp a (664754 : Int64)) = 0 then (some (1 : Int32)) else (if (lg_cmp a (595572 : Int64)) = 0 then (some (1 : Int32)) else (if (lg_cmp a (441477 : Int64)) = 0 then (some (1 : Int32)) else (if (lg_cmp a (16832101 : Int64)) = 0 then (some (1 : Int32)) else (if (lg_cmp a (398963 : Int64)) = 0 then (some (1 : Int32)) else (if (lg_cmp a (6309 : Int64)) = 0 then (some (1 : Int32)) else (if (lg_cmp a (87435 : Int64)) = 0 then (some (1 : Int32)) else (if (lg_cmp a (20536 : Int64)) = 0 then (some (1 : Int32)) else (some (0 : Int32))))))))))))
def mX11_readsClause (n : Nat) (M : Mem) : Option (Int32 × Mem) := (if (M 207 12) = (20 : Int32) then (bnd (mX11_wrongAt (4 : Int32) (M 207 5) M) fun r53 M54 => (some (r53, M54))) else (bnp (mX11_readsWord n M) fun M2 => (bnp (mX11_isClauseWord (lcb (M2 207 10) (M2 207 (10 + HI)))) fun r3 => (if r3 = 0 then (bnd (mX11_wrongAt (1 : Int32) (M2 207 9) M2) fun r50 M51 => (some (r50, M51))) else (if (lg_cmp (lcb (M2 207 10) (M2 207 (10 + HI))) (398963 : Int64)) = 0 then (bnd (mX11_readsOfAll n (lcb (M2 207 10) (M2 207 (10 + HI))) (upd2 M2 207 12 ((M2 207 12) + (1 : Int32)))) fun r5 M6 => (some (r5, M6))) else (if (lg_cmp (lcb (M2 207 10) (M2 207 (10 + HI))) (6309 : Int64)) = 0 then (bnd (mX11_readsOfAll n (lcb (M2 207 10) (M2 207 (10 + HI))) (upd2 M2 207 12 ((M2 207 12) + (1 : Int32)))) fun r8 M9 => (some (r8, M9))) else (if (lg_cmp (lcb (M2 207 10) (M2 207 (10 + HI))) (20536 : Int64)) = 0 then (bnd (mX11_readsOfAll n (lcb (M2 207 10) (M2 207 (10 + HI))) (upd2 M2 207 12 ((M2 207 12) + (1 : Int32)))) fun r47 M48 => (some (r47, M48))) else (bnd (mX11_readsPlan (upd2 M2 207 12 ((M2 207 12) + (1 : Int32)))) fun r11 M12 => (if r11 = 0 then (some ((0 : Int32), M12)) else (if (lg_cmp (lcb (M2 207 10) (M2 207 (10 + HI))) (664754 : Int64)) = 0 then (bnd (mX11_readsTier n ((20 : Int32) + ((24 : Int32) * (M12 207 8))) M12) fun r44 M45 => (some (r44, M45))) else (if (lg_cmp (lcb (M2 207 10) (M2 207 (10 + HI))) (87435 : Int64)) = 0 then (bnd (mX11_readsBulk n ((20 : Int32) + ((24 : Int32) * (M12 207 8))) M12) fun r41 M42 => (some (r41, M42))) else (if (lg_cmp (lcb (M2 207 10) (M2 207 (10 + HI))) (441477 : Int64)) = 0 then (bnd (mX11_readsMode n ((20 : Int32) + ((24 : Int32) * (M12 207 8))) M12) fun r38 M39 => (some (r38, M39))) else (if (lg_cmp (lcb (M2 207 10) (M2 207 (10 + HI))) (17376357 : Int64)) = 0 then (bnd (mX11_readsNumber n (0 : Int32) (99999 : Int32) M12) fun r32 M33 => (if r32 = 0 then (some ((0 : Int32), M33)) else (bnd (mX11_keepsNumber (((20 : Int32) + ((24 : Int32) * (M12 207 8))) + (0 : Int32)) M33) fun r35 M36 => (if r35 = 0 then (some ((0 : Int32), M36)) else (some ((1 : Int32), M36)))))) else (if (lg_cmp (lcb (M2 207 10) (M2 207 (10 + HI))) (215205 : Int64)) = 0 then (bnd (mX11_readsNumber n (0 : Int32) (9999 : Int32) M12) fun r26 M27 => (if r26 = 0 then (some ((0 : Int32), M27)) else (bnd (mX11_keepsNumber (((20 : Int32) + ((24 : Int32) * (M12 207 8))) + (1 : Int32)) M27) fun r29 M30 => (if r29 = 0 then (some ((0 : Int32), M30)) else (some ((1 : Int32), M30)))))) else (if (lg_cmp (lcb (M2 207 10) (M2 207 (10 + HI))) (595572 : Int64)) = 0 then (bnd (mX11_readsNumber n (0 : Int32) (99 : Int32) M12) fun r20 M21 => (if r20 = 0 then (some ((0 : Int32), M21)) else (bnd (mX11_keepsNumber (((20 : Int32) + ((24 : Int32) * (M12 207 8))) + (3 : Int32)) M21) fun r23 M24 => (if r23 = 0 then (some ((0 : Int32), M24)) else (some ((1 : Int32), M24)))))) else (bnd (mX11_readsNumber n (0 : Int32) (100 : Int32) M12) fun r14 M15 => (if r14 = 0 then (some ((0 : Int32), M15)) else (bnd (mX11_keepsNumber (((20 : Int32) + ((24 : Int32) * (M12 207 8))) + (5 : Int32)) M15) fun r17 M18 => (if r17 = 0 then (some ((0 : Int32), M18)) else (some ((1 : Int32), M18)))))))))))))))))))))
def mX11_book_c133 (n : Nat) : Nat → Int32 → Mem → Option (Int32 × Mem)
  | 0, _, _ => none
  | f + 1, v3, M => (if (164 : Int32) ≤ v3 then (chk (4 : Int32) 12750 (some (((upd2 M 209 (Int32.toNatClampNeg (4 : Int32)) (M 207 12)) 207 12), (upd2 M 209 (Int32.toNatClampNeg (4 : Int32)) (M 207 12))))) else (chk v3 164 (chk v3 12750 ((mX11_book_c133 n f) (v3 + (1 : Int32)) (upd2 M 209 (Int32.toNatClampNeg v3) (M 211 (Int32.toNatClampNeg v3)))))))
def mX11_book_c82 (n : Nat) : Nat → Int32 → Mem → Option (Int32 × Mem)
  | 0, _, _ => none
  | f + 1, v2, M => (if v2 = 0 then (if v2 = 0 then (some ((M 207 7), M)) else (mX11_book_c133 n n (2 : Int32) M)) else (if (M 207 6) ≤ (M 207 5) then (if v2 = 0 then (some ((M 207 7), M)) else (mX11_book_c133 n n (2 : Int32) M)) else (bnd (mX11_takesSign (59 : Int32) M) fun r1 M2 => (if r1 = 0 then ((mX11_book_c82 n f) (0 : Int32) M2) else (bnd (mX11_readsClause n M2) fun r4 M5 => (if r4 = 0 then ((mX11_book_c82 n f) (0 : Int32) M5) else ((mX11_book_c82 n f) (1 : Int32) M5)))))))
def mX11_book_c50 (n : Nat) : Nat → Int32 → Mem → Option (Int32 × Mem)
  | 0, _, _ => none
  | f + 1, v2, M => (if (164 : Int32) ≤ v2 then (bnd (mX11_readsClause n (upd2 M 207 12 (0 : Int32))) fun r7 M8 => (mX11_book_c82 n n r7 M8)) else (chk v2 164 ((mX11_book_c50 n f) (v2 + (1 : Int32)) (upd2 M 211 (Int32.toNatClampNeg v2) (0 : Int32)))))
def mX11_book (n : Nat) (a : Int32) (M : Mem) : Option (Int32 × Mem) := (bnp (mX11_in a (1 : Int32) (200 : Int32)) fun r10 => (if r10 = 0 then (some ((-1 : Int32), M)) else (if a ≤ (M 207 4) then (chk (1 : Int32) 12750 (if ((upd2 (upd2 (upd2 M 207 5 (0 : Int32)) 207 6 a) 207 4 (0 : Int32)) 209 (Int32.toNatClampNeg (1 : Int32))) ≤ 0 then (mX11_book_c50 n n (0 : Int32) (upd2 (upd2 (upd2 M 207 5 (0 : Int32)) 207 6 a) 207 4 (0 : Int32))) else (some ((-3 : Int32), (upd2 (upd2 (upd2 M 207 5 (0 : Int32)) 207 6 a) 207 4 (0 : Int32)))))) else (some ((-1 : Int32), M)))))
def mX11_planOf (a : Int32) (b : Int32) (M : Mem) : Option Int32 := (chk (((20 : Int32) + ((24 : Int32) * a)) + b) 12750 (some (M 209 (Int32.toNatClampNeg (((20 : Int32) + ((24 : Int32) * a)) + b)))))
def mX11_isPlan (a : Int32) : Option Int32 := (bnp (mX11_in a (0 : Int32) (5 : Int32)) fun r1 => (some r1))
def mX11_plan_c89 (v1 : Int32) (v2 : Int32) (s0 : Int32) (s1 : Int32) (s3 : Int32) (M : Mem) : Option Int32 := (bnp (mX11_planOf s1 s0 M) fun r1 => (if s3 < r1 then (if (20 : Int32) ≤ v2 then (if (30 : Int32) ≤ v2 then (if (40 : Int32) ≤ v2 then (bnp (mX11_planOf v1 ((18 : Int32) + (v2 - v2 / (10 : Int32) * (10 : Int32))) M) fun r2 => (some r2)) else (bnp (mX11_planOf v1 ((15 : Int32) + (v2 - v2 / (10 : Int32) * (10 : Int32))) M) fun r3 => (some r3))) else (bnp (mX11_planOf v1 ((10 : Int32) + (v2 - v2 / (10 : Int32) * (10 : Int32))) M) fun r4 => (some r4))) else (bnp (mX11_planOf v1 ((6 : Int32) + (v2 - v2 / (10 : Int32) * (10 : Int32))) M) fun r5 => (some r5))) else (some (-2 : Int32))))
def mX11_plan (a : Int32) (b : Int32) (M : Mem) : Option Int32 := (bnp (mX11_isPlan a) fun r6 => (if r6 = 0 then (some (-1 : Int32)) else (bnp (mX11_in b (0 : Int32) (5 : Int32)) fun r8 => (if r8 = 0 then (bnp (mX11_in b (10 : Int32) (13 : Int32)) fun r10 => (if r10 = 0 then (bnp (mX11_in b (20 : Int32) (23 : Int32)) fun r12 => (if r12 = 0 then (bnp (mX11_in b (30 : Int32) (32 : Int32)) fun r14 => (if r14 = 0 then (bnp (mX11_in b (40 : Int32) (42 : Int32)) fun r16 => (if r16 = 0 then (some (-1 : Int32)) else (if (30 : Int32) ≤ b then (mX11_plan_c89 a b (14 : Int32) a (b - b / (10 : Int32) * (10 : Int32)) M) else (mX11_plan_c89 a b (2 : Int32) a (b - b / (10 : Int32) * (10 : Int32)) M)))) else (if (30 : Int32) ≤ b then (mX11_plan_c89 a b (14 : Int32) a (b - b / (10 : Int32) * (10 : Int32)) M) else (mX11_plan_c89 a b (2 : Int32) a (b - b / (10 : Int32) * (10 : Int32)) M)))) else (if (30 : Int32) ≤ b then (mX11_plan_c89 a b (14 : Int32) a (b - b / (10 : Int32) * (10 : Int32)) M) else (mX11_plan_c89 a b (2 : Int32) a (b - b / (10 : Int32) * (10 : Int32)) M)))) else (if (30 : Int32) ≤ b then (mX11_plan_c89 a b (14 : Int32) a (b - b / (10 : Int32) * (10 : Int32)) M) else (mX11_plan_c89 a b (2 : Int32) a (b - b / (10 : Int32) * (10 : Int32)) M)))) else (bnp (mX11_planOf a b M) fun r18 => (some r18))))))
def mX11_usageOf_c74 (n : Nat) (k22 : Int32 → Int32 → Int32 → Int32 → Int32 → Mem → Option Int32) (v1 : Int32) (v3 : Int32) (v4 : Int32) (v5 : Int32) (v6 : Int32) (v7 : Int32) (M : Mem) : Option Int32 := (bnp (mX11_min v3 v7) fun r1 => (bnp (mX11_max (0 : Int32) (r1 - v5)) fun r2 => (bnp (mX11_planOf v1 ((10 : Int32) + v6) M) fun r3 => (k22 v1 v3 (v4 + (r2 * r3)) v7 (v6 + (1 : Int32)) M))))
def mX11_usageOf_c22 (n : Nat) : Nat → Int32 → Int32 → Int32 → Int32 → Int32 → Mem → Option Int32
  | 0, _, _, _, _, _, _ => none
  | f + 1, v1, v3, v4, v5, v6, M => (bnp (mX11_planOf v1 (2 : Int32) M) fun r4 => (if r4 ≤ v6 then (bnp (mX11_planOf v1 (4 : Int32) M) fun r5 => (if r5 = (1 : Int32) then (bnp (mX11_planOf v1 (3 : Int32) M) fun r8 => (some (v3 * r8))) else (bnp (mX11_max (0 : Int32) (v3 - v5)) fun r6 => (bnp (mX11_planOf v1 (3 : Int32) M) fun r7 => (some (v4 + (r6 * r7))))))) else (bnp (mX11_planOf v1 ((6 : Int32) + v6) M) fun r9 => (bnp (mX11_planOf v1 (4 : Int32) M) fun r10 => (if r10 = (1 : Int32) then (if r9 < v3 then (mX11_usageOf_c74 n (mX11_usageOf_c22 n f) v1 v3 v4 v5 v6 r9 M) else (bnp (mX11_planOf v1 ((10 : Int32) + v6) M) fun r11 => (some (v3 * r11)))) else (mX11_usageOf_c74 n (mX11_usageOf_c22 n f) v1 v3 v4 v5 v6 r9 M))))))
def mX11_usageOf (n : Nat) (a : Int32) (b : Int32) (M : Mem) : Option Int32 := (bnp (mX11_planOf a (1 : Int32) M) fun r12 => (bnp (mX11_max (0 : Int32) (b - r12)) fun r13 => (mX11_usageOf_c22 n n a r13 (0 : Int32) (0 : Int32) (0 : Int32) M)))
def mX11_usage (n : Nat) (a : Int32) (b : Int32) (M : Mem) : Option Int32 := (bnp (mX11_isPlan a) fun r1 => (if r1 = 0 then (some (-1 : Int32)) else (bnp (mX11_in b (0 : Int32) (9999 : Int32)) fun r3 => (if r3 = 0 then (some (-1 : Int32)) else (bnp (mX11_usageOf n a b M) fun r5 => (some r5))))))
def mX11_units_c21 (n : Nat) : Nat → Int32 → Int32 → Int32 → Mem → Option Int32
  | 0, _, _, _, _ => none
  | f + 1, v1, v2, v3, M => (if (9999 : Int32) ≤ v3 then (some v3) else (bnp (mX11_usageOf n v1 (v3 + (1 : Int32)) M) fun r1 => (if v2 < r1 then (some v3) else ((mX11_units_c21 n f) v1 v2 (v3 + (1 : Int32)) M))))
def mX11_units (n : Nat) (a : Int32) (b : Int32) (M : Mem) : Option Int32 := (bnp (mX11_isPlan a) fun r2 => (if r2 = 0 then (some (-1 : Int32)) else (bnp (mX11_in b (0 : Int32) (99999999 : Int32)) fun r4 => (if r4 = 0 then (some (-1 : Int32)) else (mX11_units_c21 n n a b (0 : Int32) M)))))
def mX11_cheapest_c17 (n : Nat) : Nat → Int32 → Int32 → Int32 → Mem → Option Int32
  | 0, _, _, _, _ => none
  | f + 1, v1, v2, v3, M => (if (6 : Int32) ≤ v3 then (some v2) else (bnp (mX11_usageOf n v3 v1 M) fun r1 => (bnp (mX11_planOf v3 (0 : Int32) M) fun r2 => (bnp (mX11_usageOf n v2 v1 M) fun r3 => (bnp (mX11_planOf v2 (0 : Int32) M) fun r4 => (if (r3 + r4) ≤ (r1 + r2) then ((mX11_cheapest_c17 n f) v1 v2 (v3 + (1 : Int32)) M) else ((mX11_cheapest_c17 n f) v1 v3 (v3 + (1 : Int32)) M)))))))
def mX11_cheapest (n : Nat) (a : Int32) (M : Mem) : Option Int32 := (bnp (mX11_in a (0 : Int32) (9999 : Int32)) fun r5 => (if r5 = 0 then (some (-1 : Int32)) else (mX11_cheapest_c17 n n a (0 : Int32) (1 : Int32) M)))
def mX11_of (a : Int32) (b : Int32) (M : Mem) : Option Int32 := (chk (((170 : Int32) + ((12 : Int32) * a)) + b) 12750 (some (M 209 (Int32.toNatClampNeg (((170 : Int32) + ((12 : Int32) * a)) + b)))))
def mX11_sets (a : Int32) (b : Int32) (c : Int32) (M : Mem) : Option Mem := (chk (((170 : Int32) + ((12 : Int32) * a)) + b) 12750 (some (upd2 M 209 (Int32.toNatClampNeg (((170 : Int32) + ((12 : Int32) * a)) + b)) c)))
def mX11_isNumber (a : Int32) : Option Int32 := (bnp (mX11_in a (0 : Int32) (5 : Int32)) fun r1 => (some r1))
def mX11_isBegun (a : Int32) (M : Mem) : Option Int32 := (bnp (mX11_isNumber a) fun r1 => (if r1 = 0 then (some (0 : Int32)) else (bnp (mX11_of a (0 : Int32) M) fun r3 => (if r3 = (1 : Int32) then (some (1 : Int32)) else (some (0 : Int32))))))
def mX11_isOn (a : Int32) (M : Mem) : Option Int32 := (bnp (mX11_isBegun a M) fun r1 => (if r1 = 0 then (some (0 : Int32)) else (bnp (mX11_of a (8 : Int32) M) fun r3 => (if r3 = 0 then (some (1 : Int32)) else (some (0 : Int32))))))
def mX11_entryOf (a : Int32) (b : Int32) (M : Mem) : Option Int32 := (chk (((250 : Int32) + ((10 : Int32) * a)) + b) 12750 (some (M 209 (Int32.toNatClampNeg (((250 : Int32) + ((10 : Int32) * a)) + b)))))
def mX11_writes (a : Int32) (b : Int32) (c : Int32) (d : Int32) (e0 : Int32) (M : Mem) : Option (Int32 × Mem) := (chk (1 : Int32) 12750 (chk ((250 : Int32) + ((10 : Int32) * (M 209 (Int32.toNatClampNeg (1 : Int32))))) 12750 (lt (upd2 M 209 (Int32.toNatClampNeg ((250 : Int32) + ((10 : Int32) * (M 209 (Int32.toNatClampNeg (1 : Int32)))))) a) fun M1 => (chk (((250 : Int32) + ((10 : Int32) * (M 209 (Int32.toNatClampNeg (1 : Int32))))) + (1 : Int32)) 12750 (lt (upd2 M1 209 (Int32.toNatClampNeg (((250 : Int32) + ((10 : Int32) * (M 209 (Int32.toNatClampNeg (1 : Int32))))) + (1 : Int32))) b) fun M2 => (chk (0 : Int32) 12750 (chk (((250 : Int32) + ((10 : Int32) * (M 209 (Int32.toNatClampNeg (1 : Int32))))) + (2 : Int32)) 12750 (lt (upd2 M2 209 (Int32.toNatClampNeg (((250 : Int32) + ((10 : Int32) * (M 209 (Int32.toNatClampNeg (1 : Int32))))) + (2 : Int32))) (M2 209 (Int32.toNatClampNeg (0 : Int32)))) fun M3 => (bnp (mX11_of b (3 : Int32) M3) fun r4 => (chk (((250 : Int32) + ((10 : Int32) * (M 209 (Int32.toNatClampNeg (1 : Int32))))) + (3 : Int32)) 12750 (lt (upd2 M3 209 (Int32.toNatClampNeg (((250 : Int32) + ((10 : Int32) * (M 209 (Int32.toNatClampNeg (1 : Int32))))) + (3 : Int32))) r4) fun M5 => (chk (((250 : Int32) + ((10 : Int32) * (M 209 (Int32.toNatClampNeg (1 : Int32))))) + (4 : Int32)) 12750 (lt (upd2 M5 209 (Int32.toNatClampNeg (((250 : Int32) + ((10 : Int32) * (M 209 (Int32.toNatClampNeg (1 : Int32))))) + (4 : Int32))) c) fun M6 => (chk (((250 : Int32) + ((10 : Int32) * (M 209 (Int32.toNatClampNeg (1 : Int32))))) + (5 : Int32)) 12750 (lt (upd2 M6 209 (Int32.toNatClampNeg (((250 : Int32) + ((10 : Int32) * (M 209 (Int32.toNatClampNeg (1 : Int32))))) + (5 : Int32))) d) fun M7 => (bnp (mX11_of b (1 : Int32) M7) fun r8 => (chk (((250 : Int32) + ((10 : Int32) * (M 209 (Int32.toNatClampNeg (1 : Int32))))) + (6 : Int32)) 12750 (lt (upd2 M7 209 (Int32.toNatClampNeg (((250 : Int32) + ((10 : Int32) * (M 209 (Int32.toNatClampNeg (1 : Int32))))) + (6 : Int32))) r8) fun M9 => (chk (((250 : Int32) + ((10 : Int32) * (M 209 (Int32.toNatClampNeg (1 : Int32))))) + (7 : Int32)) 12750 (lt (upd2 M9 209 (Int32.toNatClampNeg (((250 : Int32) + ((10 : Int32) * (M 209 (Int32.toNatClampNeg (1 : Int32))))) + (7 : Int32))) e0) fun M10 => (chk (((250 : Int32) + ((10 : Int32) * (M 209 (Int32.toNatClampNeg (1 : Int32))))) + (8 : Int32)) 12750 (lt (upd2 M10 209 (Int32.toNatClampNeg (((250 : Int32) + ((10 : Int32) * (M 209 (Int32.toNatClampNeg (1 : Int32))))) + (8 : Int32))) (-2 : Int32)) fun M11 => (chk (((250 : Int32) + ((10 : Int32) * (M 209 (Int32.toNatClampNeg (1 : Int32))))) + (9 : Int32)) 12750 (lt (upd2 M11 209 (Int32.toNatClampNeg (((250 : Int32) + ((10 : Int32) * (M 209 (Int32.toNatClampNeg (1 : Int32))))) + (9 : Int32))) (-2 : Int32)) fun M12 => (chk (1 : Int32) 12750 (chk (1 : Int32) 12750 (lt (upd2 M12 209 (Int32.toNatClampNeg (1 : Int32)) ((M12 209 (Int32.toNatClampNeg (1 : Int32))) + (1 : Int32))) fun M13 => (some (e0, M13)))))))))))))))))))))))))))))
def mX11_allOf_c4 (n : Nat) : Nat → Int32 → Int32 → Int32 → Mem → Option Int32
  | 0, _, _, _, _ => none
  | f + 1, v1, v2, v3, M => (chk (1 : Int32) 12750 (if (M 209 (Int32.toNatClampNeg (1 : Int32))) ≤ v3 then (some v2) else (bnp (mX11_entryOf v3 (1 : Int32) M) fun r1 => (if r1 = v1 then (bnp (mX11_entryOf v3 (7 : Int32) M) fun r2 => ((mX11_allOf_c4 n f) v1 (v2 + r2) (v3 + (1 : Int32)) M)) else ((mX11_allOf_c4 n f) v1 v2 (v3 + (1 : Int32)) M)))))
def mX11_allOf (n : Nat) (a : Int32) (M : Mem) : Option Int32 := (mX11_allOf_c4 n n a (0 : Int32) (0 : Int32) M)
def mX11_worthBy_c110 (n : Nat) (v1 : Int32) (v2 : Int32) (v3 : Int32) (M : Mem) : Option Int32 := (bnp (mX11_of v1 (7 : Int32) M) fun r1 => (if r1 = (1 : Int32) then (bnp (mX11_planOf v2 (5 : Int32) M) fun r2 => (some ((v3 * r2) / (100 : Int32)))) else (some v3)))
def mX11_worthBy_c21 (n : Nat) : Nat → Int32 → Int32 → Int32 → Int32 → Int32 → Mem → Option Int32
  | 0, _, _, _, _, _, _ => none
  | f + 1, v1, v2, v3, v4, v5, M => (bnp (mX11_planOf v2 (14 : Int32) M) fun r3 => (if r3 ≤ v5 then (bnp (mX11_of v1 (3 : Int32) M) fun r4 => (chk (3 : Int32) 12750 (if (M 209 (Int32.toNatClampNeg (3 : Int32))) ≤ r4 then (mX11_worthBy_c110 n v1 v2 (v3 - ((v3 * v4) / (100 : Int32))) M) else (chk (2 : Int32) 12750 (mX11_worthBy_c110 n v1 v2 ((v3 - ((v3 * v4) / (100 : Int32))) - (((v3 - ((v3 * v4) / (100 : Int32))) * (M 209 (Int32.toNatClampNeg (2 : Int32)))) / (100 : Int32))) M))))) else (bnp (mX11_planOf v2 ((15 : Int32) + v5) M) fun r5 => (bnp (mX11_of v1 (10 : Int32) M) fun r6 => (if r6 < r5 then ((mX11_worthBy_c21 n f) v1 v2 v3 v4 (v5 + (1 : Int32)) M) else (bnp (mX11_planOf v2 ((18 : Int32) + v5) M) fun r7 => ((mX11_worthBy_c21 n f) v1 v2 v3 r7 (v5 + (1 : Int32)) M)))))))
def mX11_worthBy (n : Nat) (a : Int32) (b : Int32) (M : Mem) : Option Int32 := (bnp (mX11_planOf b (0 : Int32) M) fun r8 => (bnp (mX11_of a (10 : Int32) M) fun r9 => (mX11_worthBy_c21 n n a b (r8 * r9) (0 : Int32) (0 : Int32) M)))
def mX11_worth (n : Nat) (a : Int32) (M : Mem) : Option Int32 := (bnp (mX11_of a (1 : Int32) M) fun r1 => (bnp (mX11_worthBy n a r1 M) fun r2 => (some r2)))
def mX11_leftBy (n : Nat) (a : Int32) (b : Int32) (c : Int32) (M : Mem) : Option Int32 := (bnp (mX11_worthBy n a b M) fun r1 => (bnp (mX11_of a (2 : Int32) M) fun r2 => (bnp (mX11_of a (5 : Int32) M) fun r3 => (bnp (mX11_slice n r1 r2 c r3 M) fun r4 => (some r4)))))
def mX11_charges (n : Nat) (a : Int32) (M : Mem) : Option (Int32 × Mem) := (chk (0 : Int32) 12750 (bnp (mX11_of a (5 : Int32) M) fun r1 => (bnp (mX11_of a (1 : Int32) M) fun r2 => (chk (0 : Int32) 12750 (bnp (mX11_leftBy n a r2 (M 209 (Int32.toNatClampNeg (0 : Int32))) M) fun r3 => (bnd (mX11_writes (0 : Int32) a (M 209 (Int32.toNatClampNeg (0 : Int32))) r1 r3 M) fun r4 M5 => (some (r4, M5))))))))
def mX11_credits (n : Nat) (a : Int32) (M : Mem) : Option (Int32 × Mem) := (chk (0 : Int32) 12750 (bnp (mX11_of a (5 : Int32) M) fun r1 => (bnp (mX11_of a (1 : Int32) M) fun r2 => (chk (0 : Int32) 12750 (bnp (mX11_leftBy n a r2 (M 209 (Int32.toNatClampNeg (0 : Int32))) M) fun r3 => (bnd (mX11_writes (1 : Int32) a (M 209 (Int32.toNatClampNeg (0 : Int32))) r1 (-r3) M) fun r4 M5 => (some (r4, M5))))))))
def mX11_uses (n : Nat) (a : Int32) (M : Mem) : Option (Int32 × Mem) := (bnp (mX11_of a (4 : Int32) M) fun r1 => (chk (0 : Int32) 12750 (bnp (mX11_of a (1 : Int32) M) fun r2 => (bnp (mX11_of a (6 : Int32) M) fun r3 => (bnp (mX11_usageOf n r2 r3 M) fun r4 => (bnd (mX11_writes (2 : Int32) a r1 (M 209 (Int32.toNatClampNeg (0 : Int32))) r4 M) fun r5 M6 => (bnp (mX11_sets a (6 : Int32) (0 : Int32) M6) fun M8 => (some (r5, M8)))))))))
end
section
def mX11_opens (n : Nat) (a : Int32) (b : Int32) (M : Mem) : Option Mem := (bnp (mX11_sets a (3 : Int32) b M) fun M2 => (chk (0 : Int32) 12750 (bnp (mX11_sets a (4 : Int32) (M2 209 (Int32.toNatClampNeg (0 : Int32))) M2) fun M4 => (bnp (mX11_of a (2 : Int32) M4) fun r5 => (chk (0 : Int32) 12750 (bnp (mX11_nextTurn n r5 (M4 209 (Int32.toNatClampNeg (0 : Int32))) M4) fun r6 => (bnp (mX11_sets a (5 : Int32) r6 M4) fun M8 => (some M8))))))))
def mX11_begin_c72 (n : Nat) : Nat → Int32 → Int32 → Int32 → Int32 → Mem → Option (Int32 × Mem)
  | 0, _, _, _, _, _ => none
  | f + 1, v1, v2, v3, v4, M => (if (12 : Int32) ≤ v4 then (bnp (mX11_sets v1 (0 : Int32) (1 : Int32) M) fun M2 => (bnp (mX11_sets v1 (1 : Int32) v2 M2) fun M4 => (bnp (mX11_sets v1 (2 : Int32) v3 M4) fun M6 => (bnp (mX11_sets v1 (10 : Int32) (1 : Int32) M6) fun M8 => (bnp (mX11_opens n v1 (0 : Int32) M8) fun M10 => (bnd (mX11_charges n v1 M10) fun r11 M12 => (some (r11, M12)))))))) else (bnp (mX11_sets v1 v4 (0 : Int32) M) fun M14 => ((mX11_begin_c72 n f) v1 v2 v3 (v4 + (1 : Int32)) M14)))
def mX11_begin (n : Nat) (a : Int32) (b : Int32) (c : Int32) (M : Mem) : Option (Int32 × Mem) := (bnp (mX11_isNumber a) fun r15 => (if r15 = 0 then (some ((-1 : Int32), M)) else (bnp (mX11_isPlan b) fun r17 => (if r17 = 0 then (some ((-1 : Int32), M)) else (bnp (mX11_isAnchor c) fun r19 => (if r19 = 0 then (some ((-1 : Int32), M)) else (chk (1 : Int32) 12750 (if (M 209 (Int32.toNatClampNeg (1 : Int32))) = (400 : Int32) then (some ((-3 : Int32), M)) else (bnp (mX11_isBegun a M) fun r21 => (if r21 = 0 then (chk (0 : Int32) 12750 (bnp (mX11_nextTurn n c (M 209 (Int32.toNatClampNeg (0 : Int32))) M) fun r23 => (if r23 ≤ (3652 : Int32) then (mX11_begin_c72 n n a b c (0 : Int32) M) else (some ((-5 : Int32), M))))) else (some ((-4 : Int32), M))))))))))))
def mX11_change (n : Nat) (a : Int32) (b : Int32) (M : Mem) : Option (Int32 × Mem) := (bnp (mX11_isOn a M) fun r1 => (if r1 = 0 then (some ((-1000000 : Int32), M)) else (bnp (mX11_isPlan b) fun r3 => (if r3 = 0 then (some ((-1000000 : Int32), M)) else (bnp (mX11_of a (1 : Int32) M) fun r5 => (if b = r5 then (some ((-1000000 : Int32), M)) else (chk (1 : Int32) 12750 (if (M 209 (Int32.toNatClampNeg (1 : Int32))) ≤ (398 : Int32) then (bnd (mX11_credits n a M) fun r6 M7 => (bnp (mX11_sets a (1 : Int32) b M7) fun M9 => (bnd (mX11_charges n a M9) fun r10 M11 => (some ((r6 + r10), M11))))) else (some ((-1000001 : Int32), M))))))))))
def mX11_seats (n : Nat) (a : Int32) (b : Int32) (M : Mem) : Option (Int32 × Mem) := (bnp (mX11_isOn a M) fun r1 => (if r1 = 0 then (some ((-1000000 : Int32), M)) else (bnp (mX11_in b (1 : Int32) (9 : Int32)) fun r3 => (if r3 = 0 then (some ((-1000000 : Int32), M)) else (bnp (mX11_of a (10 : Int32) M) fun r5 => (if b = r5 then (some ((-1000000 : Int32), M)) else (chk (1 : Int32) 12750 (if (M 209 (Int32.toNatClampNeg (1 : Int32))) ≤ (398 : Int32) then (bnd (mX11_credits n a M) fun r6 M7 => (bnp (mX11_sets a (10 : Int32) b M7) fun M9 => (bnd (mX11_charges n a M9) fun r10 M11 => (some ((r6 + r10), M11))))) else (some ((-1000001 : Int32), M))))))))))
def mX11_pause_c24 (n : Nat) (v1 : Int32) (v2 : Int32) (s0 : Int32) (s1 : Int32) (M : Mem) : Option (Int32 × Mem) := (if s1 = s0 then (some ((-1000000 : Int32), M)) else (chk (1 : Int32) 12750 (if (M 209 (Int32.toNatClampNeg (1 : Int32))) ≤ (398 : Int32) then (bnd (mX11_credits n v1 M) fun r1 M2 => (if v2 = 0 then (bnp (mX11_sets v1 (7 : Int32) (0 : Int32) M2) fun M4 => (bnd (mX11_charges n v1 M4) fun r5 M6 => (some ((r1 + r5), M6)))) else (bnp (mX11_sets v1 (7 : Int32) (1 : Int32) M2) fun M8 => (bnd (mX11_charges n v1 M8) fun r9 M10 => (some ((r1 + r9), M10)))))) else (some ((-1000001 : Int32), M)))))
def mX11_pause (n : Nat) (a : Int32) (b : Int32) (M : Mem) : Option (Int32 × Mem) := (bnp (mX11_isOn a M) fun r11 => (if r11 = 0 then (some ((-1000000 : Int32), M)) else (bnp (mX11_of a (7 : Int32) M) fun r13 => (if b = 0 then (mX11_pause_c24 n a b (0 : Int32) r13 M) else (mX11_pause_c24 n a b (1 : Int32) r13 M)))))
def mX11_giveUp (n : Nat) (a : Int32) (M : Mem) : Option (Int32 × Mem) := (bnp (mX11_isOn a M) fun r1 => (if r1 = 0 then (some ((-1000000 : Int32), M)) else (chk (1 : Int32) 12750 (if (M 209 (Int32.toNatClampNeg (1 : Int32))) ≤ (398 : Int32) then (bnd (mX11_credits n a M) fun r3 M4 => (bnd (mX11_uses n a M4) fun r5 M6 => (bnp (mX11_sets a (8 : Int32) (1 : Int32) M6) fun M8 => (some ((r3 + r5), M8))))) else (some ((-1000001 : Int32), M))))))
def mX11_move (n : Nat) (a : Int32) (b : Int32) (M : Mem) : Option (Int32 × Mem) := (bnp (mX11_isOn a M) fun r1 => (if r1 = 0 then (some ((-1000000 : Int32), M)) else (bnp (mX11_isAnchor b) fun r3 => (if r3 = 0 then (some ((-1000000 : Int32), M)) else (bnp (mX11_of a (2 : Int32) M) fun r5 => (if b = r5 then (some ((-1000000 : Int32), M)) else (chk (1 : Int32) 12750 (if (M 209 (Int32.toNatClampNeg (1 : Int32))) ≤ (397 : Int32) then (chk (0 : Int32) 12750 (bnp (mX11_nextTurn n b (M 209 (Int32.toNatClampNeg (0 : Int32))) M) fun r6 => (if r6 ≤ (3652 : Int32) then (bnd (mX11_credits n a M) fun r7 M8 => (bnd (mX11_uses n a M8) fun r9 M10 => (bnp (mX11_sets a (2 : Int32) b M10) fun M12 => (bnp (mX11_of a (3 : Int32) M12) fun r13 => (bnp (mX11_opens n a (r13 + (1 : Int32)) M12) fun M15 => (bnd (mX11_charges n a M15) fun r16 M17 => (some (((r7 + r9) + r16), M17)))))))) else (some ((-1000002 : Int32), M))))) else (some ((-1000001 : Int32), M))))))))))
def mX11_use (a : Int32) (b : Int32) (M : Mem) : Option (Int32 × Mem) := (bnp (mX11_isOn a M) fun r1 => (if r1 = 0 then (some ((-1 : Int32), M)) else (if 0 ≤ b then (bnp (mX11_of a (7 : Int32) M) fun r3 => (if r3 = (1 : Int32) then (some ((-2 : Int32), M)) else (bnp (mX11_of a (6 : Int32) M) fun r4 => (if b ≤ ((9999 : Int32) - r4) then (bnp (mX11_of a (6 : Int32) M) fun r5 => (bnp (mX11_sets a (6 : Int32) (r5 + b) M) fun M7 => (bnp (mX11_of a (6 : Int32) M7) fun r8 => (some (r8, M7))))) else (some ((-3 : Int32), M)))))) else (some ((-1 : Int32), M)))))
def mX11_turnsOn (a : Int32) (b : Int32) (M : Mem) : Option Int32 := (bnp (mX11_isOn a M) fun r1 => (if r1 = 0 then (some (0 : Int32)) else (bnp (mX11_of a (5 : Int32) M) fun r3 => (if r3 = b then (some (1 : Int32)) else (some (0 : Int32))))))
def mX11_mayPass_c22 (n : Nat) : Nat → Int32 → Int32 → Int32 → Mem → Option Int32
  | 0, _, _, _, _ => none
  | f + 1, v1, v2, v3, M => (if (6 : Int32) ≤ v3 then (chk (1 : Int32) 12750 (if (400 : Int32) < ((M 209 (Int32.toNatClampNeg (1 : Int32))) + v2) then (some (0 : Int32)) else (some (1 : Int32)))) else (bnp (mX11_turnsOn v3 v1 M) fun r1 => (if r1 = 0 then ((mX11_mayPass_c22 n f) v1 v2 (v3 + (1 : Int32)) M) else (bnp (mX11_of v3 (2 : Int32) M) fun r3 => (bnp (mX11_nextTurn n r3 v1 M) fun r4 => (if r4 ≤ (3652 : Int32) then ((mX11_mayPass_c22 n f) v1 (v2 + (2 : Int32)) (v3 + (1 : Int32)) M) else (some (0 : Int32))))))))
def mX11_mayPass (n : Nat) (M : Mem) : Option Int32 := (chk (0 : Int32) 12750 (if ((M 209 (Int32.toNatClampNeg (0 : Int32))) + (1 : Int32)) ≤ (3652 : Int32) then (mX11_mayPass_c22 n n ((M 209 (Int32.toNatClampNeg (0 : Int32))) + (1 : Int32)) (0 : Int32) (0 : Int32) M) else (some (0 : Int32))))
def mX11_pass_c34 (n : Nat) (k2 : Int32 → Int32 → Mem → Option (Int32 × Mem)) : Nat → Int32 → Int32 → Int32 → Mem → Option (Int32 × Mem)
  | 0, _, _, _, _ => none
  | f + 1, v1, v2, v3, M => (if (6 : Int32) ≤ v3 then (k2 v1 v2 M) else (chk (0 : Int32) 12750 (bnp (mX11_turnsOn v3 (M 209 (Int32.toNatClampNeg (0 : Int32))) M) fun r1 => (if r1 = 0 then ((mX11_pass_c34 n k2 f) v1 v2 (v3 + (1 : Int32)) M) else (bnd (mX11_uses n v3 M) fun r3 M4 => (bnp (mX11_of v3 (3 : Int32) M4) fun r5 => (bnp (mX11_opens n v3 (r5 + (1 : Int32)) M4) fun M7 => (bnd (mX11_charges n v3 M7) fun r8 M9 => ((mX11_pass_c34 n k2 f) v1 v2 (v3 + (1 : Int32)) M9)))))))))
def mX11_pass_c2 (n : Nat) : Nat → Int32 → Int32 → Mem → Option (Int32 × Mem)
  | 0, _, _, _ => none
  | f + 1, v1, v2, M => (if v1 ≤ v2 then (some (v2, M)) else (bnp (mX11_mayPass n M) fun r10 => (if r10 = 0 then (some (v2, M)) else (chk (0 : Int32) 12750 (chk (0 : Int32) 12750 (lt (upd2 M 209 (Int32.toNatClampNeg (0 : Int32)) ((M 209 (Int32.toNatClampNeg (0 : Int32))) + (1 : Int32))) fun M12 => (mX11_pass_c34 n (mX11_pass_c2 n f) n v1 (v2 + (1 : Int32)) (0 : Int32) M12)))))))
def mX11_pass (n : Nat) (a : Int32) (M : Mem) : Option (Int32 × Mem) := (mX11_pass_c2 n n a (0 : Int32) M)
def mX11_days (n : Nat) (a : Int32) (M : Mem) : Option (Int32 × Mem) := (bnp (mX11_in a (1 : Int32) (400 : Int32)) fun r1 => (if r1 = 0 then (some ((-1 : Int32), M)) else (bnd (mX11_pass n a M) fun r3 M4 => (some (r3, M4)))))
def mX11_favour (n : Nat) (a : Int32) (b : Int32) (M : Mem) : Option (Int32 × Mem) := (bnp (mX11_isBegun a M) fun r1 => (if r1 = 0 then (some ((-1000000 : Int32), M)) else (if b < (1 : Int32) then (some ((-1000000 : Int32), M)) else (bnp (mX11_allOf n a M) fun r3 => (if b ≤ r3 then (chk (1 : Int32) 12750 (if (M 209 (Int32.toNatClampNeg (1 : Int32))) = (400 : Int32) then (some ((-1000001 : Int32), M)) else (chk (0 : Int32) 12750 (chk (0 : Int32) 12750 (bnd (mX11_writes (3 : Int32) a (M 209 (Int32.toNatClampNeg (0 : Int32))) (M 209 (Int32.toNatClampNeg (0 : Int32))) (-b) M) fun r4 M5 => (bnp (mX11_allOf n a M5) fun r6 => (some (r6, M5)))))))) else (some ((-1000000 : Int32), M)))))))
def mX11_isEntry (a : Int32) (M : Mem) : Option Int32 := (chk (1 : Int32) 12750 (bnp (mX11_in a (0 : Int32) ((M 209 (Int32.toNatClampNeg (1 : Int32))) - (1 : Int32))) fun r1 => (some r1)))
def mX11_turn_c81 (n : Nat) : Nat → Int32 → Int32 → Int32 → Mem → Option (Int32 × Mem)
  | 0, _, _, _, _ => none
  | f + 1, v1, v2, v3, M => (if (10 : Int32) ≤ v3 then (chk ((250 : Int32) + ((10 : Int32) * v2)) 12750 (chk (0 : Int32) 12750 (chk (((250 : Int32) + ((10 : Int32) * v2)) + (2 : Int32)) 12750 (lt (upd2 (upd2 M 209 (Int32.toNatClampNeg ((250 : Int32) + ((10 : Int32) * v2))) (4 : Int32)) 209 (Int32.toNatClampNeg (((250 : Int32) + ((10 : Int32) * v2)) + (2 : Int32))) ((upd2 M 209 (Int32.toNatClampNeg ((250 : Int32) + ((10 : Int32) * v2))) (4 : Int32)) 209 (Int32.toNatClampNeg (0 : Int32)))) fun M1 => (bnp (mX11_entryOf v1 (7 : Int32) M1) fun r2 => (chk (((250 : Int32) + ((10 : Int32) * v2)) + (7 : Int32)) 12750 (lt (upd2 M1 209 (Int32.toNatClampNeg (((250 : Int32) + ((10 : Int32) * v2)) + (7 : Int32))) (-r2)) fun M3 => (chk (((250 : Int32) + ((10 : Int32) * v2)) + (8 : Int32)) 12750 (lt (upd2 M3 209 (Int32.toNatClampNeg (((250 : Int32) + ((10 : Int32) * v2)) + (8 : Int32))) v1) fun M4 => (chk (((250 : Int32) + ((10 : Int32) * v1)) + (9 : Int32)) 12750 (lt (upd2 M4 209 (Int32.toNatClampNeg (((250 : Int32) + ((10 : Int32) * v1)) + (9 : Int32))) v2) fun M5 => (chk (1 : Int32) 12750 (some (v2, (upd2 M5 209 (Int32.toNatClampNeg (1 : Int32)) (v2 + (1 : Int32))))))))))))))))) else (bnp (mX11_entryOf v1 v3 M) fun r6 => (chk (((250 : Int32) + ((10 : Int32) * v2)) + v3) 12750 ((mX11_turn_c81 n f) v1 v2 (v3 + (1 : Int32)) (upd2 M 209 (Int32.toNatClampNeg (((250 : Int32) + ((10 : Int32) * v2)) + v3)) r6)))))
def mX11_turn (n : Nat) (a : Int32) (M : Mem) : Option (Int32 × Mem) := (bnp (mX11_isEntry a M) fun r7 => (if r7 = 0 then (some ((-1 : Int32), M)) else (bnp (mX11_entryOf a (0 : Int32) M) fun r9 => (if r9 = (4 : Int32) then (some ((-2 : Int32), M)) else (bnp (mX11_entryOf a (9 : Int32) M) fun r10 => (if r10 < 0 then (chk (1 : Int32) 12750 (if (M 209 (Int32.toNatClampNeg (1 : Int32))) = (400 : Int32) then (some ((-3 : Int32), M)) else (bnp (mX11_entryOf a (1 : Int32) M) fun r11 => (bnp (mX11_allOf n r11 M) fun r12 => (bnp (mX11_entryOf a (7 : Int32) M) fun r13 => (if 0 ≤ (r12 - r13) then (chk (1 : Int32) 12750 (mX11_turn_c81 n n a (M 209 (Int32.toNatClampNeg (1 : Int32))) (0 : Int32) M)) else (some ((-4 : Int32), M)))))))) else (some ((-2 : Int32), M))))))))
def mX11_readsAccount (M : Mem) : Option (Int32 × Mem) := (bnd (mX11_takesSign (32 : Int32) M) fun r1 M2 => (if r1 = 0 then (some ((0 : Int32), M2)) else (bnp (mX11_here M2) fun r4 => (bnp (mX11_isDigit r4) fun r5 => (if r5 = 0 then (bnd (mX11_wrongAt (1 : Int32) (M2 207 5) M2) fun r13 M14 => (some (r13, M14))) else (bnp (mX11_here M2) fun r7 => (if r7 ≤ (53 : Int32) then (bnp (mX11_here M2) fun r8 => (lt (upd2 (upd2 M2 207 8 (r8 - (48 : Int32))) 207 5 (((upd2 M2 207 8 (r8 - (48 : Int32))) 207 5) + (1 : Int32))) fun M9 => (some ((1 : Int32), M9)))) else (bnd (mX11_wrongAt (3 : Int32) (M2 207 5) M2) fun r10 M11 => (some (r10, M11))))))))))
def mX11_readsRest_c16 (n : Nat) (M : Mem) : Option (Int32 × Mem) := (bnd (mX11_readsNumber n (0 : Int32) (99999 : Int32) M) fun r1 M2 => (if r1 = 0 then (some ((0 : Int32), M2)) else (chk (M2 207 17) 24 (some ((1 : Int32), (upd2 M2 213 (Int32.toNatClampNeg (M2 207 17)) (M2 207 8)))))))
def mX11_readsRest_c103 (n : Nat) (v1 : Int64) (M : Mem) : Option (Int32 × Mem) := (if (lg_cmp v1 (109099237 : Int64)) = 0 then (some ((1 : Int32), M)) else (if (lg_cmp v1 (643568 : Int64)) = 0 then (some ((1 : Int32), M)) else (if (lg_cmp v1 (494 : Int64)) = 0 then (some ((1 : Int32), M)) else (if (lg_cmp v1 (578868 : Int64)) = 0 then (some ((1 : Int32), M)) else (if (lg_cmp v1 (609658308 : Int64)) = 0 then (some ((1 : Int32), M)) else (bnd (mX11_readsNumber n (0 : Int32) (99999 : Int32) M) fun r4 M5 => (if r4 = 0 then (some ((0 : Int32), M5)) else (chk (M5 207 17) 24 (some ((1 : Int32), (upd2 M5 215 (Int32.toNatClampNeg (M5 207 17)) (M5 207 8))))))))))))
def mX11_readsRest (n : Nat) (a : Int64) (M : Mem) : Option (Int32 × Mem) := (if (lg_cmp a (132915 : Int64)) = 0 then (mX11_readsRest_c16 n M) else (if (lg_cmp a (677454 : Int64)) = 0 then (mX11_readsRest_c16 n M) else (bnd (mX11_readsAccount M) fun r7 M8 => (if r7 = 0 then (some ((0 : Int32), M8)) else (chk (M8 207 17) 24 (if (lg_cmp a (2268462 : Int64)) = 0 then (bnd (mX11_readsPlan (upd2 M8 213 (Int32.toNatClampNeg (M8 207 17)) (M8 207 8))) fun r10 M11 => (if r10 = 0 then (some ((0 : Int32), M11)) else (chk (M11 207 17) 24 (mX11_readsRest_c103 n a (upd2 M11 214 (Int32.toNatClampNeg (M11 207 17)) (M11 207 8)))))) else (if (lg_cmp a (109099237 : Int64)) = 0 then (bnd (mX11_readsPlan (upd2 M8 213 (Int32.toNatClampNeg (M8 207 17)) (M8 207 8))) fun r13 M14 => (if r13 = 0 then (some ((0 : Int32), M14)) else (chk (M14 207 17) 24 (mX11_readsRest_c103 n a (upd2 M14 214 (Int32.toNatClampNeg (M14 207 17)) (M14 207 8)))))) else (mX11_readsRest_c103 n a (upd2 M8 213 (Int32.toNatClampNeg (M8 207 17)) (M8 207 8))))))))))
def mX11_isDeed (a : Int64) : Option Int32 := (if (lg_cmp a (2268462 : Int64)) = 0 then (some (1 : Int32)) else (if (lg_cmp a (109099237 : Int64)) = 0 then (some (1 : Int32)) else (if (lg_cmp a (643568 : Int64)) = 0 then (some (1 : Int32)) else (if (lg_cmp a (494 : Int64)) = 0 then (some (1 : Int32)) else (if (lg_cmp a (578868 : Int64)) = 0 then (some (1 : Int32)) else (if (lg_cmp a (22117 : Int64)) = 0 then (some (1 : Int32)) else (if (lg_cmp a (132915 : Int64)) = 0 then (some (1 : Int32)) else (if (lg_cmp a (203112114 : Int64)) = 0 then (some (1 : Int32)) else (if (lg_cmp a (442053 : Int64)) = 0 then (some (1 : Int32)) else (if (lg_cmp a (677454 : Int64)) = 0 then (some (1 : Int32)) else (if (lg_cmp a (20088467 : Int64)) = 0 then (some (1 : Int32)) else (if (lg_cmp a (16441 : Int64)) = 0 then (some (1 : Int32)) else (if (lg_cmp a (609658308 : Int64)) = 0 then (some (1 : Int32)) else (some (0 : Int32)))))))))))))))
def mX11_readsStep (n : Nat) (M : Mem) : Option (Int32 × Mem) := (if (M 207 17) = (24 : Int32) then (bnd (mX11_wrongAt (4 : Int32) (M 207 5) M) fun r12 M13 => (some (r12, M13))) else (bnp (mX11_readsWord n M) fun M2 => (bnp (mX11_isDeed (lcb (M2 207 10) (M2 207 (10 + HI)))) fun r3 => (if r3 = 0 then (bnd (mX11_wrongAt (1 : Int32) (M2 207 9) M2) fun r9 M10 => (some (r9, M10))) else (chk (M2 207 17) 24 (lt (upd2 (upd2 M2 212 (2 * Int32.toNatClampNeg (M2 207 17)) (llo (lcb (M2 207 10) (M2 207 (10 + HI))))) 212 (2 * Int32.toNatClampNeg (M2 207 17) + 1) (lhi (lcb (M2 207 10) (M2 207 (10 + HI))))) fun M5 => (bnd (mX11_readsRest n (lcb (M5 207 10) (M5 207 (10 + HI))) M5) fun r6 M7 => (if r6 = 0 then (some ((0 : Int32), M7)) else (some ((1 : Int32), (upd2 M7 207 17 ((M7 207 17) + (1 : Int32)))))))))))))
def mX11_readsDeeds_c25 (n : Nat) : Nat → Int32 → Mem → Option (Int32 × Mem)
  | 0, _, _ => none
  | f + 1, v2, M => (if v2 = 0 then (some (v2, M)) else (if (M 207 6) ≤ (M 207 5) then (some (v2, M)) else (bnd (mX11_takesSign (59 : Int32) M) fun r1 M2 => (if r1 = 0 then ((mX11_readsDeeds_c25 n f) (0 : Int32) M2) else (bnd (mX11_readsStep n M2) fun r4 M5 => (if r4 = 0 then ((mX11_readsDeeds_c25 n f) (0 : Int32) M5) else ((mX11_readsDeeds_c25 n f) (1 : Int32) M5)))))))
def mX11_readsDeeds (n : Nat) (a : Int32) (M : Mem) : Option (Int32 × Mem) := (lt (upd2 (upd2 (upd2 (upd2 M 207 5 (0 : Int32)) 207 6 a) 207 4 (0 : Int32)) 207 17 (0 : Int32)) fun M7 => (bnd (mX11_readsStep n M7) fun r8 M9 => (mX11_readsDeeds_c25 n n r8 M9)))
def mX11_pay (a : Int32) (b : Int32) (M : Mem) : Option (Int32 × Mem) := (bnp (mX11_isBegun a M) fun r1 => (if r1 = 0 then (some ((-1 : Int32), M)) else (bnp (mX11_in b (1 : Int32) (999999 : Int32)) fun r3 => (if r3 = 0 then (some ((-1 : Int32), M)) else (bnp (mX11_of a (9 : Int32) M) fun r5 => (if b ≤ ((99999999 : Int32) - r5) then (bnp (mX11_of a (9 : Int32) M) fun r6 => (bnp (mX11_sets a (9 : Int32) (r6 + b) M) fun M8 => (bnp (mX11_of a (9 : Int32) M8) fun r9 => (some (r9, M8))))) else (some ((-1 : Int32), M))))))))
def mX11_covers_c67 (n : Nat) : Nat → Int32 → Int32 → Mem → Option Mem
  | 0, _, _, _ => none
  | f + 1, v1, v2, M => (chk (1 : Int32) 12750 (if (M 209 (Int32.toNatClampNeg (1 : Int32))) ≤ v2 then (some M) else (chk v2 400 (bnp (mX11_entryOf v2 (1 : Int32) (upd2 M 217 (Int32.toNatClampNeg v2) (0 : Int32))) fun r1 => (if r1 = v1 then (bnp (mX11_entryOf v2 (7 : Int32) (upd2 M 217 (Int32.toNatClampNeg v2) (0 : Int32))) fun r2 => (if 0 < r2 then (bnp (mX11_entryOf v2 (7 : Int32) (upd2 M 217 (Int32.toNatClampNeg v2) (0 : Int32))) fun r3 => (bnp (mX11_min ((upd2 M 217 (Int32.toNatClampNeg v2) (0 : Int32)) 207 21) r3) fun r4 => (bnp (mX11_entryOf v2 (7 : Int32) (upd2 M 217 (Int32.toNatClampNeg v2) (0 : Int32))) fun r5 => (chk v2 400 (lt (upd2 (upd2 M 217 (Int32.toNatClampNeg v2) (0 : Int32)) 217 (Int32.toNatClampNeg v2) (r5 - r4)) fun M6 => ((mX11_covers_c67 n f) v1 (v2 + (1 : Int32)) (upd2 M6 207 21 ((M6 207 21) - r4)))))))) else ((mX11_covers_c67 n f) v1 (v2 + (1 : Int32)) (upd2 M 217 (Int32.toNatClampNeg v2) (0 : Int32))))) else ((mX11_covers_c67 n f) v1 (v2 + (1 : Int32)) (upd2 M 217 (Int32.toNatClampNeg v2) (0 : Int32))))))))
def mX11_covers_c13 (n : Nat) : Nat → Int32 → Int32 → Mem → Option Mem
  | 0, _, _, _ => none
  | f + 1, v1, v2, M => (chk (1 : Int32) 12750 (if (M 209 (Int32.toNatClampNeg (1 : Int32))) ≤ v2 then (mX11_covers_c67 n n v1 (0 : Int32) M) else (bnp (mX11_entryOf v2 (1 : Int32) M) fun r7 => (if r7 = v1 then (bnp (mX11_entryOf v2 (7 : Int32) M) fun r8 => (if 0 ≤ r8 then ((mX11_covers_c13 n f) v1 (v2 + (1 : Int32)) M) else (bnp (mX11_entryOf v2 (7 : Int32) M) fun r9 => ((mX11_covers_c13 n f) v1 (v2 + (1 : Int32)) (upd2 M 207 21 ((M 207 21) - r9)))))) else ((mX11_covers_c13 n f) v1 (v2 + (1 : Int32)) M)))))
def mX11_covers (n : Nat) (a : Int32) (M : Mem) : Option Mem := (bnp (mX11_of a (9 : Int32) M) fun r10 => (mX11_covers_c13 n n a (0 : Int32) (upd2 M 207 21 r10)))
def mX11_lateOn_c10 (n : Nat) : Nat → Int32 → Int32 → Int32 → Int32 → Mem → Option (Int32 × Mem)
  | 0, _, _, _, _, _ => none
  | f + 1, v1, v2, v3, v4, M => (chk (1 : Int32) 12750 (if (M 209 (Int32.toNatClampNeg (1 : Int32))) ≤ v4 then (some (v3, M)) else (bnp (mX11_entryOf v4 (1 : Int32) M) fun r1 => (if r1 = v1 then (bnp (mX11_entryOf v4 (2 : Int32) M) fun r2 => (if v2 ≤ (r2 + (14 : Int32)) then ((mX11_lateOn_c10 n f) v1 v2 v3 (v4 + (1 : Int32)) M) else (chk v4 400 ((mX11_lateOn_c10 n f) v1 v2 (v3 + (M 217 (Int32.toNatClampNeg v4))) (v4 + (1 : Int32)) M)))) else ((mX11_lateOn_c10 n f) v1 v2 v3 (v4 + (1 : Int32)) M)))))
def mX11_lateOn (n : Nat) (a : Int32) (b : Int32) (M : Mem) : Option (Int32 × Mem) := (bnp (mX11_covers n a M) fun M4 => (mX11_lateOn_c10 n n a b (0 : Int32) (0 : Int32) M4))
def mX11_isRemindedToday_c2 (n : Nat) : Nat → Int32 → Int32 → Mem → Option Int32
  | 0, _, _, _ => none
  | f + 1, v1, v2, M => (chk (1 : Int32) 12750 (if (M 209 (Int32.toNatClampNeg (1 : Int32))) ≤ v2 then (some (0 : Int32)) else (bnp (mX11_entryOf v2 (1 : Int32) M) fun r1 => (if r1 = v1 then (bnp (mX11_entryOf v2 (0 : Int32) M) fun r2 => (if r2 = (5 : Int32) then (bnp (mX11_entryOf v2 (2 : Int32) M) fun r3 => (chk (0 : Int32) 12750 (if r3 = (M 209 (Int32.toNatClampNeg (0 : Int32))) then (some (1 : Int32)) else ((mX11_isRemindedToday_c2 n f) v1 (v2 + (1 : Int32)) M)))) else ((mX11_isRemindedToday_c2 n f) v1 (v2 + (1 : Int32)) M))) else ((mX11_isRemindedToday_c2 n f) v1 (v2 + (1 : Int32)) M)))))
def mX11_isRemindedToday (n : Nat) (a : Int32) (M : Mem) : Option Int32 := (mX11_isRemindedToday_c2 n n a (0 : Int32) M)
def mX11_remind (n : Nat) (a : Int32) (M : Mem) : Option (Int32 × Mem) := (bnp (mX11_isBegun a M) fun r1 => (if r1 = 0 then (some ((-1 : Int32), M)) else (chk (0 : Int32) 12750 (bnd (mX11_lateOn n a (M 209 (Int32.toNatClampNeg (0 : Int32))) M) fun r3 M4 => (if r3 = 0 then (some ((-2 : Int32), M4)) else (chk (1 : Int32) 12750 (if (M4 209 (Int32.toNatClampNeg (1 : Int32))) = (400 : Int32) then (some ((-3 : Int32), M4)) else (bnp (mX11_isRemindedToday n a M4) fun r5 => (if r5 = 0 then (chk (0 : Int32) 12750 (chk (0 : Int32) 12750 (chk (5 : Int32) 12750 (bnp (mX11_min (99999 : Int32) (Int64.toInt32 (((Int32.toInt64 r3) * (Int32.toInt64 (M4 209 (Int32.toNatClampNeg (5 : Int32))))) / (100 : Int64)))) fun r7 => (bnd (mX11_writes (5 : Int32) a (M4 209 (Int32.toNatClampNeg (0 : Int32))) (M4 209 (Int32.toNatClampNeg (0 : Int32))) r7 M4) fun r8 M9 => (some (r8, M9))))))) else (some ((-4 : Int32), M4)))))))))))
def mX11_does_c180 (n : Nat) (v2 : Int64) (v4 : Int32) (M : Mem) : Option (Int32 × Mem) := (if (lg_cmp v2 (643568 : Int64)) = 0 then (bnd (mX11_pause n v4 (1 : Int32) M) fun r3 M4 => (if r3 ≤ (-1000000 : Int32) then (some ((0 : Int32), M4)) else (some ((1 : Int32), M4)))) else (bnd (mX11_pause n v4 (0 : Int32) M) fun r1 M2 => (if r1 ≤ (-1000000 : Int32) then (some ((0 : Int32), M2)) else (some ((1 : Int32), M2)))))
def mX11_does (n : Nat) (a : Int32) (M : Mem) : Option (Int32 × Mem) := (chk a 24 (chk a 24 (if (lg_cmp (lcb (M 212 (2 * Int32.toNatClampNeg a)) (M 212 (2 * Int32.toNatClampNeg a + 1))) (2268462 : Int64)) = 0 then (chk a 24 (chk a 24 (bnd (mX11_begin n (M 213 (Int32.toNatClampNeg a)) (M 214 (Int32.toNatClampNeg a)) (M 215 (Int32.toNatClampNeg a)) M) fun r25 M26 => (if r25 < 0 then (some ((0 : Int32), M26)) else (some ((1 : Int32), M26)))))) else (if (lg_cmp (lcb (M 212 (2 * Int32.toNatClampNeg a)) (M 212 (2 * Int32.toNatClampNeg a + 1))) (109099237 : Int64)) = 0 then (chk a 24 (bnd (mX11_change n (M 213 (Int32.toNatClampNeg a)) (M 214 (Int32.toNatClampNeg a)) M) fun r23 M24 => (if r23 ≤ (-1000000 : Int32) then (some ((0 : Int32), M24)) else (some ((1 : Int32), M24))))) else (if (lg_cmp (lcb (M 212 (2 * Int32.toNatClampNeg a)) (M 212 (2 * Int32.toNatClampNeg a + 1))) (20088467 : Int64)) = 0 then (chk a 24 (bnd (mX11_seats n (M 213 (Int32.toNatClampNeg a)) (M 215 (Int32.toNatClampNeg a)) M) fun r21 M22 => (if r21 ≤ (-1000000 : Int32) then (some ((0 : Int32), M22)) else (some ((1 : Int32), M22))))) else (if (lg_cmp (lcb (M 212 (2 * Int32.toNatClampNeg a)) (M 212 (2 * Int32.toNatClampNeg a + 1))) (16441 : Int64)) = 0 then (chk a 24 (bnd (mX11_pay (M 213 (Int32.toNatClampNeg a)) (M 215 (Int32.toNatClampNeg a)) M) fun r19 M20 => (if r19 < 0 then (some ((0 : Int32), M20)) else (some ((1 : Int32), M20))))) else (if (lg_cmp (lcb (M 212 (2 * Int32.toNatClampNeg a)) (M 212 (2 * Int32.toNatClampNeg a + 1))) (609658308 : Int64)) = 0 then (bnd (mX11_remind n (M 213 (Int32.toNatClampNeg a)) M) fun r17 M18 => (if r17 < 0 then (some ((0 : Int32), M18)) else (some ((1 : Int32), M18)))) else (if (lg_cmp (lcb (M 212 (2 * Int32.toNatClampNeg a)) (M 212 (2 * Int32.toNatClampNeg a + 1))) (643568 : Int64)) = 0 then (mX11_does_c180 n (lcb (M 212 (2 * Int32.toNatClampNeg a)) (M 212 (2 * Int32.toNatClampNeg a + 1))) (M 213 (Int32.toNatClampNeg a)) M) else (if (lg_cmp (lcb (M 212 (2 * Int32.toNatClampNeg a)) (M 212 (2 * Int32.toNatClampNeg a + 1))) (494 : Int64)) = 0 then (mX11_does_c180 n (lcb (M 212 (2 * Int32.toNatClampNeg a)) (M 212 (2 * Int32.toNatClampNeg a + 1))) (M 213 (Int32.toNatClampNeg a)) M) else (if (lg_cmp (lcb (M 212 (2 * Int32.toNatClampNeg a)) (M 212 (2 * Int32.toNatClampNeg a + 1))) (578868 : Int64)) = 0 then (bnd (mX11_giveUp n (M 213 (Int32.toNatClampNeg a)) M) fun r15 M16 => (if r15 ≤ (-1000000 : Int32) then (some ((0 : Int32), M16)) else (some ((1 : Int32), M16)))) else (if (lg_cmp (lcb (M 212 (2 * Int32.toNatClampNeg a)) (M 212 (2 * Int32.toNatClampNeg a + 1))) (22117 : Int64)) = 0 then (chk a 24 (bnd (mX11_use (M 213 (Int32.toNatClampNeg a)) (M 215 (Int32.toNatClampNeg a)) M) fun r13 M14 => (if r13 < 0 then (some ((0 : Int32), M14)) else (some ((1 : Int32), M14))))) else (if (lg_cmp (lcb (M 212 (2 * Int32.toNatClampNeg a)) (M 212 (2 * Int32.toNatClampNeg a + 1))) (132915 : Int64)) = 0 then (bnd (mX11_days n (M 213 (Int32.toNatClampNeg a)) M) fun r11 M12 => (if r11 < 0 then (some ((0 : Int32), M12)) else (some ((1 : Int32), M12)))) else (if (lg_cmp (lcb (M 212 (2 * Int32.toNatClampNeg a)) (M 212 (2 * Int32.toNatClampNeg a + 1))) (203112114 : Int64)) = 0 then (chk a 24 (bnd (mX11_favour n (M 213 (Int32.toNatClampNeg a)) (M 215 (Int32.toNatClampNeg a)) M) fun r9 M10 => (if r9 ≤ (-1000000 : Int32) then (some ((0 : Int32), M10)) else (some ((1 : Int32), M10))))) else (if (lg_cmp (lcb (M 212 (2 * Int32.toNatClampNeg a)) (M 212 (2 * Int32.toNatClampNeg a + 1))) (442053 : Int64)) = 0 then (chk a 24 (bnd (mX11_move n (M 213 (Int32.toNatClampNeg a)) (M 215 (Int32.toNatClampNeg a)) M) fun r7 M8 => (if r7 ≤ (-1000000 : Int32) then (some ((0 : Int32), M8)) else (some ((1 : Int32), M8))))) else (bnd (mX11_turn n (M 213 (Int32.toNatClampNeg a)) M) fun r5 M6 => (if r5 < 0 then (some ((0 : Int32), M6)) else (some ((1 : Int32), M6))))))))))))))))))
def mX11_doesAll_c2 (n : Nat) : Nat → Int32 → Mem → Option (Int32 × Mem)
  | 0, _, _ => none
  | f + 1, v1, M => (if (M 207 17) ≤ v1 then (some (v1, M)) else (bnd (mX11_does n v1 M) fun r1 M2 => (if r1 = 0 then (some (v1, M2)) else ((mX11_doesAll_c2 n f) (v1 + (1 : Int32)) M2))))
def mX11_doesAll (n : Nat) (M : Mem) : Option (Int32 × Mem) := (mX11_doesAll_c2 n n (0 : Int32) M)
def mX11_isLong (a : Int32) (M : Mem) : Option Int32 := (bnp (mX11_in a (1 : Int32) (200 : Int32)) fun r1 => (if r1 = 0 then (some (0 : Int32)) else (if (M 207 4) < a then (some (0 : Int32)) else (some (1 : Int32)))))
def mX11_deeds (n : Nat) (a : Int32) (M : Mem) : Option (Int32 × Mem) := (bnp (mX11_isLong a M) fun r1 => (if r1 = 0 then (some ((-1 : Int32), M)) else (bnd (mX11_readsDeeds n a M) fun r3 M4 => (if r3 = 0 then (some ((M4 207 7), M4)) else (bnd (mX11_doesAll n M4) fun r6 M7 => (some (r6, M7)))))))
def mX11_tried (n : Nat) (a : Int32) (b : Int32) (M : Mem) : Option (Int32 × Mem) := (bnp (mX11_isLong a M) fun r1 => (if r1 = 0 then (some ((-1 : Int32), M)) else (bnp (mX11_isNumber b) fun r3 => (if r3 = 0 then (some ((-1 : Int32), M)) else (bnd (mX11_readsDeeds n a M) fun r5 M6 => (if r5 = 0 then (some ((M6 207 7), M6)) else (bnp (mX11_copies n (0 : Int32) (2 : Int32) M6) fun M9 => (bnd (mX11_doesAll n M9) fun r10 M11 => (bnp (mX11_isBegun b M11) fun r12 => (if r12 = 0 then (bnp (mX11_copies n (2 : Int32) (0 : Int32) M11) fun M15 => (some ((-1000000 : Int32), M15))) else (bnp (mX11_allOf n b M11) fun r16 => (bnp (mX11_copies n (2 : Int32) (0 : Int32) M11) fun M18 => (some (r16, M18))))))))))))))
def mX11_bitsOf_c4 (n : Nat) : Nat → Int32 → Int32 → Int32 → Mem → Option Int32
  | 0, _, _, _, _ => none
  | f + 1, v1, v2, v3, M => (if (6 : Int32) ≤ v3 then (some v2) else (bnp (mX11_of v3 (0 : Int32) M) fun r1 => (if r1 = (1 : Int32) then (bnp (mX11_of v3 v1 M) fun r2 => (if r2 = (1 : Int32) then ((mX11_bitsOf_c4 n f) v1 (v2 ||| ((1 : Int32) <<< (v3 &&& 31))) (v3 + (1 : Int32)) M) else ((mX11_bitsOf_c4 n f) v1 v2 (v3 + (1 : Int32)) M))) else ((mX11_bitsOf_c4 n f) v1 v2 (v3 + (1 : Int32)) M))))
def mX11_bitsOf (n : Nat) (a : Int32) (M : Mem) : Option Int32 := (mX11_bitsOf_c4 n n a (0 : Int32) (0 : Int32) M)
def mX11_billIs_c22 (n : Nat) (v1 : Int32) (M : Mem) : Option Int32 := (chk (6 : Int32) 12750 (if (v1 - v1 / (10 : Int32) * (10 : Int32)) < (M 209 (Int32.toNatClampNeg (6 : Int32))) then (if (20 : Int32) ≤ v1 then (chk ((11 : Int32) + (v1 - v1 / (10 : Int32) * (10 : Int32))) 12750 (some (M 209 (Int32.toNatClampNeg ((11 : Int32) + (v1 - v1 / (10 : Int32) * (10 : Int32))))))) else (chk ((7 : Int32) + (v1 - v1 / (10 : Int32) * (10 : Int32))) 12750 (some (M 209 (Int32.toNatClampNeg ((7 : Int32) + (v1 - v1 / (10 : Int32) * (10 : Int32)))))))) else (some (-2 : Int32))))
def mX11_billIs (n : Nat) (a : Int32) (M : Mem) : Option Int32 := (bnp (mX11_in a (10 : Int32) (13 : Int32)) fun r1 => (if r1 = 0 then (bnp (mX11_in a (20 : Int32) (23 : Int32)) fun r3 => (if r3 = 0 then (if a = (0 : Int32) then (chk (2 : Int32) 12750 (some (M 209 (Int32.toNatClampNeg (2 : Int32))))) else (if a = (1 : Int32) then (chk (3 : Int32) 12750 (some (M 209 (Int32.toNatClampNeg (3 : Int32))))) else (if a = (2 : Int32) then (chk (0 : Int32) 12750 (some (M 209 (Int32.toNatClampNeg (0 : Int32))))) else (if a = (3 : Int32) then (chk (1 : Int32) 12750 (some (M 209 (Int32.toNatClampNeg (1 : Int32))))) else (if a = (4 : Int32) then (bnp (mX11_bitsOf n (0 : Int32) M) fun r9 => (some r9)) else (if a = (5 : Int32) then (bnp (mX11_bitsOf n (8 : Int32) M) fun r11 => (some r11)) else (if a = (6 : Int32) then (bnp (mX11_bitsOf n (7 : Int32) M) fun r13 => (some r13)) else (if a = (7 : Int32) then (chk (5 : Int32) 12750 (some (M 209 (Int32.toNatClampNeg (5 : Int32))))) else (some (-1 : Int32)))))))))) else (mX11_billIs_c22 n a M))) else (mX11_billIs_c22 n a M)))
def mX11_sumOf_c43 (n : Nat) (k5 : Int32 → Int32 → Int32 → Int32 → Mem → Option Int32) (v1 : Int32) (v2 : Int32) (v3 : Int32) (v4 : Int32) (M : Mem) : Option Int32 := (if v2 = (-1 : Int32) then (k5 v1 v2 (v3 + (1 : Int32)) (v4 + (1 : Int32)) M) else (bnp (mX11_entryOf v4 (7 : Int32) M) fun r1 => (k5 v1 v2 (v3 + r1) (v4 + (1 : Int32)) M)))
def mX11_sumOf_c5 (n : Nat) : Nat → Int32 → Int32 → Int32 → Int32 → Mem → Option Int32
  | 0, _, _, _, _, _ => none
  | f + 1, v1, v2, v3, v4, M => (chk (1 : Int32) 12750 (if (M 209 (Int32.toNatClampNeg (1 : Int32))) ≤ v4 then (some v3) else (bnp (mX11_entryOf v4 (1 : Int32) M) fun r2 => (if r2 = v1 then (if v2 = (-1 : Int32) then (mX11_sumOf_c43 n (mX11_sumOf_c5 n f) v1 v2 v3 v4 M) else (bnp (mX11_entryOf v4 (0 : Int32) M) fun r3 => (if r3 = v2 then (mX11_sumOf_c43 n (mX11_sumOf_c5 n f) v1 v2 v3 v4 M) else ((mX11_sumOf_c5 n f) v1 v2 v3 (v4 + (1 : Int32)) M)))) else ((mX11_sumOf_c5 n f) v1 v2 v3 (v4 + (1 : Int32)) M)))))
def mX11_sumOf (n : Nat) (a : Int32) (b : Int32) (M : Mem) : Option Int32 := (mX11_sumOf_c5 n n a b (0 : Int32) (0 : Int32) M)
def mX11_accountIs (n : Nat) (a : Int32) (b : Int32) (M : Mem) : Option Int32 := (bnp (mX11_isBegun a M) fun r1 => (if r1 = 0 then (some (-1000000 : Int32)) else (bnp (mX11_in b (0 : Int32) (19 : Int32)) fun r3 => (if r3 = 0 then (some (-1000000 : Int32)) else (if b < (18 : Int32) then (if b < (11 : Int32) then (if b = (0 : Int32) then (bnp (mX11_of a (1 : Int32) M) fun r5 => (some r5)) else (if b = (1 : Int32) then (bnp (mX11_of a (2 : Int32) M) fun r7 => (some r7)) else (if b = (2 : Int32) then (bnp (mX11_of a (3 : Int32) M) fun r9 => (some r9)) else (if b = (3 : Int32) then (bnp (mX11_of a (4 : Int32) M) fun r11 => (some r11)) else (if b = (4 : Int32) then (bnp (mX11_of a (5 : Int32) M) fun r13 => (some r13)) else (if b = (5 : Int32) then (bnp (mX11_of a (5 : Int32) M) fun r15 => (bnp (mX11_of a (2 : Int32) M) fun r16 => (bnp (mX11_of a (4 : Int32) M) fun r17 => (bnp (mX11_lastTurn n r16 r17 M) fun r18 => (some (r15 - r18)))))) else (if b = (6 : Int32) then (bnp (mX11_worth n a M) fun r20 => (some r20)) else (if b = (7 : Int32) then (bnp (mX11_of a (6 : Int32) M) fun r22 => (some r22)) else (if b = (8 : Int32) then (bnp (mX11_allOf n a M) fun r24 => (some r24)) else (if b = (9 : Int32) then (bnp (mX11_of a (7 : Int32) M) fun r26 => (some r26)) else (bnp (mX11_of a (8 : Int32) M) fun r28 => (some r28)))))))))))) else (bnp (mX11_sumOf n a (b - (12 : Int32)) M) fun r29 => (some r29))) else (if b = (18 : Int32) then (bnp (mX11_of a (9 : Int32) M) fun r31 => (some r31)) else (bnp (mX11_of a (10 : Int32) M) fun r30 => (some r30))))))))
def mX11_entry (a : Int32) (b : Int32) (M : Mem) : Option Int32 := (bnp (mX11_isEntry a M) fun r1 => (if r1 = 0 then (some (-1000000 : Int32)) else (bnp (mX11_in b (0 : Int32) (9 : Int32)) fun r3 => (if r3 = 0 then (some (-1000000 : Int32)) else (bnp (mX11_entryOf a b M) fun r5 => (some r5))))))
def mX11_period_c27 (n : Nat) : Nat → Int32 → Int32 → Int32 → Int32 → Mem → Option Int32
  | 0, _, _, _, _, _ => none
  | f + 1, v1, v2, v3, v4, M => (chk (1 : Int32) 12750 (if (M 209 (Int32.toNatClampNeg (1 : Int32))) ≤ v4 then (some v3) else (bnp (mX11_entryOf v4 (1 : Int32) M) fun r1 => (if r1 = v1 then (bnp (mX11_entryOf v4 (3 : Int32) M) fun r2 => (if r2 = v2 then (bnp (mX11_entryOf v4 (7 : Int32) M) fun r3 => ((mX11_period_c27 n f) v1 v2 (v3 + r3) (v4 + (1 : Int32)) M)) else ((mX11_period_c27 n f) v1 v2 v3 (v4 + (1 : Int32)) M))) else ((mX11_period_c27 n f) v1 v2 v3 (v4 + (1 : Int32)) M)))))
def mX11_period (n : Nat) (a : Int32) (b : Int32) (M : Mem) : Option Int32 := (bnp (mX11_isBegun a M) fun r4 => (if r4 = 0 then (some (-1000000 : Int32)) else (bnp (mX11_in b (0 : Int32) (199 : Int32)) fun r6 => (if r6 = 0 then (some (-1000000 : Int32)) else (mX11_period_c27 n n a b (0 : Int32) (0 : Int32) M)))))
def mX11_says (a : Int32) (M : Mem) : Option Mem := (chk (M 207 19) 80 (lt (upd2 M 216 (Int32.toNatClampNeg (M 207 19)) (vp_nar .byte (Int8.toInt32 (Int32.toInt8 a)))) fun M1 => (some (upd2 M1 207 19 ((M1 207 19) + (1 : Int32))))))
def mX11_saysNumber_c53 (n : Nat) : Nat → Int32 → Int32 → Int32 → Int32 → Mem → Option Mem
  | 0, _, _, _, _, _ => none
  | f + 1, v1, v3, v4, v5, M => (if v3 ≤ v5 then (some M) else (dvi v4 (bnp (mX11_says ((48 : Int32) + ((v1 / v4) - (v1 / v4) / (10 : Int32) * (10 : Int32))) M) fun M2 => ((mX11_saysNumber_c53 n f) v1 v3 (v4 / (10 : Int32)) (v5 + (1 : Int32)) M2))))
def mX11_saysNumber_c27 (n : Nat) : Nat → Int32 → Int32 → Int32 → Mem → Option Mem
  | 0, _, _, _, _ => none
  | f + 1, v1, v3, v4, M => (dvi v4 (if (v1 / v4) ≤ (9 : Int32) then (mX11_saysNumber_c53 n n v1 v3 v4 (0 : Int32) M) else ((mX11_saysNumber_c27 n f) v1 (v3 + (1 : Int32)) (v4 * (10 : Int32)) M)))
def mX11_saysNumber_c8 (n : Nat) : Nat → Int32 → Int32 → Int32 → Int32 → Int32 → Mem → Option Mem
  | 0, _, _, _, _, _, _ => none
  | f + 1, v1, v2, v3, v4, v5, M => (if v2 ≤ v5 then (mX11_saysNumber_c27 n n v1 v3 v4 M) else ((mX11_saysNumber_c8 n f) v1 v2 v3 (v4 * (10 : Int32)) (v5 + (1 : Int32)) M))
def mX11_saysNumber (n : Nat) (a : Int32) (b : Int32) (M : Mem) : Option Mem := (mX11_saysNumber_c8 n n a b b (1 : Int32) (1 : Int32) M)
def mX11_saysWord_c3 (n : Nat) : Nat → Int64 → Int32 → Mem → Option Mem
  | 0, _, _, _ => none
  | f + 1, v1, v3, M => (if v3 < 0 then (some M) else (if (lg_cmp (v1 >>> (Int32.toInt64 ((5 : Int32) * v3) &&& 63)) (0 : Int64)) ≤ 0 then ((mX11_saysWord_c3 n f) v1 (v3 + (-1 : Int32)) M) else (bnp (mX11_says ((96 : Int32) + (Int64.toInt32 ((v1 >>> (Int32.toInt64 ((5 : Int32) * v3) &&& 63)) &&& (31 : Int64)))) M) fun M2 => ((mX11_saysWord_c3 n f) v1 (v3 + (-1 : Int32)) M2))))
def mX11_saysWord (n : Nat) (a : Int64) (M : Mem) : Option Mem := (mX11_saysWord_c3 n n a (7 : Int32) M)
def mX11_saysDate (n : Nat) (a : Int32) (M : Mem) : Option Mem := (bnp (mX11_dateOf n a (0 : Int32) M) fun r1 => (bnp (mX11_saysNumber n r1 (4 : Int32) M) fun M3 => (bnp (mX11_says (45 : Int32) M3) fun M5 => (bnp (mX11_dateOf n a (1 : Int32) M5) fun r6 => (bnp (mX11_saysNumber n r6 (2 : Int32) M5) fun M8 => (bnp (mX11_says (45 : Int32) M8) fun M10 => (bnp (mX11_dateOf n a (2 : Int32) M10) fun r11 => (bnp (mX11_saysNumber n r11 (2 : Int32) M10) fun M13 => (some M13)))))))))
def mX11_kindWord (a : Int32) : Option Int64 := (if a = 0 then (some (109103333 : Int64)) else (if a = (1 : Int32) then (some (119705908 : Int64)) else (if a = (2 : Int32) then (some (22643941 : Int64)) else (if a = (3 : Int32) then (some (203112114 : Int64)) else (if a = (4 : Int32) then (some (693713060 : Int64)) else (some (6309 : Int64)))))))
def mX11_laysLine_c140 (n : Nat) (s0 : Int32) (M : Mem) : Option Mem := (bnp (mX11_saysNumber n (s0 / (100 : Int32)) (1 : Int32) M) fun M2 => (bnp (mX11_says (46 : Int32) M2) fun M4 => (bnp (mX11_saysNumber n (s0 - s0 / (100 : Int32) * (100 : Int32)) (2 : Int32) M4) fun M6 => (some M6))))
def mX11_laysLine (n : Nat) (a : Int32) (M : Mem) : Option Mem := (bnp (mX11_says (80 : Int32) (upd2 M 207 19 (0 : Int32))) fun M8 => (bnp (mX11_entryOf a (3 : Int32) M8) fun r9 => (bnp (mX11_saysNumber n r9 (1 : Int32) M8) fun M11 => (bnp (mX11_says (32 : Int32) M11) fun M13 => (bnp (mX11_entryOf a (4 : Int32) M13) fun r14 => (bnp (mX11_saysDate n r14 M13) fun M16 => (bnp (mX11_says (32 : Int32) M16) fun M18 => (bnp (mX11_saysWord n (655 : Int64) M18) fun M20 => (bnp (mX11_says (32 : Int32) M20) fun M22 => (bnp (mX11_entryOf a (5 : Int32) M22) fun r23 => (bnp (mX11_saysDate n r23 M22) fun M25 => (bnp (mX11_says (32 : Int32) M25) fun M27 => (bnp (mX11_entryOf a (6 : Int32) M27) fun r28 => (bnp (mX11_says ((65 : Int32) + r28) M27) fun M30 => (bnp (mX11_says (32 : Int32) M30) fun M32 => (bnp (mX11_entryOf a (0 : Int32) M32) fun r33 => (bnp (mX11_kindWord r33) fun r34 => (bnp (mX11_saysWord n r34 M32) fun M36 => (bnp (mX11_says (32 : Int32) M36) fun M38 => (bnp (mX11_entryOf a (7 : Int32) M38) fun r39 => (if 0 ≤ r39 then (if 0 ≤ r39 then (mX11_laysLine_c140 n r39 M38) else (mX11_laysLine_c140 n (-r39) M38)) else (bnp (mX11_says (45 : Int32) M38) fun M41 => (if 0 ≤ r39 then (mX11_laysLine_c140 n r39 M41) else (mX11_laysLine_c140 n (-r39) M41))))))))))))))))))))))))
def mX11_line (n : Nat) (a : Int32) (b : Int32) (M : Mem) : Option (Int32 × Mem) := (bnp (mX11_isEntry a M) fun r1 => (if r1 = 0 then (some ((-1 : Int32), M)) else (if (-1 : Int32) ≤ b then (bnp (mX11_laysLine n a M) fun M4 => (if b = (-1 : Int32) then (some ((M4 207 19), M4)) else (if (M4 207 19) ≤ b then (some ((-4 : Int32), M4)) else (chk b 80 (some ((M4 216 (Int32.toNatClampNeg b)), M4)))))) else (some ((-9 : Int32), M)))))
def mX11_late (n : Nat) (a : Int32) (b : Int32) (M : Mem) : Option (Int32 × Mem) := (bnp (mX11_isBegun a M) fun r1 => (if r1 = 0 then (some ((-1000000 : Int32), M)) else (chk (0 : Int32) 12750 (bnp (mX11_in b (M 209 (Int32.toNatClampNeg (0 : Int32))) (3652 : Int32)) fun r3 => (if r3 = 0 then (some ((-1000000 : Int32), M)) else (bnd (mX11_lateOn n a b M) fun r5 M6 => (some (r5, M6))))))))
def mX11_open (n : Nat) (a : Int32) (M : Mem) : Option (Int32 × Mem) := (bnp (mX11_isEntry a M) fun r1 => (if r1 = 0 then (some ((-1000000 : Int32), M)) else (bnp (mX11_entryOf a (1 : Int32) M) fun r3 => (bnp (mX11_covers n r3 M) fun M5 => (chk a 400 (some ((M5 217 (Int32.toNatClampNeg a)), M5)))))))
def mX11_owes_c36 (n : Nat) : Nat → Int32 → Int32 → Int32 → Int32 → Int32 → Mem → Option (Int32 × Mem)
  | 0, _, _, _, _, _, _ => none
  | f + 1, v2, v3, v4, v5, v6, M => (chk (1 : Int32) 12750 (if (M 209 (Int32.toNatClampNeg (1 : Int32))) ≤ v6 then (if v2 = 0 then (some (v3, M)) else (if v2 = (1 : Int32) then (some (v4, M)) else (if v2 = (2 : Int32) then (some (v5, M)) else (some ((M 207 21), M))))) else (chk v6 400 (if (M 217 (Int32.toNatClampNeg v6)) = 0 then ((mX11_owes_c36 n f) v2 v3 v4 v5 (v6 + (1 : Int32)) M) else (if 0 ≤ v4 then (chk v6 400 ((mX11_owes_c36 n f) v2 (v3 + (1 : Int32)) v4 (v5 + (M 217 (Int32.toNatClampNeg v6))) (v6 + (1 : Int32)) M)) else (chk v6 400 ((mX11_owes_c36 n f) v2 (v3 + (1 : Int32)) v6 (v5 + (M 217 (Int32.toNatClampNeg v6))) (v6 + (1 : Int32)) M)))))))
def mX11_owes (n : Nat) (a : Int32) (b : Int32) (M : Mem) : Option (Int32 × Mem) := (bnp (mX11_isBegun a M) fun r1 => (if r1 = 0 then (some ((-1 : Int32), M)) else (bnp (mX11_in b (0 : Int32) (3 : Int32)) fun r3 => (if r3 = 0 then (some ((-1 : Int32), M)) else (bnp (mX11_covers n a M) fun M6 => (mX11_owes_c36 n n b (0 : Int32) (-2 : Int32) (0 : Int32) (0 : Int32) M6))))))
def mX11_earnedOf (a : Int32) (b : Int32) (M : Mem) : Option Int32 := (bnp (mX11_entryOf a (4 : Int32) M) fun r1 => (bnp (mX11_entryOf a (5 : Int32) M) fun r2 => (bnp (mX11_entryOf a (0 : Int32) M) fun r3 => (if (1 : Int32) < r3 then (bnp (mX11_entryOf a (2 : Int32) M) fun r4 => (if b ≤ r4 then (some (0 : Int32)) else (bnp (mX11_entryOf a (7 : Int32) M) fun r5 => (some r5)))) else (if (r2 - r1) = 0 then (bnp (mX11_entryOf a (2 : Int32) M) fun r9 => (if b ≤ r9 then (some (0 : Int32)) else (bnp (mX11_entryOf a (7 : Int32) M) fun r10 => (some r10)))) else (bnp (mX11_entryOf a (7 : Int32) M) fun r6 => (bnp (mX11_min (r2 - r1) (b - r1)) fun r7 => (bnp (mX11_max (0 : Int32) r7) fun r8 => (dvl (Int32.toInt64 (r2 - r1)) (some (Int64.toInt32 (((Int32.toInt64 r6) * (Int32.toInt64 r8)) / (Int32.toInt64 (r2 - r1))))))))))))))
def mX11_earned_c27 (n : Nat) : Nat → Int32 → Int32 → Int32 → Int32 → Mem → Option Int32
  | 0, _, _, _, _, _ => none
  | f + 1, v1, v2, v3, v4, M => (chk (1 : Int32) 12750 (if (M 209 (Int32.toNatClampNeg (1 : Int32))) ≤ v4 then (some v3) else (bnp (mX11_entryOf v4 (1 : Int32) M) fun r1 => (if r1 = v1 then (bnp (mX11_earnedOf v4 v2 M) fun r2 => ((mX11_earned_c27 n f) v1 v2 (v3 + r2) (v4 + (1 : Int32)) M)) else ((mX11_earned_c27 n f) v1 v2 v3 (v4 + (1 : Int32)) M)))))
def mX11_earned (n : Nat) (a : Int32) (b : Int32) (M : Mem) : Option Int32 := (bnp (mX11_isBegun a M) fun r3 => (if r3 = 0 then (some (-1000000 : Int32)) else (bnp (mX11_in b (0 : Int32) (3653 : Int32)) fun r5 => (if r5 = 0 then (some (-1000000 : Int32)) else (mX11_earned_c27 n n a b (0 : Int32) (0 : Int32) M)))))
def mX11_written_c27 (n : Nat) : Nat → Int32 → Int32 → Int32 → Int32 → Mem → Option Int32
  | 0, _, _, _, _, _ => none
  | f + 1, v1, v2, v3, v4, M => (chk (1 : Int32) 12750 (if (M 209 (Int32.toNatClampNeg (1 : Int32))) ≤ v4 then (some v3) else (bnp (mX11_entryOf v4 (2 : Int32) M) fun r1 => (bnp (mX11_in r1 v1 v2) fun r2 => (if r2 = 0 then ((mX11_written_c27 n f) v1 v2 v3 (v4 + (1 : Int32)) M) else (bnp (mX11_entryOf v4 (7 : Int32) M) fun r4 => ((mX11_written_c27 n f) v1 v2 (v3 + r4) (v4 + (1 : Int32)) M)))))))
def mX11_written (n : Nat) (a : Int32) (b : Int32) (M : Mem) : Option Int32 := (bnp (mX11_isDay a) fun r5 => (if r5 = 0 then (some (-1000000 : Int32)) else (bnp (mX11_isDay b) fun r7 => (if r7 = 0 then (some (-1000000 : Int32)) else (if a ≤ b then (mX11_written_c27 n n a b (0 : Int32) (0 : Int32) M) else (some (-1000000 : Int32)))))))
def mX11_rateOn_c4 (n : Nat) : Nat → Int32 → Int32 → Int32 → Mem → Option Int32
  | 0, _, _, _, _ => none
  | f + 1, v1, v2, v3, M => (chk (6 : Int32) 12750 (if (M 209 (Int32.toNatClampNeg (6 : Int32))) ≤ v3 then (some v2) else (chk ((7 : Int32) + v3) 12750 (if v1 < (M 209 (Int32.toNatClampNeg ((7 : Int32) + v3))) then ((mX11_rateOn_c4 n f) v1 v2 (v3 + (1 : Int32)) M) else (chk ((11 : Int32) + v3) 12750 ((mX11_rateOn_c4 n f) v1 (M 209 (Int32.toNatClampNeg ((11 : Int32) + v3))) (v3 + (1 : Int32)) M))))))
def mX11_rateOn (n : Nat) (a : Int32) (M : Mem) : Option Int32 := (mX11_rateOn_c4 n n a (0 : Int32) (0 : Int32) M)
def mX11_taxAhead_c6 (n : Nat) : Nat → Int32 → Int32 → Int32 → Int64 → Int32 → Mem → Option Int32
  | 0, _, _, _, _, _, _ => none
  | f + 1, v1, v2, v3, v4, v6, M => (if v3 ≤ v6 then (some (Int64.toInt32 ((v4 * (Int32.toInt64 v2)) / (100 : Int64)))) else (bnp (mX11_entryOf v6 (1 : Int32) M) fun r1 => (if r1 = v1 then (bnp (mX11_entryOf v6 (2 : Int32) M) fun r2 => (bnp (mX11_rateOn n r2 M) fun r3 => (if r3 = v2 then (bnp (mX11_entryOf v6 (7 : Int32) M) fun r4 => ((mX11_taxAhead_c6 n f) v1 v2 v3 (v4 + (Int32.toInt64 r4)) (v6 + (1 : Int32)) M)) else ((mX11_taxAhead_c6 n f) v1 v2 v3 v4 (v6 + (1 : Int32)) M)))) else ((mX11_taxAhead_c6 n f) v1 v2 v3 v4 (v6 + (1 : Int32)) M))))
def mX11_taxAhead (n : Nat) (a : Int32) (b : Int32) (c : Int32) (M : Mem) : Option Int32 := (mX11_taxAhead_c6 n n a b c (0 : Int64) (0 : Int32) M)
def mX11_tax (n : Nat) (a : Int32) (M : Mem) : Option Int32 := (bnp (mX11_isEntry a M) fun r1 => (if r1 = 0 then (some (-1000000 : Int32)) else (bnp (mX11_entryOf a (1 : Int32) M) fun r3 => (bnp (mX11_entryOf a (2 : Int32) M) fun r4 => (bnp (mX11_rateOn n r4 M) fun r5 => (bnp (mX11_taxAhead n r3 r5 (a + (1 : Int32)) M) fun r6 => (bnp (mX11_taxAhead n r3 r5 a M) fun r7 => (some (r6 - r7)))))))))
def mX11_taxes (n : Nat) (a : Int32) (b : Int32) (M : Mem) : Option Int32 := (bnp (mX11_isBegun a M) fun r1 => (if r1 = 0 then (some (-1000000 : Int32)) else (bnp (mX11_in b (0 : Int32) (100 : Int32)) fun r3 => (if r3 = 0 then (some (-1000000 : Int32)) else (chk (1 : Int32) 12750 (bnp (mX11_taxAhead n a b (M 209 (Int32.toNatClampNeg (1 : Int32))) M) fun r5 => (some r5)))))))
def mX11_quoteOf (n : Nat) (a : Int32) (b : Int32) (c : Int32) (M : Mem) : Option Int32 := (bnp (mX11_of a (1 : Int32) M) fun r1 => (if b = r1 then (some (0 : Int32)) else (bnp (mX11_leftBy n a b c M) fun r2 => (bnp (mX11_of a (1 : Int32) M) fun r3 => (bnp (mX11_leftBy n a r3 c M) fun r4 => (some (r2 - r4)))))))
def mX11_quote (n : Nat) (a : Int32) (b : Int32) (c : Int32) (M : Mem) : Option Int32 := (bnp (mX11_isOn a M) fun r1 => (if r1 = 0 then (some (-1000000 : Int32)) else (bnp (mX11_isPlan b) fun r3 => (if r3 = 0 then (some (-1000000 : Int32)) else (chk (0 : Int32) 12750 (bnp (mX11_of a (5 : Int32) M) fun r5 => (bnp (mX11_in c (M 209 (Int32.toNatClampNeg (0 : Int32))) (r5 - (1 : Int32))) fun r6 => (if r6 = 0 then (some (-1000000 : Int32)) else (bnp (mX11_quoteOf n a b c M) fun r8 => (some r8))))))))))
def mX11_best_c87 (n : Nat) : Nat → Int32 → Int32 → Int32 → Int32 → Int32 → Int32 → Mem → Option Int32
  | 0, _, _, _, _, _, _, _ => none
  | f + 1, v1, v2, v3, v4, v5, v6, M => (if (6 : Int32) ≤ v6 then (if v3 = 0 then (some v4) else (if v3 = (1 : Int32) then (bnp (mX11_quoteOf n v1 v2 v4 M) fun r1 => (some r1)) else (some v5))) else (chk (0 : Int32) 12750 (bnp (mX11_quoteOf n v1 v6 (M 209 (Int32.toNatClampNeg (0 : Int32))) M) fun r2 => (chk (0 : Int32) 12750 (bnp (mX11_quoteOf n v1 v5 (M 209 (Int32.toNatClampNeg (0 : Int32))) M) fun r3 => (if r3 ≤ r2 then ((mX11_best_c87 n f) v1 v2 v3 v4 v5 (v6 + (1 : Int32)) M) else ((mX11_best_c87 n f) v1 v2 v3 v4 v6 (v6 + (1 : Int32)) M)))))))
def mX11_best_c41 (n : Nat) : Nat → Int32 → Int32 → Int32 → Int32 → Int32 → Mem → Option Int32
  | 0, _, _, _, _, _, _ => none
  | f + 1, v1, v2, v3, v4, v5, M => (bnp (mX11_of v1 (5 : Int32) M) fun r4 => (if r4 ≤ v5 then (mX11_best_c87 n n v1 v2 v3 v4 (0 : Int32) (1 : Int32) M) else (bnp (mX11_quoteOf n v1 v2 v5 M) fun r5 => (bnp (mX11_quoteOf n v1 v2 v4 M) fun r6 => (if r6 ≤ r5 then ((mX11_best_c41 n f) v1 v2 v3 v4 (v5 + (1 : Int32)) M) else ((mX11_best_c41 n f) v1 v2 v3 v5 (v5 + (1 : Int32)) M))))))
def mX11_best (n : Nat) (a : Int32) (b : Int32) (c : Int32) (M : Mem) : Option Int32 := (bnp (mX11_isOn a M) fun r7 => (if r7 = 0 then (some (-1000000 : Int32)) else (bnp (mX11_isPlan b) fun r9 => (if r9 = 0 then (some (-1000000 : Int32)) else (bnp (mX11_in c (0 : Int32) (2 : Int32)) fun r11 => (if r11 = 0 then (some (-1000000 : Int32)) else (chk (0 : Int32) 12750 (mX11_best_c41 n n a b c (M 209 (Int32.toNatClampNeg (0 : Int32))) ((M 209 (Int32.toNatClampNeg (0 : Int32))) + (1 : Int32)) M))))))))
def mX11_ahead (n : Nat) (a : Int32) (b : Int32) (M : Mem) : Option (Int32 × Mem) := (bnp (mX11_isBegun a M) fun r1 => (if r1 = 0 then (some ((-1000000 : Int32), M)) else (bnp (mX11_in b (0 : Int32) (400 : Int32)) fun r3 => (if r3 = 0 then (some ((-1000000 : Int32), M)) else (bnp (mX11_copies n (0 : Int32) (2 : Int32) M) fun M6 => (bnd (mX11_pass n b M6) fun r7 M8 => (bnp (mX11_allOf n a M8) fun r9 => (bnp (mX11_copies n (2 : Int32) (0 : Int32) M8) fun M11 => (some (r9, M11))))))))))
def mX11_when_c70 (n : Nat) (v1 : Int32) (v2 : Int32) (v3 : Int32) (M : Mem) : Option (Int32 × Mem) := (bnp (mX11_allOf n v1 M) fun r1 => (if r1 < v2 then (bnp (mX11_copies n (2 : Int32) (0 : Int32) M) fun M3 => (some ((-2 : Int32), M3))) else (bnp (mX11_copies n (2 : Int32) (0 : Int32) M) fun M5 => (some (v3, M5)))))
def mX11_when_c21 (n : Nat) : Nat → Int32 → Int32 → Int32 → Int32 → Mem → Option (Int32 × Mem)
  | 0, _, _, _, _, _ => none
  | f + 1, v1, v2, v3, v4, M => (if v4 = 0 then (mX11_when_c70 n v1 v2 v3 M) else (if (400 : Int32) ≤ v3 then (mX11_when_c70 n v1 v2 v3 M) else (bnp (mX11_allOf n v1 M) fun r6 => (if v2 ≤ r6 then (mX11_when_c70 n v1 v2 v3 M) else (bnd (mX11_pass n (1 : Int32) M) fun r7 M8 => (if r7 = (1 : Int32) then (if (1 : Int32) = 0 then ((mX11_when_c21 n f) v1 v2 v3 (1 : Int32) M8) else ((mX11_when_c21 n f) v1 v2 (v3 + (1 : Int32)) (1 : Int32) M8)) else (if (0 : Int32) = 0 then ((mX11_when_c21 n f) v1 v2 v3 (0 : Int32) M8) else ((mX11_when_c21 n f) v1 v2 (v3 + (1 : Int32)) (0 : Int32) M8))))))))
def mX11_when (n : Nat) (a : Int32) (b : Int32) (M : Mem) : Option (Int32 × Mem) := (bnp (mX11_isBegun a M) fun r9 => (if r9 = 0 then (some ((-1 : Int32), M)) else (bnp (mX11_copies n (0 : Int32) (2 : Int32) M) fun M12 => (mX11_when_c21 n n a b (0 : Int32) (1 : Int32) M12))))
def mX11_keep (n : Nat) (M : Mem) : Option (Int32 × Mem) := (bnp (mX11_copies n (0 : Int32) (1 : Int32) (upd2 M 207 2 (1 : Int32))) fun M2 => (chk (1 : Int32) 12750 (some ((M2 209 (Int32.toNatClampNeg (1 : Int32))), M2))))
def mX11_undo (n : Nat) (M : Mem) : Option (Int32 × Mem) := (if (M 207 2) = 0 then (some ((0 : Int32), M)) else (bnp (mX11_copies n (1 : Int32) (0 : Int32) M) fun M2 => (some ((1 : Int32), M2))))
def mX11_check_c28 (n : Nat) : Nat → Int32 → Int32 → Mem → Option (Int32 × Mem)
  | 0, _, _, _ => none
  | f + 1, v2, v3, M => (if v3 < 0 then (some (v2, (upd2 M 207 4 (0 : Int32)))) else (chk (1 : Int32) 12750 (if (M 209 (Int32.toNatClampNeg (1 : Int32))) ≤ v3 then ((mX11_check_c28 n f) v3 (v3 + (-1 : Int32)) M) else (chk v3 400 (bnp (mX11_entryOf v3 (7 : Int32) M) fun r1 => (if ((M 210 (Int32.toNatClampNeg v3)) &&& (255 : Int32)) = (r1 &&& (255 : Int32)) then ((mX11_check_c28 n f) v2 (v3 + (-1 : Int32)) M) else ((mX11_check_c28 n f) v3 (v3 + (-1 : Int32)) M)))))))
def mX11_check (n : Nat) (a : Int32) (M : Mem) : Option (Int32 × Mem) := (bnp (mX11_in a (0 : Int32) (400 : Int32)) fun r2 => (if r2 = 0 then (some ((-2 : Int32), M)) else (if a ≤ (M 207 4) then (mX11_check_c28 n n (-1 : Int32) (a - (1 : Int32)) M) else (some ((-2 : Int32), M)))))
def mX11_count (a : Int32) (M : Mem) : Option Int32 := (if a = 0 then (chk (1 : Int32) 12750 (some (M 209 (Int32.toNatClampNeg (1 : Int32))))) else (if a = (1 : Int32) then (chk (0 : Int32) 12750 (some (M 209 (Int32.toNatClampNeg (0 : Int32))))) else (if a = (2 : Int32) then (some (M 207 4)) else (if a = (3 : Int32) then (chk (4 : Int32) 12750 (some (M 209 (Int32.toNatClampNeg (4 : Int32))))) else (some (-1 : Int32))))))
end
section
/-! the pure part: numbers -/
theorem nI_lit (k : Nat) : (@OfNat.ofNat Int32 k Int32.instOfNat) = nI (@OfNat.ofNat Nat k (instOfNatNat k)) := Int32.toBitVec_inj.mp rfl
theorem nI_t0 {n : Nat} (h : n < 2 ^ 31) : (nI n < 0) = False := eq_false (nI_pos h)
theorem nI_lt0 {n : Nat} (h : n < 2 ^ 31) : (nI n < nI 0) = False := eq_false (nI_pos h)
theorem nI_0le {n : Nat} (h : n < 2 ^ 31) : (nI 0 ≤ nI n) = True := eq_true (nI_pos' h)
theorem nI_le0 {n : Nat} (h : n < 2 ^ 31) : (0 ≤ nI n) = True := eq_true (nI_pos' h)
theorem nI_e0 {n : Nat} (h : n < 2 ^ 31) : (nI n = nI 0) = (n = 0) := by rw [nI_eq h (by omega)]
theorem chk_n {α : Type} {i n : Nat} {x : Option α} (h : i < n) (hn : n < 2 ^ 31) : chk (nI i) n x = x := chk_in (vp_in_nI h hn)
theorem dvi_n {α : Type} {i : Nat} {x : Option α} (h : 0 < i) (hn : i < 2 ^ 31) : dvi (nI i) x = x := if_neg (nI_ne0 h hn)
theorem bnp_some {α β : Type} (r : β) (f : β → Option α) : bnp (some r) f = f r := rfl
theorem bnd_some {α : Type} (r : Int32) (M : Mem) (f : Int32 → Mem → Option α) : bnd (some (r, M)) f = f r M := rfl
theorem lt_eq {α : Type} (M : Mem) (f : Mem → Option α) : lt M f = f M := rfl
theorem u2s (M : Mem) (o k : Nat) (v : Int32) : upd2 M o k v o k = v := by simp [upd2]
theorem u2k (M : Mem) {o k k' : Nat} (v : Int32) (h : k' ≠ k) : upd2 M o k v o k' = M o k' := by simp [upd2, h]
theorem u2o (M : Mem) {o k o' k' : Nat} (v : Int32) (h : o' ≠ o) : upd2 M o k v o' k' = M o' k' := by simp [upd2, h]
theorem upd_s (f : Nat → Int32) (k : Nat) (v : Int32) : upd f k v k = v := by simp [upd]
theorem upd_n (f : Nat → Int32) {k j : Nat} (v : Int32) (h : j ≠ k) : upd f k v j = f j := by simp [upd, h]
/-- any number by its whole value -/
def iI (z : Int) : Int32 := Int32.ofInt z
theorem iI_n (n : Nat) : nI n = iI (n : Int) := rfl
theorem iI_toInt {z : Int} (h1 : -2147483648 ≤ z) (h2 : z < 2147483648) : (iI z).toInt = z := Int32.toInt_ofInt_of_le (by omega) (by omega)
theorem iI_add (a b : Int) : iI a + iI b = iI (a + b) := (Int32.ofInt_add a b).symm
theorem iI_sub (a b : Int) : iI a - iI b = iI (a - b) := (Int32.ofInt_sub a b).symm
theorem iI_mul (a b : Int) : iI a * iI b = iI (a * b) := (Int32.ofInt_mul a b).symm
theorem iI_neg (a : Int) : -iI a = iI (-a) := (Int32.ofInt_neg a).symm
theorem iI_le {a b : Int} (h1 : -2147483648 ≤ a) (h2 : a < 2147483648) (h3 : -2147483648 ≤ b) (h4 : b < 2147483648) : (iI a ≤ iI b) = (a ≤ b) := by rw [Int32.le_iff_toInt_le, iI_toInt h1 h2, iI_toInt h3 h4]
theorem iI_lt {a b : Int} (h1 : -2147483648 ≤ a) (h2 : a < 2147483648) (h3 : -2147483648 ≤ b) (h4 : b < 2147483648) : (iI a < iI b) = (a < b) := by rw [Int32.lt_iff_toInt_lt, iI_toInt h1 h2, iI_toInt h3 h4]
theorem iI_eq {a b : Int} (h1 : -2147483648 ≤ a) (h2 : a < 2147483648) (h3 : -2147483648 ≤ b) (h4 : b < 2147483648) : (iI a = iI b) = (a = b) := by
  apply propext
  constructor
  · intro h
    have := congrArg Int32.toInt h
    rwa [iI_toInt h1 h2, iI_toInt h3 h4] at this
  · intro h; rw [h]
theorem iI_of (x : Int32) : x = iI x.toInt := (Int32.ofInt_toInt x).symm
theorem nI_toIntE {n : Nat} (h : n < 2 ^ 31) : (nI n).toInt = (n : Int) := nI_toInt h
theorem of_range {x : Int32} {N : Nat} (h1 : 0 ≤ x) (h2 : x ≤ nI N) (hN : N < 2 ^ 31) : ∃ j, j ≤ N ∧ x = nI j := by
  have a := Int32.le_iff_toInt_le.mp h1
  have b := Int32.le_iff_toInt_le.mp h2
  rw [nI_toInt hN] at b
  rw [Int32.toInt_zero] at a
  refine ⟨x.toInt.toNat, by omega, ?_⟩
  rw [iI_n, Int.toNat_of_nonneg a]
  exact iI_of x
/-- sums over a row -/
def sumR (g : Nat → Int32) : Nat → Nat → Int32
  | _, 0 => 0
  | i, d + 1 => g i + sumR g (i + 1) d
theorem sumR_congr {g h : Nat → Int32} : ∀ (d i : Nat), (∀ j, i ≤ j → j < i + d → g j = h j) → sumR g i d = sumR h i d
  | 0, _, _ => rfl
  | d + 1, i, e => by
    unfold sumR
    rw [e i (Nat.le_refl _) (by omega), sumR_congr d (i + 1) (fun j h1 h2 => e j (by omega) (by omega))]
theorem sumR_last (g : Nat → Int32) : ∀ (d i : Nat), sumR g i (d + 1) = sumR g i d + g (i + d)
  | 0, i => by simp [sumR]
  | d + 1, i => by
    have h := sumR_last g d (i + 1)
    show g i + sumR g (i + 1) (d + 1) = (g i + sumR g (i + 1) d) + g (i + (d + 1))
    rw [h, Int32.add_assoc, show i + 1 + d = i + (d + 1) by omega]
end
section
/-! the pure part: the calendar -/
def msL : List Int := [-31, 0, 31, 60, 91, 121, 152, 182, 213, 244, 274, 305, 335, 366, 397, 425, 456, 486, 517, 547, 578, 609, 639, 670, 700, 731, 762, 790, 821, 851, 882, 912, 943, 974, 1004, 1035, 1065, 1096, 1127, 1155, 1186, 1216, 1247, 1277, 1308, 1339, 1369, 1400, 1430, 1461, 1492, 1521, 1552, 1582, 1613, 1643, 1674, 1705, 1735, 1766, 1796, 1827, 1858, 1886, 1917, 1947, 1978, 2008, 2039, 2070, 2100, 2131, 2161, 2192, 2223, 2251, 2282, 2312, 2343, 2373, 2404, 2435, 2465, 2496, 2526, 2557, 2588, 2616, 2647, 2677, 2708, 2738, 2769, 2800, 2830, 2861, 2891, 2922, 2953, 2982, 3013, 3043, 3074, 3104, 3135, 3166, 3196, 3227, 3257, 3288, 3319, 3347, 3378, 3408, 3439, 3469, 3500, 3531, 3561, 3592, 3622, 3653, 3684, 3712, 3743, 3773, 3804, 3834]
def ms (m : Nat) : Int := msL.getD m 0
theorem ms_stepB : ∀ m, m < 127 → (28 ≤ ms (m + 1) - ms m ∧ ms (m + 1) - ms m ≤ 31) := by decide +kernel
theorem ms_rngB : ∀ m, m < 128 → (-31 ≤ ms m ∧ ms m ≤ 4000 ∧ ms m ≤ 31 * (m : Int) - 31) := by decide +kernel
theorem ms_0 : ms 0 = -31 := by decide +kernel
theorem ms_1 : ms 1 = 0 := by decide +kernel
theorem ms_121 : ms 121 = 3653 := by decide +kernel
theorem ms_126 : 3653 < ms 126 := by decide +kernel
theorem ms_mono : ∀ (k m : Nat), m + k ≤ 127 → ms m ≤ ms (m + k)
  | 0, m, _ => Int.le_refl _
  | k + 1, m, h => by
    have h1 := ms_mono k m (by omega)
    have h2 := ms_stepB (m + k) (by omega)
    rw [show m + (k + 1) = m + k + 1 by omega]
    omega
theorem ms_le {m m' : Nat} (h : m ≤ m') (h2 : m' ≤ 127) : ms m ≤ ms m' := by
  have := ms_mono (m' - m) m (by omega)
  rwa [show m + (m' - m) = m' by omega] at this
def moF (d : Nat) : Nat → Nat → Nat
  | 0, m => m
  | k + 1, m => if ms (m + 1) ≤ (d : Int) then moF d k (m + 1) else m
def mo (d : Nat) : Nat := moF d 126 0
theorem moF_spec (d : Nat) : ∀ (k m : Nat), ms m ≤ (d : Int) → (d : Int) < ms (m + k) → m ≤ moF d k m ∧ moF d k m < m + k ∧ ms (moF d k m) ≤ (d : Int) ∧ (d : Int) < ms (moF d k m + 1)
  | 0, m, h1, h2 => by simp at h2; omega
  | k + 1, m, h1, h2 => by
    unfold moF
    by_cases h : ms (m + 1) ≤ (d : Int)
    · rw [if_pos h]
      have := moF_spec d k (m + 1) h (by rw [show m + 1 + k = m + (k + 1) by omega]; exact h2)
      omega
    · rw [if_neg h]
      omega
theorem mo_spec {d : Nat} (h : d ≤ 3652) : ms (mo d) ≤ (d : Int) ∧ (d : Int) < ms (mo d + 1) ∧ 1 ≤ mo d ∧ mo d ≤ 120 := by
  have h0 := moF_spec d 126 0 (by rw [ms_0]; omega) (by have := ms_126; simp; omega)
  obtain ⟨a, b, c, e⟩ := h0
  have a' : 0 ≤ mo d := Nat.zero_le _
  have b' : mo d < 0 + 126 := b
  have c' : ms (mo d) ≤ (d : Int) := c
  have e' : (d : Int) < ms (mo d + 1) := e
  refine ⟨c', e', ?_, ?_⟩
  · rcases Nat.eq_zero_or_pos (mo d) with q | q
    · rw [q, Nat.zero_add, ms_1] at e'; omega
    · exact q
  · rcases Nat.lt_or_ge 120 (mo d) with q | q
    · have := ms_le (m := 121) (m' := mo d) q (by omega)
      rw [ms_121] at this
      omega
    · exact q
theorem mo_uniq {d m m' : Nat} (h1 : ms m ≤ (d : Int)) (h2 : (d : Int) < ms (m + 1)) (h3 : ms m' ≤ (d : Int)) (h4 : (d : Int) < ms (m' + 1)) (hm : m ≤ 126) (hm' : m' ≤ 126) : m = m' := by
  rcases Nat.lt_trichotomy m m' with q | q | q
  · have := ms_le (m := m + 1) (m' := m') q (by omega)
    omega
  · exact q
  · have := ms_le (m := m' + 1) (m' := m) q (by omega)
    omega
/-- the TURN of month m by an anchor -/
def tn (a m : Nat) : Int := ms m + (if ms (m + 1) - ms m < (a : Int) then ms (m + 1) - ms m else (a : Int)) - 1
theorem tn_bd {a m : Nat} (ha : 1 ≤ a) (hm : m ≤ 126) : ms m ≤ tn a m ∧ tn a m < ms (m + 1) := by
  have := ms_stepB m (by omega)
  unfold tn
  split <;> omega
theorem tn_lt {a m m' : Nat} (ha : 1 ≤ a) (h : m < m') (hm : m' ≤ 126) : tn a m < tn a m' := by
  have h1 := tn_bd (a := a) (m := m) ha (by omega)
  have h2 := tn_bd (a := a) (m := m') ha hm
  have := ms_le (m := m + 1) (m' := m') h (by omega)
  omega
/-- the number of the month of the last TURN -/
def tk (a d : Nat) : Nat := if tn a (mo d) ≤ (d : Int) then mo d else mo d - 1
theorem tk_spec {a d : Nat} (ha : 1 ≤ a) (h : d ≤ 3652) : tn a (tk a d) ≤ (d : Int) ∧ (d : Int) < tn a (tk a d + 1) ∧ tk a d ≤ 120 := by
  obtain ⟨h1, h2, h3, h4⟩ := mo_spec h
  unfold tk
  by_cases q : tn a (mo d) ≤ (d : Int)
  · rw [if_pos q]
    have := tn_bd (a := a) (m := mo d + 1) ha (by omega)
    omega
  · rw [if_neg q]
    have := tn_bd (a := a) (m := mo d - 1) ha (by omega)
    rw [show mo d - 1 + 1 = mo d by omega] at this ⊢
    omega
theorem tk_uniq {a d k : Nat} (ha : 1 ≤ a) (h : d ≤ 3652) (h1 : tn a k ≤ (d : Int)) (h2 : (d : Int) < tn a (k + 1)) (hk : k ≤ 125) : tk a d = k := by
  obtain ⟨g1, g2, g3⟩ := tk_spec ha h
  rcases Nat.lt_trichotomy (tk a d) k with q | q | q
  · rcases Nat.lt_or_ge (tk a d + 1) k with r | r
    · have := tn_lt (a := a) ha r (by omega); omega
    · rw [show tk a d + 1 = k by omega] at g2; omega
  · exact q
  · rcases Nat.lt_or_ge (k + 1) (tk a d) with r | r
    · have := tn_lt (a := a) ha r (by omega); omega
    · rw [show k + 1 = tk a d by omega] at h2; omega
def LT (a d : Nat) : Int := tn a (tk a d)
def NT (a d : Nat) : Int := tn a (tk a d + 1)
theorem LT_NT {a d : Nat} (ha : 1 ≤ a) (h : d ≤ 3652) : LT a d ≤ (d : Int) ∧ (d : Int) < NT a d ∧ -31 ≤ LT a d ∧ NT a d ≤ 4000 ∧ NT a d - LT a d ≤ 62 := by
  obtain ⟨g1, g2, g3⟩ := tk_spec ha h
  have b1 := tn_bd (a := a) (m := tk a d) ha (by omega)
  have b2 := tn_bd (a := a) (m := tk a d + 1) ha (by omega)
  have r1 := ms_rngB (tk a d) (by omega)
  have r2 := ms_rngB (tk a d + 1 + 1) (by omega)
  have s1 := ms_stepB (tk a d) (by omega)
  have s2 := ms_stepB (tk a d + 1) (by omega)
  unfold LT NT
  refine ⟨g1, g2, ?_, ?_, ?_⟩ <;> omega
theorem span_same {a d d' : Nat} (ha : 1 ≤ a) (h : d ≤ 3652) (h' : d' ≤ 3652) (h1 : LT a d ≤ (d' : Int)) (h2 : (d' : Int) < NT a d) : LT a d' = LT a d ∧ NT a d' = NT a d := by
  have g := tk_spec ha h
  have e := tk_uniq (k := tk a d) ha h' h1 h2 (by omega)
  unfold LT NT
  rw [e]
  exact ⟨rfl, rfl⟩
/-- a NEXT TURN of at most 31 days: a span's length -/
theorem NT_LT {a d : Nat} (ha : 1 ≤ a) (ha2 : a ≤ 31) (h : d ≤ 3652) : NT a d - LT a d ≤ 31 := by
  obtain ⟨g1, g2, g3⟩ := tk_spec ha h
  have s1 := ms_stepB (tk a d) (by omega)
  have s2 := ms_stepB (tk a d + 1) (by omega)
  unfold LT NT tn
  split <;> split <;> omega
abbrev CalC (M : Mem) : Prop := ∀ m, m < 123 → M 3 m = iI (ms m)
abbrev CalM (M : Mem) : Prop := ∀ m, m < 127 → M 208 m = iI (ms m)
end
section
/-! the methods of days, of both sides -/
theorem nI_iI_lt {d : Nat} {z : Int} (h : d < 2 ^ 31) (h1 : -2147483648 ≤ z) (h2 : z < 2147483648) : (nI d < iI z) = ((d : Int) < z) := by rw [iI_n, iI_lt (by omega) (by omega) h1 h2]
theorem iI_nI_le {d : Nat} {z : Int} (h : d < 2 ^ 31) (h1 : -2147483648 ≤ z) (h2 : z < 2147483648) : (iI z ≤ nI d) = (z ≤ (d : Int)) := by rw [iI_n, iI_le h1 h2 (by omega) (by omega)]
theorem pk_div' {a d : Nat} (ha : a < 2 ^ 31) (h0 : 0 < d) (hd : d < 2 ^ 31) : nI a / nI d = nI (a / d) := pk_div ha h0 hd
theorem pk_rem' {a d : Nat} (ha : a < 2 ^ 31) (h0 : 0 < d) (hd : d < 2 ^ 31) : nI a - nI (a / d) * nI d = nI (a % d) := by rw [← pk_div ha h0 hd]; exact pk_rem ha h0 hd
theorem cal_c11 {M : Mem} (hC : CalC M) {d n : Nat} (hd : d ≤ 3652) : ∀ (k f m : Nat), m + k = mo d → k < f → mX3_monthWith_c11 n f (nI d) (nI m) M = some (nI (mo d))
  | k, 0, m, _, h => absurd h (Nat.not_lt_zero _)
  | 0, f + 1, m, e, h => by
    obtain ⟨h1, h2, h3, h4⟩ := mo_spec hd
    have em : m = mo d := by omega
    subst em
    have hr := ms_rngB (mo d + 1) (by omega)
    unfold mX3_monthWith_c11
    simp (disch := omega) only [nI_lit, nI_add, pk_mul, nI_clamp, nI_leI, nI_ltI, nI_eq, nI_t0, nI_le0, nI_e0, nI_0le, nI_lt0, chk_n, hC, nI_iI_lt]
    rw [if_neg (by omega), if_pos h2, if_neg (by omega)]
  | k + 1, f + 1, m, e, h => by
    obtain ⟨h1, h2, h3, h4⟩ := mo_spec hd
    have hr := ms_rngB (m + 1) (by omega)
    have hl := ms_le (m := m + 1) (m' := mo d) (by omega) (by omega)
    have ih := cal_c11 hC hd (n := n) k f (m + 1) (by omega) (by omega)
    unfold mX3_monthWith_c11
    simp (disch := omega) only [nI_lit, nI_add, pk_mul, nI_clamp, nI_leI, nI_ltI, nI_eq, nI_t0, nI_le0, nI_e0, nI_0le, nI_lt0, chk_n, hC, nI_iI_lt]
    rw [if_neg (by omega), if_neg (by omega)]
    exact ih
theorem cal_mw {M : Mem} (hC : CalC M) {d n : Nat} (hd : d ≤ 3652) (hn : 200 ≤ n) : mX3_monthWith n (nI d) M = some (nI (mo d)) := by
  obtain ⟨h1, h2, h3, h4⟩ := mo_spec hd
  unfold mX3_monthWith
  simp (disch := omega) only [nI_lit, nI_add, pk_mul, nI_clamp, nI_leI, nI_ltI, nI_eq, nI_t0, nI_le0, nI_e0, nI_0le, nI_lt0, pk_div']
  rw [if_pos (by omega)]
  have hge : d / 31 + 1 ≤ mo d := by
    rcases Nat.lt_or_ge (mo d) (d / 31 + 1) with q | q
    · have := ms_rngB (mo d + 1) (by omega)
      omega
    · exact q
  exact cal_c11 hC hd (mo d - (d / 31 + 1)) n (d / 31 + 1) (by omega) (by omega)
theorem cal_m2 {M : Mem} (hC : CalM M) {d n : Nat} (hd : d ≤ 3652) : ∀ (k f m : Nat), m + k = mo d → k < f → mX11_monthOf_c2 n f (nI d) (nI m) M = some (nI (mo d))
  | k, 0, m, _, h => absurd h (Nat.not_lt_zero _)
  | 0, f + 1, m, e, h => by
    obtain ⟨h1, h2, h3, h4⟩ := mo_spec hd
    have em : m = mo d := by omega
    subst em
    have hr := ms_rngB (mo d + 1) (by omega)
    unfold mX11_monthOf_c2
    simp (disch := omega) only [nI_lit, nI_add, pk_mul, nI_clamp, nI_leI, nI_ltI, nI_eq, nI_t0, nI_le0, nI_e0, nI_0le, nI_lt0, chk_n, hC, nI_iI_lt]
    rw [if_pos h2]
  | k + 1, f + 1, m, e, h => by
    obtain ⟨h1, h2, h3, h4⟩ := mo_spec hd
    have hr := ms_rngB (m + 1) (by omega)
    have hl := ms_le (m := m + 1) (m' := mo d) (by omega) (by omega)
    have ih := cal_m2 hC hd (n := n) k f (m + 1) (by omega) (by omega)
    unfold mX11_monthOf_c2
    simp (disch := omega) only [nI_lit, nI_add, pk_mul, nI_clamp, nI_leI, nI_ltI, nI_eq, nI_t0, nI_le0, nI_e0, nI_0le, nI_lt0, chk_n, hC, nI_iI_lt]
    rw [if_neg (by omega)]
    exact ih
theorem cal_mo {M : Mem} (hC : CalM M) {d n : Nat} (hd : d ≤ 3652) (hn : 200 ≤ n) : mX11_monthOf n (nI d) M = some (nI (mo d)) := by
  obtain ⟨h1, h2, h3, h4⟩ := mo_spec hd
  unfold mX11_monthOf
  simp (disch := omega) only [nI_lit, nI_add, pk_mul, nI_clamp, nI_leI, nI_ltI, nI_eq, nI_t0, nI_le0, nI_e0, nI_0le, nI_lt0]
  exact cal_m2 hC hd (mo d) n 0 (by omega) (by omega)
theorem iI_ite {c : Prop} {inst : Decidable c} (a b : Int) : (if c then iI a else iI b) = iI (if c then a else b) := by split <;> rfl
theorem cal_tn {M : Mem} (hC : CalC M) {a m : Nat} (ha : a ≤ 31) (hm : m + 1 < 123) : mX3_turnIn (nI a) (nI m) M = some (iI (tn a m)) := by
  have h1 := ms_rngB m (by omega)
  have h2 := ms_rngB (m + 1) (by omega)
  have e : (0 : Int32) = nI 0 := rfl
  unfold mX3_turnIn
  simp (disch := omega) only [nI_lit, nI_add, pk_mul, nI_clamp, nI_leI, nI_ltI, nI_eq, nI_t0, nI_le0, nI_e0, nI_0le, nI_lt0, chk_n, hC, if_false, if_true]
  rw [if_pos hm]
  simp (disch := omega) only [iI_n, iI_sub, iI_lt, iI_ite, iI_add]
  rfl
theorem cal_tm {M : Mem} (hC : CalM M) {a m : Nat} (ha : a ≤ 31) (hm : m + 1 < 127) : mX11_turnIn (nI m) (nI a) M = some (iI (tn a m)) := by
  have h1 := ms_rngB m (by omega)
  have h2 := ms_rngB (m + 1) (by omega)
  unfold mX11_turnIn mX11_min
  simp (disch := omega) only [nI_lit, nI_add, pk_mul, nI_clamp, nI_leI, nI_ltI, nI_eq, nI_t0, nI_le0, nI_e0, nI_0le, nI_lt0, chk_n, hC]
  simp (disch := omega) only [iI_n, iI_sub, iI_le]
  by_cases q : ms (m + 1) - ms m ≤ (a : Int)
  · rw [if_pos q]
    simp only [bnp_some, iI_add, iI_sub]
    unfold tn
    congr 2
    split <;> omega
  · rw [if_neg q]
    simp only [bnp_some, iI_add, iI_sub]
    unfold tn
    congr 2
    split <;> omega
theorem tn_rng {a m : Nat} (ha : 1 ≤ a) (hm : m ≤ 126) : -31 ≤ tn a m ∧ tn a m < 4000 := by
  have b := tn_bd (a := a) (m := m) ha hm
  have h1 := ms_rngB m (by omega)
  have h2 := ms_rngB (m + 1) (by omega)
  omega
theorem cal_lt {M : Mem} (hC : CalC M) {a d n : Nat} (ha1 : 1 ≤ a) (ha : a ≤ 31) (hd : d ≤ 3652) (hn : 200 ≤ n) : mX3_lastTurn n (nI a) (nI d) M = some (iI (LT a d)) := by
  obtain ⟨h1, h2, h3, h4⟩ := mo_spec hd
  have hr := tn_rng (a := a) (m := mo d) ha1 (by omega)
  have e1 : nI (mo d) - nI 1 = nI (mo d - 1) := pk_sub h3
  unfold mX3_lastTurn LT tk
  rw [cal_mw hC hd hn]
  simp only [bnp_some]
  rw [cal_tn hC ha (by omega)]
  simp only [bnp_some, nI_lit, e1]
  simp (disch := omega) only [nI_iI_lt]
  by_cases q : tn a (mo d) ≤ (d : Int)
  · rw [if_neg (by omega), if_pos q]
  · rw [if_pos (by omega), if_neg q, cal_tn hC ha (by omega)]; rfl
theorem cal_nt {M : Mem} (hC : CalC M) {a d n : Nat} (ha1 : 1 ≤ a) (ha : a ≤ 31) (hd : d ≤ 3652) (hn : 200 ≤ n) : mX3_nextTurn n (nI a) (nI d) M = some (iI (NT a d)) := by
  obtain ⟨h1, h2, h3, h4⟩ := mo_spec hd
  have hr := tn_rng (a := a) (m := mo d) ha1 (by omega)
  unfold mX3_nextTurn NT tk
  rw [cal_mw hC hd hn]
  simp only [bnp_some]
  rw [cal_tn hC ha (by omega)]
  simp only [bnp_some, nI_lit, nI_add]
  simp (disch := omega) only [iI_nI_le]
  by_cases q : tn a (mo d) ≤ (d : Int)
  · rw [if_pos q, if_pos q, cal_tn hC ha (by omega)]; rfl
  · rw [if_neg q, if_neg q, show mo d - 1 + 1 = mo d by omega]
theorem mod_lt {M : Mem} (hC : CalM M) {a d n : Nat} (ha1 : 1 ≤ a) (ha : a ≤ 31) (hd : d ≤ 3652) (hn : 200 ≤ n) : mX11_lastTurn n (nI a) (nI d) M = some (iI (LT a d)) := by
  obtain ⟨h1, h2, h3, h4⟩ := mo_spec hd
  have hr := tn_rng (a := a) (m := mo d) ha1 (by omega)
  have e1 : nI (mo d) - nI 1 = nI (mo d - 1) := pk_sub h3
  unfold mX11_lastTurn LT tk
  rw [cal_mo hC hd hn]
  simp only [bnp_some]
  rw [cal_tm hC ha (by omega)]
  simp only [bnp_some, nI_lit, e1]
  simp (disch := omega) only [nI_iI_lt]
  by_cases q : tn a (mo d) ≤ (d : Int)
  · rw [if_neg (by omega), if_pos q]
  · rw [if_pos (by omega), if_neg q, cal_tm hC ha (by omega)]; rfl
theorem mod_nt {M : Mem} (hC : CalM M) {a d n : Nat} (ha1 : 1 ≤ a) (ha : a ≤ 31) (hd : d ≤ 3652) (hn : 200 ≤ n) : mX11_nextTurn n (nI a) (nI d) M = some (iI (NT a d)) := by
  obtain ⟨h1, h2, h3, h4⟩ := mo_spec hd
  have hr := tn_rng (a := a) (m := mo d) ha1 (by omega)
  unfold mX11_nextTurn NT tk
  rw [cal_mo hC hd hn]
  simp only [bnp_some]
  rw [cal_tm hC ha (by omega)]
  simp only [bnp_some, nI_lit, nI_add]
  simp (disch := omega) only [iI_nI_le]
  by_cases q : tn a (mo d) ≤ (d : Int)
  · rw [if_pos q, if_pos q, cal_tm hC ha (by omega)]; rfl
  · rw [if_neg q, if_neg q, show mo d - 1 + 1 = mo d by omega]
/-- the checks: both sides say the same -/
theorem rng_c (a l h h1 : Int32) (L H : Nat) (el : l = nI L) (eh : h = nI H) (eh1 : h1 = nI (H + 1)) (hL : L ≤ H) (hH : H < 2147483647) : (∃ k, L ≤ k ∧ k ≤ H ∧ a = nI k ∧ ¬ a < l ∧ ¬ h < a ∧ ¬ h1 ≤ a) ∨ a < l ∨ (¬ a < l ∧ h < a ∧ h1 ≤ a) := by
  subst el; subst eh; subst eh1
  rcases Int.lt_or_le a.toInt L with q | q
  · exact Or.inr (Or.inl (by rw [Int32.lt_iff_toInt_lt, nI_toInt (by omega)]; exact q))
  · have hnl : ¬ a < nI L := by rw [Int32.lt_iff_toInt_lt, nI_toInt (by omega)]; omega
    rcases Int.lt_or_le (H : Int) a.toInt with q2 | q2
    · exact Or.inr (Or.inr ⟨hnl, by rw [Int32.lt_iff_toInt_lt, nI_toInt (by omega)]; exact q2, by rw [Int32.le_iff_toInt_le, nI_toInt (by omega)]; omega⟩)
    · have e : a = nI a.toInt.toNat := by rw [iI_n, Int.toNat_of_nonneg (by omega)]; exact iI_of a
      refine Or.inl ⟨a.toInt.toNat, by omega, by omega, e, hnl, ?_, ?_⟩
      · rw [Int32.lt_iff_toInt_lt, nI_toInt (by omega)]; omega
      · rw [Int32.le_iff_toInt_le, nI_toInt (by omega)]; omega
theorem isAnchor_c (a : Int32) : (∃ k, 1 ≤ k ∧ k ≤ 31 ∧ a = nI k ∧ mX10_isAnchor a = some 1 ∧ mX11_isAnchor a = some 1) ∨ (mX10_isAnchor a = some 0 ∧ mX11_isAnchor a = some 0) := by
  unfold mX10_isAnchor mX11_isAnchor mX11_in
  rcases rng_c a 1 31 32 1 31 rfl rfl rfl (by decide) (by decide) with ⟨k, h1, h2, e, h3, h4, h5⟩ | h | ⟨h1, h2, h3⟩
  · refine Or.inl ⟨k, h1, h2, e, ?_, ?_⟩
    · rw [if_neg h3]; first | rw [if_neg h4] | rw [if_neg h5]
    · rw [if_neg h3, if_neg h4]; try rfl
  · refine Or.inr ⟨?_, ?_⟩
    · rw [if_pos h]
    · rw [if_pos h]; try rfl
  · refine Or.inr ⟨?_, ?_⟩
    · rw [if_neg h1]; first | rw [if_pos h2] | rw [if_pos h3]
    · rw [if_neg h1, if_pos h2]; try rfl
theorem isAccount_c (a : Int32) : (∃ k, 0 ≤ k ∧ k ≤ 5 ∧ a = nI k ∧ mX10_isAccount a = some 1 ∧ mX11_isNumber a = some 1) ∨ (mX10_isAccount a = some 0 ∧ mX11_isNumber a = some 0) := by
  unfold mX10_isAccount mX11_isNumber mX11_in
  rcases rng_c a 0 5 6 0 5 rfl rfl rfl (by decide) (by decide) with ⟨k, h1, h2, e, h3, h4, h5⟩ | h | ⟨h1, h2, h3⟩
  · refine Or.inl ⟨k, h1, h2, e, ?_, ?_⟩
    · rw [if_neg h3]; first | rw [if_neg h4] | rw [if_neg h5]
    · rw [if_neg h3, if_neg h4]; try rfl
  · refine Or.inr ⟨?_, ?_⟩
    · rw [if_pos h]
    · rw [if_pos h]; try rfl
  · refine Or.inr ⟨?_, ?_⟩
    · rw [if_neg h1]; first | rw [if_pos h2] | rw [if_pos h3]
    · rw [if_neg h1, if_pos h2]; try rfl
theorem isPlan_c (a : Int32) : (∃ k, 0 ≤ k ∧ k ≤ 5 ∧ a = nI k ∧ mX10_isPlan a = some 1 ∧ mX11_isPlan a = some 1) ∨ (mX10_isPlan a = some 0 ∧ mX11_isPlan a = some 0) := by
  unfold mX10_isPlan mX11_isPlan mX11_in
  rcases rng_c a 0 5 6 0 5 rfl rfl rfl (by decide) (by decide) with ⟨k, h1, h2, e, h3, h4, h5⟩ | h | ⟨h1, h2, h3⟩
  · refine Or.inl ⟨k, h1, h2, e, ?_, ?_⟩
    · rw [if_neg h3]; first | rw [if_neg h4] | rw [if_neg h5]
    · rw [if_neg h3, if_neg h4]; try rfl
  · refine Or.inr ⟨?_, ?_⟩
    · rw [if_pos h]
    · rw [if_pos h]; try rfl
  · refine Or.inr ⟨?_, ?_⟩
    · rw [if_neg h1]; first | rw [if_pos h2] | rw [if_pos h3]
    · rw [if_neg h1, if_pos h2]; try rfl
theorem isDay_c (a : Int32) : (∃ k, 0 ≤ k ∧ k ≤ 3652 ∧ a = nI k ∧ mX10_isDay a = some 1 ∧ mX11_isDay a = some 1) ∨ (mX10_isDay a = some 0 ∧ mX11_isDay a = some 0) := by
  unfold mX10_isDay mX11_isDay mX11_in
  rcases rng_c a 0 3652 3653 0 3652 rfl rfl rfl (by decide) (by decide) with ⟨k, h1, h2, e, h3, h4, h5⟩ | h | ⟨h1, h2, h3⟩
  · refine Or.inl ⟨k, h1, h2, e, ?_, ?_⟩
    · rw [if_neg h3]; first | rw [if_neg h4] | rw [if_neg h5]
    · rw [if_neg h3, if_neg h4]; try rfl
  · refine Or.inr ⟨?_, ?_⟩
    · rw [if_pos h]
    · rw [if_pos h]; try rfl
  · refine Or.inr ⟨?_, ?_⟩
    · rw [if_neg h1]; first | rw [if_pos h2] | rw [if_pos h3]
    · rw [if_neg h1, if_pos h2]; try rfl
theorem areUnits_c (a : Int32) : (∃ k, 0 ≤ k ∧ k ≤ 9999 ∧ a = nI k ∧ mX10_areUnits a = some 1 ∧ mX11_in a (0 : Int32) (9999 : Int32) = some 1) ∨ (mX10_areUnits a = some 0 ∧ mX11_in a (0 : Int32) (9999 : Int32) = some 0) := by
  unfold mX10_areUnits mX11_in 
  rcases rng_c a 0 9999 10000 0 9999 rfl rfl rfl (by decide) (by decide) with ⟨k, h1, h2, e, h3, h4, h5⟩ | h | ⟨h1, h2, h3⟩
  · refine Or.inl ⟨k, h1, h2, e, ?_, ?_⟩
    · rw [if_neg h3]; first | rw [if_neg h4] | rw [if_neg h5]
    · rw [if_neg h3, if_neg h4]; try rfl
  · refine Or.inr ⟨?_, ?_⟩
    · rw [if_pos h]
    · rw [if_pos h]; try rfl
  · refine Or.inr ⟨?_, ?_⟩
    · rw [if_neg h1]; first | rw [if_pos h2] | rw [if_pos h3]
    · rw [if_neg h1, if_pos h2]; try rfl
theorem in_c (a l h h1 : Int32) (L H : Nat) (el : l = nI L) (eh : h = nI H) (eh1 : h1 = nI (H + 1)) (hL : L ≤ H) (hH : H < 2147483647) : (∃ k, L ≤ k ∧ k ≤ H ∧ a = nI k ∧ ¬ a < l ∧ ¬ h < a ∧ ¬ h1 ≤ a ∧ mX11_in a l h = some 1) ∨ (mX11_in a l h = some 0 ∧ (a < l ∨ (¬ a < l ∧ h < a ∧ h1 ≤ a))) := by
  unfold mX11_in
  rcases rng_c a l h h1 L H el eh eh1 hL hH with ⟨k, h1, h2, e, h3, h4, h5⟩ | h | ⟨h1, h2, h3⟩
  · exact Or.inl ⟨k, h1, h2, e, h3, h4, h5, by rw [if_neg h3, if_neg h4]⟩
  · exact Or.inr ⟨by rw [if_pos h], Or.inl h⟩
  · exact Or.inr ⟨by rw [if_neg h1, if_pos h2], Or.inr ⟨h1, h2, h3⟩⟩
/-- promises 31 to 34, and their like -/
theorem q_span {M N : Mem} (hC : CalC M) (hM : CalM N) {n : Nat} (hn : 200 ≤ n) (a b c : Int32) : ∃ r, mX10_span n a b c M = some r ∧ mX11_span n a b c N = some r := by
  unfold mX10_span mX11_span
  rcases isAnchor_c a with ⟨k, k1, k2, rfl, e1, e2⟩ | ⟨e1, e2⟩
  · rcases isDay_c b with ⟨d, d1, d2, rfl, f1, f2⟩ | ⟨f1, f2⟩
    · simp only [e1, e2, f1, f2, bnp_some, cal_lt hC k1 k2 d2 hn, cal_nt hC k1 k2 d2 hn, mod_lt hM k1 k2 d2 hn, mod_nt hM k1 k2 d2 hn]
      rcases in_c c 0 2 3 0 2 rfl rfl rfl (by decide) (by decide) with ⟨w, w1, w2, rfl, w3, w4, w5, w6⟩ | ⟨w6, w3⟩
      · rw [w6]
        simp only [bnp_some]
        rcases (show w = 0 ∨ w = 1 ∨ w = 2 by omega) with rfl | rfl | rfl
        · have z : nI 0 = 0 := rfl
          by_cases q : (0 : Int32) ≤ iI (LT k d)
          · simp [z, q]
          · simp [z, q]
        · exact ⟨_, rfl, rfl⟩
        · exact ⟨_, rfl, rfl⟩
      · rw [w6]
        simp only [bnp_some]
        have c0 : ¬ c = 0 := by rintro rfl; revert w3; decide
        have c1 : ¬ c = 1 := by rintro rfl; revert w3; decide
        have c2 : ¬ c = 2 := by rintro rfl; revert w3; decide
        refine ⟨-1, ?_, ?_⟩
        · rw [if_neg (by decide), if_neg (by decide), if_neg c0, if_neg c1, if_neg c2]
        · rfl
    · simp [e1, e2, f1, f2, bnp_some]
  · simp [e1, e2, bnp_some]
end
section
/-! THE BOOK as it counts: a Tariff's cells against a row of numbers -/
abbrev na (x : Int32) : Nat := x.toNatClampNeg
def isN (x : Int32) (N : Nat) : Prop := x = nI (na x) ∧ na x ≤ N
theorem isN_of {k N : Nat} (h : k ≤ N) (hN : N < 2 ^ 31) : isN (nI k) N := by
  unfold isN na; rw [nI_clamp (by omega)]; exact ⟨rfl, h⟩
theorem bnp_ite {α β : Type} {c : Prop} {inst : Decidable c} (x y : β) (f : β → Option α) : bnp (if c then some x else some y) f = f (if c then x else y) := by split <;> rfl
theorem nI_subI (u v : Nat) : nI u - nI v = iI ((u : Int) - v) := by rw [iI_n, iI_n, iI_sub]
theorem subclamp {u v : Nat} (hu : u < 2 ^ 30) (hv : v < 2 ^ 30) : (if nI 0 < nI u - nI v then nI u - nI v else nI 0) = nI (u - v) := by
  have e := nI_subI u v
  have h : (nI 0 < nI u - nI v) = (0 < (u : Int) - v) := by rw [e, iI_n 0, iI_lt (by omega) (by omega) (by omega) (by omega)]; rfl
  by_cases q : 0 < (u : Int) - v
  · rw [if_pos (by rw [h]; exact q), pk_sub (by omega)]
  · rw [if_neg (by rw [h]; exact q), show u - v = 0 by omega]
theorem subclampM {u v : Nat} (hu : u < 2 ^ 30) (hv : v < 2 ^ 30) : (if nI 0 ≤ nI u - nI v then nI u - nI v else nI 0) = nI (u - v) := by
  have e := nI_subI u v
  have h : (nI 0 ≤ nI u - nI v) = (0 ≤ (u : Int) - v) := by rw [e, iI_n 0, iI_le (by omega) (by omega) (by omega) (by omega)]; rfl
  by_cases q : 0 ≤ (u : Int) - v
  · rw [if_pos (by rw [h]; exact q), pk_sub (by omega)]
  · rw [if_neg (by rw [h]; exact q), show u - v = 0 by omega]
theorem minN {u v : Nat} (hu : u < 2 ^ 31) (hv : v < 2 ^ 31) : (if nI u < nI v then nI u else nI v) = nI (min v u) := by
  by_cases q : u < v
  · rw [if_pos ((nI_ltI hu hv).mpr q), Nat.min_eq_right (by omega)]
  · rw [if_neg (fun h => q ((nI_ltI hu hv).mp h)), Nat.min_eq_left (by omega)]
theorem minM {u v : Nat} (hu : u < 2 ^ 31) (hv : v < 2 ^ 31) : (if nI v ≤ nI u then nI v else nI u) = nI (min u v) := by
  by_cases q : v ≤ u
  · rw [if_pos ((nI_leI hv hu).mpr q), Nat.min_eq_right (by omega)]
  · rw [if_neg (fun h => q ((nI_leI hv hu).mp h)), Nat.min_eq_left (by omega)]
theorem minM2 {u v : Nat} {inst : Decidable (v ≤ u)} : (@ite Int32 (v ≤ u) inst (nI v) (nI u)) = nI (min u v) := by
  split
  · rw [Nat.min_eq_right (by omega)]
  · rw [Nat.min_eq_left (by omega)]
def fP (f : Nat → Int32) (p w : Nat) : Int32 := f (20 + 24 * p + w)
def fA (f : Nat → Int32) (x w : Nat) : Int32 := f (170 + 12 * x + w)
def fE (f : Nat → Int32) (i w : Nat) : Int32 := f (250 + 10 * i + w)
def isM (x : Int32) (k N : Nat) : Prop := x = nI k ∧ k ≤ N
def pP (f : Nat → Int32) (p : Nat) : Nat := na (fP f p 0)
def pT (f : Nat → Int32) (p : Nat) : Nat := na (fP f p 2)
def pB (f : Nat → Int32) (p i : Nat) : Nat := na (fP f p (6 + i))
def pC (f : Nat → Int32) (p i : Nat) : Nat := na (fP f p (10 + i))
def pR (f : Nat → Int32) (p : Nat) : Nat := na (fP f p 3)
def pW (f : Nat → Int32) (p : Nat) : Nat := na (fP f p 4)
def pZ (f : Nat → Int32) (p : Nat) : Nat := na (fP f p 5)
def pF (f : Nat → Int32) (p : Nat) : Nat := na (fP f p 1)
def pK (f : Nat → Int32) (p : Nat) : Nat := na (fP f p 14)
def pS (f : Nat → Int32) (p i : Nat) : Nat := na (fP f p (15 + i))
def pO (f : Nat → Int32) (p i : Nat) : Nat := na (fP f p (18 + i))
def IP (f : Nat → Int32) (p : Nat) : Prop :=
  isM (fP f p 0) (pP f p) 99999 ∧ isM (fP f p 1) (pF f p) 9999 ∧ isM (fP f p 2) (pT f p) 4 ∧ isM (fP f p 3) (pR f p) 99 ∧ isM (fP f p 4) (pW f p) 1 ∧ isM (fP f p 5) (pZ f p) 100 ∧ isM (fP f p 14) (pK f p) 3 ∧
  (∀ i, i < 4 → isM (fP f p (6 + i)) (pB f p i) 9999 ∧ isM (fP f p (10 + i)) (pC f p i) 99) ∧ (∀ i, i < 3 → isM (fP f p (15 + i)) (pS f p i) 9 ∧ isM (fP f p (18 + i)) (pO f p i) 100) ∧
  (∀ i, i + 1 < pT f p → pB f p i < pB f p (i + 1)) ∧ (∀ i, i < pT f p → 1 ≤ pB f p i)
def nX (f : Nat → Int32) : Nat := na (f 6)
def IT (f : Nat → Int32) : Prop :=
  isN (f 2) 100 ∧ isN (f 3) 99 ∧ isN (f 5) 20 ∧ isM (f 6) (nX f) 4 ∧ (∀ i, i < 4 → isN (f (7 + i)) 3652 ∧ isN (f (11 + i)) 100) ∧ ∀ p, p < 6 → IP f p
/-- the cells of a PlanTerms (its number q) against plan p of the row -/
def RP (q p : Nat) (M : Mem) (f : Nat → Int32) : Prop :=
  M q 0 = fP f p 0 ∧ M q 1 = fP f p 1 ∧ M q 2 = fP f p 2 ∧ M q 5 = fP f p 3 ∧ M q 6 = fP f p 4 ∧ M q 7 = fP f p 5 ∧ M q 8 = fP f p 14 ∧
  (∀ i, i < pT f p → M (q + 1) i = fP f p (6 + i) ∧ M (q + 2) i = fP f p (10 + i)) ∧ (∀ i, i < pK f p → M (q + 3) i = fP f p (15 + i) ∧ M (q + 4) i = fP f p (18 + i))
def RT (t : Nat) (M : Mem) (f : Nat → Int32) : Prop :=
  M t 1 = f 2 ∧ M t 2 = f 3 ∧ M t 3 = f 5 ∧ M t 4 = f 6 ∧ (∀ i, i < nX f → M (t + 2) i = f (7 + i) ∧ M (t + 3) i = f (11 + i)) ∧ ∀ p, p < 6 → RP (t + 4 + 5 * p) p M f
theorem m_planOf {M : Mem} {p w : Nat} (hp : p < 6) (hw : w < 24) : mX11_planOf (nI p) (nI w) M = some (fP (M 209) p w) := by
  unfold mX11_planOf
  simp (disch := omega) only [nI_lit, nI_add, pk_mul, nI_clamp, nI_leI, nI_ltI, nI_eq, nI_t0, nI_le0, nI_e0, nI_0le, nI_lt0, chk_n]
  rfl
theorem m_of {M : Mem} {x w : Nat} (hx : x < 6) (hw : w < 12) : mX11_of (nI x) (nI w) M = some (fA (M 209) x w) := by
  unfold mX11_of
  simp (disch := omega) only [nI_lit, nI_add, pk_mul, nI_clamp, nI_leI, nI_ltI, nI_eq, nI_t0, nI_le0, nI_e0, nI_0le, nI_lt0, chk_n]
  rfl
theorem m_entryOf {M : Mem} {i w : Nat} (hi : i < 400) (hw : w < 10) : mX11_entryOf (nI i) (nI w) M = some (fE (M 209) i w) := by
  unfold mX11_entryOf
  simp (disch := omega) only [nI_lit, nI_add, pk_mul, nI_clamp, nI_leI, nI_ltI, nI_eq, nI_t0, nI_le0, nI_e0, nI_0le, nI_lt0, chk_n]
  rfl
theorem c_termsOf {t p : Nat} (hp : p < 6) : mX9_termsOf t (nI p) = some (t + 4 + 5 * p) := by
  unfold mX9_termsOf
  simp (disch := omega) only [nI_lit, nI_add, pk_mul, nI_clamp, nI_leI, nI_ltI, nI_eq, nI_t0, nI_le0, nI_e0, nI_0le, nI_lt0, chk_n, if_false]
  rw [if_neg (by omega), if_neg (by omega), show t + 1 + 3 + 5 * p = t + 4 + 5 * p by omega]
/-- USAGE, tier by tier -/
def usW (b c : Nat → Nat) (R v : Nat) : Nat → Nat → Nat
  | _, 0 => v * R
  | i, d + 1 => if v ≤ b i then v * c i else usW b c R v (i + 1) d
def usA (b c : Nat → Nat) (R v : Nat) : Nat → Nat → Nat → Nat
  | lo, _, 0 => (v - lo) * R
  | lo, i, d + 1 => (min v (b i) - lo) * c i + usA b c R v (b i) (i + 1) d
theorem usW_0 (b c : Nat → Nat) (R v i : Nat) : usW b c R v i 0 = v * R := rfl
theorem usW_s (b c : Nat → Nat) (R v i d : Nat) : usW b c R v i (d + 1) = if v ≤ b i then v * c i else usW b c R v (i + 1) d := rfl
theorem usA_0 (b c : Nat → Nat) (R v lo i : Nat) : usA b c R v lo i 0 = (v - lo) * R := rfl
theorem usA_s (b c : Nat → Nat) (R v lo i d : Nat) : usA b c R v lo i (d + 1) = (min v (b i) - lo) * c i + usA b c R v (b i) (i + 1) d := rfl
def US (f : Nat → Int32) (p u : Nat) : Nat := if fP f p 4 = nI 1 then usW (pB f p) (pC f p) (pR f p) (u - pF f p) 0 (pT f p) else usA (pB f p) (pC f p) (pR f p) (u - pF f p) 0 0 (pT f p)
theorem c_whole {M : Mem} {f : Nat → Int32} {q p n v : Nat} (hR : RP q p M f) (hI : IP f p) (hv : v < 2 ^ 30) : ∀ (d k i : Nat), i + d = pT f p → d < k → mX7_wholeUsage_c2 n k q (nI v) (nI i) M = some (nI (usW (pB f p) (pC f p) (pR f p) v i d))
  | d, 0, _, _, h => absurd h (Nat.not_lt_zero _)
  | 0, k + 1, i, e, h => by
    obtain ⟨r0, r1, r2, r3, r4, r5, r6, r7, r8⟩ := hR
    obtain ⟨i0, i1, i2, i3, i4, i5, i6, i7, i8, i9, i10⟩ := hI
    have h2 := i2.1; have h3 := i3.1; have h2' := i2.2
    unfold mX7_wholeUsage_c2
    rw [r2, h2, r3, h3]
    simp (disch := omega) only [nI_lit, nI_add, pk_mul, nI_clamp, nI_leI, nI_ltI, nI_eq, nI_t0, nI_le0, nI_e0, nI_0le, nI_lt0]
    rw [if_pos (by omega)]
    rfl
  | d + 1, k + 1, i, e, h => by
    have hR' := hR; have hI' := hI
    obtain ⟨r0, r1, r2, r3, r4, r5, r6, r7, r8⟩ := hR
    obtain ⟨i0, i1, i2, i3, i4, i5, i6, i7, i8, i9, i10⟩ := hI
    have h2 := i2.1; have h3 := i3.1; have h2' := i2.2
    have hb := (i7 i (by omega)).1; have hc := (i7 i (by omega)).2
    have hb1 := hb.1; have hb2 := hb.2; have hc1 := hc.1; have hc2 := hc.2
    have rb := (r7 i (by omega)).1; have rc := (r7 i (by omega)).2
    have ih := c_whole hR' hI' hv (n := n) d k (i + 1) (by omega) (by omega)
    unfold mX7_wholeUsage_c2
    rw [r2, h2]
    simp (disch := omega) only [nI_lit, nI_add, pk_mul, nI_clamp, nI_leI, nI_ltI, nI_eq, nI_t0, nI_le0, nI_e0, nI_0le, nI_lt0, chk_n, rb, rc]
    rw [hb1, hc1]
    simp (disch := omega) only [nI_lit, nI_add, pk_mul, nI_clamp, nI_leI, nI_ltI, nI_eq, nI_t0, nI_le0, nI_e0, nI_0le, nI_lt0]
    rw [if_neg (by omega), if_neg (by omega)]
    rw [usW_s]
    by_cases q : v ≤ pB f p i
    · rw [if_neg (by omega), if_pos q]
    · rw [if_pos (by omega), if_neg q]; exact ih
theorem c_added {M : Mem} {f : Nat → Int32} {q p n v : Nat} (hR : RP q p M f) (hI : IP f p) (hv : v < 2 ^ 30) : ∀ (d k i lo a : Nat), i + d = pT f p → d < k → (∀ j, j = i → j < pT f p → lo ≤ pB f p j) → mX7_addedUsage_c7 n k q (nI v) (nI a) (nI (min v lo)) (nI i) M = some (nI (a + usA (pB f p) (pC f p) (pR f p) v lo i d))
  | d, 0, _, _, _, _, h, _ => absurd h (Nat.not_lt_zero _)
  | 0, k + 1, i, lo, a, e, h, hlo => by
    obtain ⟨r0, r1, r2, r3, r4, r5, r6, r7, r8⟩ := hR
    obtain ⟨i0, i1, i2, i3, i4, i5, i6, i7, i8, i9, i10⟩ := hI
    have h2 := i2.1; have h3 := i3.1; have h2' := i2.2
    have e2 : nI v - nI (min v lo) = nI (v - lo) := by
      have e3 := pk_sub (a := v) (b := min v lo) (by omega)
      rw [e3, show v - min v lo = v - lo by omega]
    unfold mX7_addedUsage_c7
    rw [r2, h2, r3, h3, e2]
    simp (disch := omega) only [nI_lit, nI_add, pk_mul, nI_clamp, nI_leI, nI_ltI, nI_eq, nI_t0, nI_le0, nI_e0, nI_0le, nI_lt0]
    rw [if_pos (by omega)]
    rfl
  | d + 1, k + 1, i, lo, a, e, h, hlo => by
    have hR' := hR; have hI' := hI
    obtain ⟨r0, r1, r2, r3, r4, r5, r6, r7, r8⟩ := hR
    obtain ⟨i0, i1, i2, i3, i4, i5, i6, i7, i8, i9, i10⟩ := hI
    have h2 := i2.1; have h3 := i3.1; have h2' := i2.2
    have hb := (i7 i (by omega)).1; have hc := (i7 i (by omega)).2
    have hb1 := hb.1; have hb2 := hb.2; have hc1 := hc.1; have hc2 := hc.2
    have rb := (r7 i (by omega)).1; have rc := (r7 i (by omega)).2
    have hl := hlo i rfl (by omega)
    have ih := c_added hR' hI' hv (n := n) d k (i + 1) (pB f p i) (a + (min v (pB f p i) - lo) * pC f p i) (by omega) (by omega) (fun j ej hj => by subst ej; exact Nat.le_of_lt (i9 i hj))
    have e2 : nI (min v (pB f p i)) - nI (min v lo) = nI (min v (pB f p i) - lo) := by
      have e3 := pk_sub (a := min v (pB f p i)) (b := min v lo) (by omega)
      rw [e3, show min v (pB f p i) - min v lo = min v (pB f p i) - lo by omega]
    unfold mX7_addedUsage_c7
    rw [r2, h2]
    simp (disch := omega) only [nI_lit, nI_add, pk_mul, nI_clamp, nI_leI, nI_ltI, nI_eq, nI_t0, nI_le0, nI_e0, nI_0le, nI_lt0, chk_n, rb, rc]
    rw [hb1, hc1, if_neg (by omega), if_neg (by omega), minN (by omega) (by omega), e2]
    simp (disch := omega) only [nI_lit, nI_add, pk_mul, nI_clamp, nI_leI, nI_ltI, nI_eq, nI_t0, nI_le0, nI_e0, nI_0le, nI_lt0]
    rw [ih]
    rw [usA_s]
    rw [show a + (min v (pB f p i) - lo) * pC f p i + usA (pB f p) (pC f p) (pR f p) v (pB f p i) (i + 1) d = a + ((min v (pB f p i) - lo) * pC f p i + usA (pB f p) (pC f p) (pR f p) v (pB f p i) (i + 1) d) by omega]
theorem c_usage {M : Mem} {f : Nat → Int32} {q p n u : Nat} (hR : RP q p M f) (hI : IP f p) (hu : u ≤ 9999) (hn : 200 ≤ n) : mX7_usageOf n q (nI u) M = some (nI (US f p u)) := by
  have hR' := hR; have hI' := hI
  obtain ⟨r0, r1, r2, r3, r4, r5, r6, r7, r8⟩ := hR
  obtain ⟨i0, i1, i2, i3, i4, i5, i6, i7, i8, i9, i10⟩ := hI
  have h1 := i1.1; have h1' := i1.2; have h4 := i4.1; have h4' := i4.2; have h2' := i2.2
  have w := c_whole hR' hI' (v := u - pF f p) (by omega) (n := n) (pT f p) n 0 (by omega) (by omega)
  have a := c_added hR' hI' (v := u - pF f p) (by omega) (n := n) (pT f p) n 0 0 0 (by omega) (by omega) (fun _ _ _ => Nat.zero_le _)
  rw [Nat.min_zero, Nat.zero_add] at a
  unfold mX7_usageOf mX7_wholeUsage mX7_addedUsage US
  rw [r4, r1, h1]
  simp only [nI_lit]
  rw [subclamp (by omega) (by omega), w, a]
  simp only [bnp_some]
  rw [h4]
  rcases (show pW f p = 0 ∨ pW f p = 1 by omega) with q | q
  · rw [q, if_pos rfl, if_neg (by decide)]
  · rw [q, if_neg (by decide), if_pos rfl]
theorem m_whole {M : Mem} {f : Nat → Int32} {p n v : Nat} (hf : M 209 = f) (hp : p < 6) (hI : IP f p) (hw : fP f p 4 = nI 1) (hv : v < 2 ^ 30) : ∀ (d k i : Nat) (a l : Int32), i + d = pT f p → d < k → mX11_usageOf_c22 n k (nI p) (nI v) a l (nI i) M = some (nI (usW (pB f p) (pC f p) (pR f p) v i d))
  | d, 0, _, _, _, _, h => absurd h (Nat.not_lt_zero _)
  | 0, k + 1, i, a, l, e, h => by
    obtain ⟨i0, i1, i2, i3, i4, i5, i6, i7, i8, i9, i10⟩ := hI
    have h2 := i2.1; have h3 := i3.1; have h2' := i2.2
    unfold mX11_usageOf_c22
    simp (disch := omega) only [nI_lit, nI_add, pk_mul, nI_clamp, nI_leI, nI_ltI, nI_eq, nI_t0, nI_le0, nI_e0, nI_0le, nI_lt0, m_planOf, bnp_some, hf, hw, if_true]
    rw [h2, h3]
    simp (disch := omega) only [nI_lit, nI_add, pk_mul, nI_clamp, nI_leI, nI_ltI, nI_eq, nI_t0, nI_le0, nI_e0, nI_0le, nI_lt0]
    rw [if_pos (by omega)]
    rfl
  | d + 1, k + 1, i, a, l, e, h => by
    have hI' := hI
    obtain ⟨i0, i1, i2, i3, i4, i5, i6, i7, i8, i9, i10⟩ := hI
    have h2 := i2.1; have h3 := i3.1; have h2' := i2.2
    have hb := (i7 i (by omega)).1; have hc := (i7 i (by omega)).2
    have hb1 := hb.1; have hb2 := hb.2; have hc1 := hc.1; have hc2 := hc.2
    have ih := m_whole hf hp hI' hw hv (n := n) d k (i + 1)
    unfold mX11_usageOf_c22 mX11_usageOf_c74 mX11_min mX11_max
    simp (disch := omega) only [nI_lit, nI_add, pk_mul, nI_clamp, nI_leI, nI_ltI, nI_eq, nI_t0, nI_le0, nI_e0, nI_0le, nI_lt0, m_planOf, bnp_some, bnp_ite, hf, hw, if_true]
    rw [h2, hb1, hc1]
    simp (disch := omega) only [nI_lit, nI_add, pk_mul, nI_clamp, nI_leI, nI_ltI, nI_eq, nI_t0, nI_le0, nI_e0, nI_0le, nI_lt0]
    rw [if_neg (by omega)]
    rw [usW_s]
    by_cases q : v ≤ pB f p i
    · rw [if_neg (by omega), if_pos q]
    · rw [if_pos (by omega), if_neg q]; exact ih _ _ (by omega) (by omega)
theorem m_added {M : Mem} {f : Nat → Int32} {p n v : Nat} (hf : M 209 = f) (hp : p < 6) (hI : IP f p) (hw : fP f p 4 = nI 0) (hv : v < 2 ^ 30) : ∀ (d k i lo a : Nat), i + d = pT f p → d < k → lo ≤ 9999 → mX11_usageOf_c22 n k (nI p) (nI v) (nI a) (nI lo) (nI i) M = some (nI (a + usA (pB f p) (pC f p) (pR f p) v lo i d))
  | d, 0, _, _, _, _, h, _ => absurd h (Nat.not_lt_zero _)
  | 0, k + 1, i, lo, a, e, h, hl => by
    obtain ⟨i0, i1, i2, i3, i4, i5, i6, i7, i8, i9, i10⟩ := hI
    have h2 := i2.1; have h3 := i3.1; have h2' := i2.2
    unfold mX11_usageOf_c22 mX11_max
    simp (disch := omega) only [nI_lit, nI_add, pk_mul, nI_clamp, nI_leI, nI_ltI, nI_eq, nI_t0, nI_le0, nI_e0, nI_0le, nI_lt0, m_planOf, bnp_some, bnp_ite, hf, hw, subclampM]
    rw [h2, h3]
    simp (disch := omega) only [nI_lit, nI_add, pk_mul, nI_clamp, nI_leI, nI_ltI, nI_eq, nI_t0, nI_le0, nI_e0, nI_0le, nI_lt0]
    rw [if_pos (by omega), if_neg (by decide)]
    rfl
  | d + 1, k + 1, i, lo, a, e, h, hl => by
    have hI' := hI
    obtain ⟨i0, i1, i2, i3, i4, i5, i6, i7, i8, i9, i10⟩ := hI
    have h2 := i2.1; have h3 := i3.1; have h2' := i2.2
    have hb := (i7 i (by omega)).1; have hc := (i7 i (by omega)).2
    have hb1 := hb.1; have hb2 := hb.2; have hc1 := hc.1; have hc2 := hc.2
    have ih := m_added hf hp hI' hw hv (n := n) d k (i + 1) (pB f p i) (a + (min v (pB f p i) - lo) * pC f p i) (by omega) (by omega) (by omega)
    unfold mX11_usageOf_c22 mX11_usageOf_c74 mX11_min mX11_max
    simp (disch := omega) only [nI_lit, nI_add, pk_mul, nI_clamp, nI_leI, nI_ltI, nI_eq, nI_t0, nI_le0, nI_e0, nI_0le, nI_lt0, m_planOf, bnp_some, bnp_ite, hf, hw]
    rw [h2, hb1, hc1]
    simp (disch := omega) only [minM2, subclampM, nI_add, pk_mul, nI_leI]
    rw [if_neg (by omega), if_neg (by decide), ih]
    rw [usA_s]
    rw [show a + (min v (pB f p i) - lo) * pC f p i + usA (pB f p) (pC f p) (pR f p) v (pB f p i) (i + 1) d = a + ((min v (pB f p i) - lo) * pC f p i + usA (pB f p) (pC f p) (pR f p) v (pB f p i) (i + 1) d) by omega]
theorem m_usage {M : Mem} {f : Nat → Int32} {p n u : Nat} (hf : M 209 = f) (hp : p < 6) (hI : IP f p) (hu : u ≤ 9999) (hn : 200 ≤ n) : mX11_usageOf n (nI p) (nI u) M = some (nI (US f p u)) := by
  have hI' := hI
  obtain ⟨i0, i1, i2, i3, i4, i5, i6, i7, i8, i9, i10⟩ := hI
  have h1 := i1.1; have h1' := i1.2; have h4 := i4.1; have h4' := i4.2; have h2' := i2.2
  unfold mX11_usageOf mX11_max US
  simp (disch := omega) only [nI_lit, m_planOf, bnp_some, bnp_ite, hf]
  rw [h1, subclampM (by omega) (by omega)]
  rcases (show pW f p = 0 ∨ pW f p = 1 by omega) with q | q
  · have hw : fP f p 4 = nI 0 := by rw [h4, q]
    rw [m_added hf hp hI' hw (by omega) (pT f p) n 0 0 0 (by omega) (by omega) (by omega), if_neg (by rw [hw]; decide), Nat.zero_add]
  · have hw : fP f p 4 = nI 1 := by rw [h4, q]
    rw [m_whole hf hp hI' hw (by omega) (pT f p) n 0 _ _ (by omega) (by omega), if_pos hw]
end
section
/-! units: tier by tier, and one by one -/
theorem usA_le {b c : Nat → Nat} {R v : Nat} (hR : R ≤ 99) : ∀ (d i lo : Nat), (∀ j, j < i + d → c j ≤ 99) → (∀ j, i ≤ j → j + 1 < i + d → b j ≤ b (j + 1)) → (0 < d → lo ≤ b i) → usA b c R v lo i d ≤ (v - lo) * 99
  | 0, i, lo, _, _, _ => by rw [usA_0]; exact Nat.mul_le_mul_left _ hR
  | d + 1, i, lo, hc, hb, hl => by
    have ih := usA_le (v := v) hR d (i + 1) (b i) (fun j hj => hc j (by omega)) (fun j h1 h2 => hb j (by omega) (by omega)) (fun h => hb i (Nat.le_refl _) (by omega))
    have h1 : (min v (b i) - lo) * c i ≤ (min v (b i) - lo) * 99 := Nat.mul_le_mul_left _ (hc i (by omega))
    have h2 := hl (by omega)
    rw [usA_s]
    have h3 : (min v (b i) - lo) * 99 + (v - b i) * 99 ≤ (v - lo) * 99 := by
      rw [← Nat.add_mul]
      exact Nat.mul_le_mul_right _ (by omega)
    omega
theorem usW_le {b c : Nat → Nat} {R v : Nat} (hR : R ≤ 99) : ∀ (d i : Nat), (∀ j, j < i + d → c j ≤ 99) → usW b c R v i d ≤ v * 99
  | 0, i, _ => by rw [usW_0]; exact Nat.mul_le_mul_left _ hR
  | d + 1, i, hc => by
    have ih := usW_le (b := b) (v := v) hR d (i + 1) (fun j hj => hc j (by omega))
    rw [usW_s]
    split
    · exact Nat.mul_le_mul_left _ (hc i (by omega))
    · exact ih
theorem US_le {f : Nat → Int32} {p u : Nat} (hI : IP f p) (hu : u ≤ 9999) : US f p u ≤ 989901 := by
  obtain ⟨i0, i1, i2, i3, i4, i5, i6, i7, i8, i9, i10⟩ := hI
  have h3 := i3.2; have h2 := i2.2
  unfold US
  split
  · have := usW_le (b := pB f p) (c := pC f p) (v := u - pF f p) h3 (pT f p) 0 (fun j hj => (i7 j (by omega)).2.2)
    have h4 : (u - pF f p) * 99 ≤ 9999 * 99 := Nat.mul_le_mul_right _ (by omega)
    omega
  · have := usA_le (b := pB f p) (c := pC f p) (v := u - pF f p) h3 (pT f p) 0 0 (fun j hj => (i7 j (by omega)).2.2) (fun j _ hj => Nat.le_of_lt (i9 j (by omega))) (fun _ => Nat.zero_le _)
    have h4 : (u - pF f p - 0) * 99 ≤ 9999 * 99 := Nat.mul_le_mul_right _ (by omega)
    omega
theorem usA_low {b c : Nat → Nat} {R v : Nat} : ∀ (d i lo : Nat), v ≤ lo → (∀ j, i ≤ j → j + 1 < i + d → b j ≤ b (j + 1)) → (0 < d → lo ≤ b i) → usA b c R v lo i d = 0
  | 0, i, lo, h, _, _ => by rw [usA_0, show v - lo = 0 by omega, Nat.zero_mul]
  | d + 1, i, lo, h, hb, hl => by
    have h2 := hl (by omega)
    have ih := usA_low (c := c) (R := R) (v := v) d (i + 1) (b i) (by omega) (fun j h1 h2 => hb j (by omega) (by omega)) (fun h => hb i (Nat.le_refl _) (by omega))
    rw [usA_s, ih, show min v (b i) - lo = 0 by omega, Nat.zero_mul]
/-- what is asked of the answer V -/
def mostA (b c : Nat → Nat) (R left lo i d V : Nat) : Prop := lo ≤ V ∧ V < 200000000 ∧ (∀ v, lo ≤ v → v ≤ V → usA b c R v lo i d ≤ left) ∧ (9999 ≤ V ∨ left < usA b c R (V + 1) lo i d)
theorem nI_lt0' {n : Nat} (h : n < 2 ^ 31) : (nI n ≤ nI 0) = (n = 0) := by rw [nI_leI h (by omega)]; exact propext (by omega)
theorem divmul {x c l : Nat} (hc : 0 < c) (h : x ≤ l / c) : x * c ≤ l := (Nat.le_div_iff_mul_le hc).mp h
theorem divmul' {x c l : Nat} (hc : 0 < c) (h : l / c < x) : l < x * c := (Nat.div_lt_iff_lt_mul hc).mp h
theorem c_mostA {M : Mem} {f : Nat → Int32} {q p n : Nat} (hR : RP q p M f) (hI : IP f p) : ∀ (d k i lo left : Nat), i + d = pT f p → d < k → lo ≤ 9999 → left ≤ 99999999 → (0 < d → lo ≤ pB f p i) → ∃ V, mX7_mostAdded_c7 n k q (nI lo) (nI left) (nI i) M = some (nI V) ∧ mostA (pB f p) (pC f p) (pR f p) left lo i d V
  | d, 0, _, _, _, _, h, _, _, _ => absurd h (Nat.not_lt_zero _)
  | 0, k + 1, i, lo, left, e, h, hl, hle, hb => by
    obtain ⟨r0, r1, r2, r3, r4, r5, r6, r7, r8⟩ := hR
    obtain ⟨i0, i1, i2, i3, i4, i5, i6, i7, i8, i9, i10⟩ := hI
    have h2 := i2.1; have h3 := i3.1; have h2' := i2.2; have h3' := i3.2
    unfold mX7_mostAdded_c7
    rw [r2, h2, r3, h3]
    simp (disch := omega) only [nI_lit, nI_add, pk_mul, nI_clamp, nI_leI, nI_ltI, nI_eq, nI_t0, nI_le0, nI_e0, nI_0le, nI_lt0]
    rw [if_pos (by omega)]
    by_cases z : pR f p = 0
    · refine ⟨9999, ?_, hl, by omega, fun v h1 h2 => ?_, Or.inl (by omega)⟩
      · rw [z, if_pos (by decide)]
      · rw [usA_0, z, Nat.mul_zero]; omega
    · have hd : left / pR f p ≤ left := Nat.div_le_self _ _
      obtain ⟨Q, hQ⟩ : ∃ Q, left / pR f p = Q := ⟨_, rfl⟩
      rw [hQ] at hd
      refine ⟨lo + Q, ?_, by omega, by omega, fun v h1 h2 => ?_, Or.inr ?_⟩
      · rw [if_neg (by omega), dvi_n (by omega) (by omega), pk_div' (by omega) (by omega) (by omega), hQ, nI_add]
      · rw [usA_0]; exact divmul (by omega) (by rw [hQ]; omega)
      · rw [usA_0]; exact divmul' (by omega) (by rw [hQ]; omega)
  | d + 1, k + 1, i, lo, left, e, h, hl, hle, hb => by
    have hR' := hR; have hI' := hI
    obtain ⟨r0, r1, r2, r3, r4, r5, r6, r7, r8⟩ := hR
    obtain ⟨i0, i1, i2, i3, i4, i5, i6, i7, i8, i9, i10⟩ := hI
    have h2 := i2.1; have h3 := i3.1; have h2' := i2.2; have h3' := i3.2
    have hb0 := (i7 i (by omega)).1; have hc := (i7 i (by omega)).2
    have hb1 := hb0.1; have hb2 := hb0.2; have hc1 := hc.1; have hc2 := hc.2
    have rb := (r7 i (by omega)).1; have rc := (r7 i (by omega)).2
    have hlo := hb (by omega)
    have hbm : ∀ j, i ≤ j → j + 1 < i + (d + 1) → pB f p j ≤ pB f p (j + 1) := fun j _ hj => Nat.le_of_lt (i9 j (by omega))
    have hbn : 0 < d → pB f p i ≤ pB f p (i + 1) := fun hd => Nat.le_of_lt (i9 i (by omega))
    have hprod : (pB f p i - lo) * pC f p i ≤ 9999 * 99 := Nat.mul_le_mul (by omega) hc2
    have e2 : nI (pB f p i) - nI lo = nI (pB f p i - lo) := pk_sub hlo
    have key : ∀ v, usA (pB f p) (pC f p) (pR f p) v lo i (d + 1) = (min v (pB f p i) - lo) * pC f p i + usA (pB f p) (pC f p) (pR f p) v (pB f p i) (i + 1) d := fun v => usA_s _ _ _ _ _ _ _
    have low : ∀ v, v ≤ pB f p i → usA (pB f p) (pC f p) (pR f p) v (pB f p i) (i + 1) d = 0 := fun v hv => usA_low d (i + 1) (pB f p i) hv (fun j h1 h2 => hbm j (by omega) (by omega)) hbn
    have goOn : (pB f p i - lo) * pC f p i ≤ left → ∃ V, mX7_mostAdded_c7 n k q (nI (pB f p i)) (nI left - nI ((pB f p i - lo) * pC f p i)) (nI (i + 1)) M = some (nI V) ∧ mostA (pB f p) (pC f p) (pR f p) left lo i (d + 1) V := by
      intro hfull
      obtain ⟨V, v1, v2, v3, v4, v5⟩ := c_mostA hR' hI' (n := n) d k (i + 1) (pB f p i) (left - (pB f p i - lo) * pC f p i) (by omega) (by omega) (by omega) (by omega) hbn
      refine ⟨V, by rw [pk_sub hfull]; exact v1, by omega, v3, fun v g1 g2 => ?_, ?_⟩
      · rw [key]
        rcases Nat.lt_or_ge v (pB f p i) with y | y
        · rw [low v (by omega), Nat.min_eq_left (by omega)]
          have : (v - lo) * pC f p i ≤ (pB f p i - lo) * pC f p i := Nat.mul_le_mul_right _ (by omega)
          omega
        · have := v4 v y g2
          rw [Nat.min_eq_right y]
          omega
      · rcases v5 with v5 | v5
        · exact Or.inl v5
        · refine Or.inr ?_
          rw [key, Nat.min_eq_right (by omega)]
          omega
    unfold mX7_mostAdded_c7
    rw [r2, h2]
    simp (disch := omega) only [nI_lit, nI_add, pk_mul, nI_clamp, nI_leI, nI_ltI, nI_eq, nI_t0, nI_le0, nI_e0, nI_0le, nI_lt0, chk_n, rb, rc]
    rw [hb1, hc1, e2]
    simp (disch := omega) only [nI_lit, nI_add, pk_mul, nI_clamp, nI_leI, nI_ltI, nI_eq, nI_t0, nI_le0, nI_e0, nI_0le, nI_lt0]
    rw [if_neg (by omega), if_neg (by omega)]
    by_cases z : pC f p i = 0
    · rw [if_pos (by omega)]
      exact goOn (by rw [z, Nat.mul_zero]; omega)
    · rw [if_neg (by omega)]
      by_cases y : (pB f p i - lo) * pC f p i ≤ left
      · rw [if_pos y]
        exact goOn y
      · rw [if_neg y, dvi_n (by omega) (by omega), pk_div' (by omega) (by omega) (by omega)]
        have hd : left / pC f p i < pB f p i - lo := (Nat.div_lt_iff_lt_mul (by omega)).mpr (by omega)
        obtain ⟨Q, hQ⟩ : ∃ Q, left / pC f p i = Q := ⟨_, rfl⟩
        rw [hQ] at hd ⊢
        refine ⟨lo + Q, by rw [nI_add], by omega, by omega, fun v g1 g2 => ?_, Or.inr ?_⟩
        · rw [key, low v (by omega), Nat.min_eq_left (by omega)]
          have := divmul (x := v - lo) (c := pC f p i) (l := left) (by omega) (by rw [hQ]; omega)
          omega
        · rw [key, Nat.min_eq_left (by omega)]
          have := divmul' (x := lo + Q + 1 - lo) (c := pC f p i) (l := left) (by omega) (by rw [hQ]; omega)
          omega
def mostW (b c : Nat → Nat) (R left lo i d V : Nat) : Prop := lo ≤ V ∧ V < 200000000 ∧ (∀ v, lo < v → v ≤ V → usW b c R v i d ≤ left) ∧ (9999 ≤ V ∨ left < usW b c R (V + 1) i d)
theorem maxN {u v : Nat} {inst : Decidable (v < u)} : (@ite Int32 (v < u) inst (nI u) (nI v)) = nI (max v u) := by
  split
  · rw [Nat.max_eq_right (by omega)]
  · rw [Nat.max_eq_left (by omega)]
theorem c_mostW {M : Mem} {f : Nat → Int32} {q p n left : Nat} (hR : RP q p M f) (hI : IP f p) (hle : left ≤ 99999999) : ∀ (d k i lo : Nat), i + d = pT f p → d < k → lo ≤ 9999 → (0 < d → lo < pB f p i) → ∃ V, mX7_mostWhole_c4 n k q (nI left) (nI lo) (nI i) M = some (nI V) ∧ mostW (pB f p) (pC f p) (pR f p) left lo i d V
  | d, 0, _, _, _, h, _, _ => absurd h (Nat.not_lt_zero _)
  | 0, k + 1, i, lo, e, h, hl, hb => by
    obtain ⟨r0, r1, r2, r3, r4, r5, r6, r7, r8⟩ := hR
    obtain ⟨i0, i1, i2, i3, i4, i5, i6, i7, i8, i9, i10⟩ := hI
    have h2 := i2.1; have h3 := i3.1; have h2' := i2.2; have h3' := i3.2
    unfold mX7_mostWhole_c4
    rw [r2, h2, r3, h3]
    simp (disch := omega) only [nI_lit, nI_add, pk_mul, nI_clamp, nI_leI, nI_ltI, nI_eq, nI_t0, nI_le0, nI_e0, nI_0le, nI_lt0]
    rw [if_pos (by omega)]
    by_cases z : pR f p = 0
    · refine ⟨9999, ?_, hl, by omega, fun v h1 h2 => ?_, Or.inl (by omega)⟩
      · rw [z, if_pos (by decide)]
      · rw [usW_0, z, Nat.mul_zero]; omega
    · have hd : left / pR f p ≤ left := Nat.div_le_self _ _
      obtain ⟨Q, hQ⟩ : ∃ Q, left / pR f p = Q := ⟨_, rfl⟩
      rw [hQ] at hd
      refine ⟨max lo Q, ?_, by omega, by omega, fun v h1 h2 => ?_, Or.inr ?_⟩
      · rw [if_neg (by omega), dvi_n (by omega) (by omega), pk_div' (by omega) (by omega) (by omega), hQ]
        simp (disch := omega) only [nI_ltI, maxN]
      · rw [usW_0]; exact divmul (by omega) (by rw [hQ]; omega)
      · rw [usW_0]; exact divmul' (by omega) (by rw [hQ]; omega)
  | d + 1, k + 1, i, lo, e, h, hl, hb => by
    have hR' := hR; have hI' := hI
    obtain ⟨r0, r1, r2, r3, r4, r5, r6, r7, r8⟩ := hR
    obtain ⟨i0, i1, i2, i3, i4, i5, i6, i7, i8, i9, i10⟩ := hI
    have h2 := i2.1; have h3 := i3.1; have h2' := i2.2; have h3' := i3.2
    have hb0 := (i7 i (by omega)).1; have hc := (i7 i (by omega)).2
    have hb1 := hb0.1; have hb2 := hb0.2; have hc1 := hc.1; have hc2 := hc.2
    have rb := (r7 i (by omega)).1; have rc := (r7 i (by omega)).2
    have hlo := hb (by omega)
    have hprod : pB f p i * pC f p i ≤ 9999 * 99 := Nat.mul_le_mul (by omega) hc2
    have hdl : left / pC f p i ≤ left := Nat.div_le_self _ _
    have key : ∀ v, usW (pB f p) (pC f p) (pR f p) v i (d + 1) = if v ≤ pB f p i then v * pC f p i else usW (pB f p) (pC f p) (pR f p) v (i + 1) d := fun v => usW_s _ _ _ _ _ _
    have goOn : pB f p i * pC f p i ≤ left → ∃ V, mX7_mostWhole_c4 n k q (nI left) (nI (pB f p i)) (nI (i + 1)) M = some (nI V) ∧ mostW (pB f p) (pC f p) (pR f p) left lo i (d + 1) V := by
      intro hfull
      obtain ⟨V, v1, v2, v3, v4, v5⟩ := c_mostW hR' hI' hle (n := n) d k (i + 1) (pB f p i) (by omega) (by omega) (by omega) (fun hd => i9 i (by omega))
      refine ⟨V, v1, by omega, v3, fun v g1 g2 => ?_, ?_⟩
      · rw [key]
        split
        · rename_i y
          have : v * pC f p i ≤ pB f p i * pC f p i := Nat.mul_le_mul_right _ y
          omega
        · exact v4 v (by omega) g2
      · rcases v5 with v5 | v5
        · exact Or.inl v5
        · refine Or.inr ?_
          rw [key, if_neg (by omega)]
          exact v5
    unfold mX7_mostWhole_c4
    rw [r2, h2]
    simp (disch := omega) only [nI_lit, nI_add, pk_mul, nI_clamp, nI_leI, nI_ltI, nI_eq, nI_t0, nI_le0, nI_e0, nI_0le, nI_lt0, chk_n, rb, rc]
    rw [hb1, hc1]
    simp (disch := omega) only [nI_lit, nI_add, pk_mul, nI_clamp, nI_leI, nI_ltI, nI_eq, nI_t0, nI_le0, nI_e0, nI_0le, nI_lt0]
    rw [if_neg (by omega), if_neg (by omega)]
    by_cases z : pC f p i = 0
    · rw [if_pos (by omega)]
      exact goOn (by rw [z, Nat.mul_zero]; omega)
    · rw [if_neg (by omega)]
      by_cases y : pB f p i * pC f p i ≤ left
      · rw [if_pos y]
        exact goOn y
      · rw [if_neg y, dvi_n (by omega) (by omega), pk_div' (by omega) (by omega) (by omega)]
        have hd : left / pC f p i < pB f p i := (Nat.div_lt_iff_lt_mul (by omega)).mpr (by omega)
        obtain ⟨Q, hQ⟩ : ∃ Q, left / pC f p i = Q := ⟨_, rfl⟩
        rw [hQ] at hd hdl ⊢
        refine ⟨max lo Q, by simp (disch := omega) only [nI_ltI, maxN], by omega, by omega, fun v g1 g2 => ?_, Or.inr ?_⟩
        · rw [key, if_pos (by omega)]
          exact divmul (x := v) (c := pC f p i) (l := left) (by omega) (by rw [hQ]; omega)
        · rw [key, if_pos (by omega)]
          exact divmul' (x := max lo Q + 1) (c := pC f p i) (l := left) (by omega) (by rw [hQ]; omega)
/-- one by one -/
theorem m_units {M : Mem} {f : Nat → Int32} {p n cents X : Nat} (hf : M 209 = f) (hp : p < 6) (hI : IP f p) (hn : 200 ≤ n) (hc : cents ≤ 99999999) (hX : X ≤ 9999) (h1 : ∀ j, j ≤ X → US f p j ≤ cents) (h2 : X = 9999 ∨ cents < US f p (X + 1)) : ∀ (d k u : Nat), u + d = X → d < k → mX11_units_c21 n k (nI p) (nI cents) (nI u) M = some (nI X)
  | d, 0, _, _, h => absurd h (Nat.not_lt_zero _)
  | 0, k + 1, u, e, h => by
    have e : u = X := e
    subst e
    unfold mX11_units_c21
    simp (disch := omega) only [nI_lit, nI_add, pk_mul, nI_clamp, nI_leI, nI_ltI, nI_eq, nI_t0, nI_le0, nI_e0, nI_0le, nI_lt0]
    by_cases z : 9999 ≤ u
    · rw [if_pos z]
    · have := US_le hI (u := u + 1) (by omega)
      rw [if_neg z, m_usage hf hp hI (by omega) hn]
      simp (disch := omega) only [bnp_some, nI_ltI]
      rw [if_pos (by omega)]
  | d + 1, k + 1, u, e, h => by
    have ih := m_units hf hp hI hn hc hX h1 h2 d k (u + 1) (by omega) (by omega)
    have h3 := h1 (u + 1) (by omega)
    unfold mX11_units_c21
    simp (disch := omega) only [nI_lit, nI_add, pk_mul, nI_clamp, nI_leI, nI_ltI, nI_eq, nI_t0, nI_le0, nI_e0, nI_0le, nI_lt0]
    rw [if_neg (by omega), m_usage hf hp hI (by omega) hn]
    simp (disch := omega) only [bnp_some, nI_ltI]
    rw [if_neg (by omega)]
    exact ih
theorem US_0 {f : Nat → Int32} {p u : Nat} (hI : IP f p) (hu : u ≤ pF f p) : US f p u = 0 := by
  obtain ⟨i0, i1, i2, i3, i4, i5, i6, i7, i8, i9, i10⟩ := hI
  unfold US
  rw [show u - pF f p = 0 by omega]
  split
  · have h : ∀ (d i : Nat), usW (pB f p) (pC f p) (pR f p) 0 i d = 0 := by
      intro d
      induction d with
      | zero => intro i; rw [usW_0, Nat.zero_mul]
      | succ d ih => intro i; rw [usW_s, Nat.zero_mul, ih]; split <;> rfl
    exact h _ _
  · exact usA_low (pT f p) 0 0 (Nat.le_refl _) (fun j _ hj => Nat.le_of_lt (i9 j (by omega))) (fun _ => Nat.zero_le _)
theorem q_units {M N : Mem} {f : Nat → Int32} (hRT : RT 5 M f) (hf : N 209 = f) (hIT : IT f) {n : Nat} (hn : 20000 ≤ n) (a b : Int32) : ∃ r, mX10_units n a b M = some r ∧ mX11_units n a b N = some r := by
  unfold mX10_units mX11_units
  rcases isPlan_c a with ⟨p, -, hp, rfl, e1, e2⟩ | ⟨e1, e2⟩
  · have hp6 : p < 6 := by omega
    have hR := hRT.2.2.2.2.2 p hp6
    have hI := hIT.2.2.2.2.2 p hp6
    simp only [e1, e2, bnp_some]
    rcases in_c b 0 99999999 100000000 0 99999999 rfl rfl rfl (by decide) (by decide) with ⟨c, -, c2, rfl, c3, c4, c5, c6⟩ | ⟨c6, c3⟩
    · have hF := hI.2.1
      have hT := hI.2.2.1.2
      obtain ⟨V, hV, hX⟩ : ∃ V, mX7_mostUnits n (5 + 4 + 5 * p) (nI c) M = some (nI (min 9999 (pF f p + V))) ∧ (∀ j, j ≤ min 9999 (pF f p + V) → US f p j ≤ c) ∧ (min 9999 (pF f p + V) = 9999 ∨ c < US f p (min 9999 (pF f p + V) + 1)) := by
        unfold mX7_mostUnits mX7_mostAdded mX7_mostWhole
        rw [hR.2.2.2.2.1, hR.2.1, hI.2.2.2.2.1.1, hF.1]
        have hW := hI.2.2.2.2.1.2
        rcases (show pW f p = 0 ∨ pW f p = 1 by omega) with q | q
        · obtain ⟨V, v1, v2, v3, v4, v5⟩ := c_mostA hR hI (n := n) (pT f p) n 0 0 c (by omega) (by omega) (by omega) c2 (fun _ => Nat.zero_le _)
          have hus : ∀ u, US f p u = usA (pB f p) (pC f p) (pR f p) (u - pF f p) 0 0 (pT f p) := by
            intro u; unfold US; rw [if_neg (by rw [hI.2.2.2.2.1.1, q]; decide)]
          refine ⟨V, ?_, fun j hj => ?_, ?_⟩
          · rw [q, if_pos (show nI 0 = (0 : Int32) from rfl)]
            simp only [nI_lit]
            rw [v1]
            have hF2 := hF.2
            simp (disch := omega) only [bnp_some, nI_add, nI_ltI, minM2]
            congr 1
            by_cases z : pF f p + V < 9999
            · rw [if_pos z, Nat.min_eq_right (by omega)]
            · rw [if_neg z, Nat.min_eq_left (by omega)]
          · rw [hus]; exact v4 _ (Nat.zero_le _) (by omega)
          · rcases v5 with v5 | v5
            · left; omega
            · by_cases z : pF f p + V < 9999
              · right
                rw [Nat.min_eq_right (by omega), hus, show pF f p + V + 1 - pF f p = V + 1 by omega]
                exact v5
              · left; omega
        · obtain ⟨V, v1, v2, v3, v4, v5⟩ := c_mostW hR hI c2 (n := n) (pT f p) n 0 0 (by omega) (by omega) (by omega) (fun h => hI.2.2.2.2.2.2.2.2.2.2 0 h)
          have hus : ∀ u, US f p u = usW (pB f p) (pC f p) (pR f p) (u - pF f p) 0 (pT f p) := by
            intro u; unfold US; rw [if_pos (by rw [hI.2.2.2.2.1.1, q])]
          refine ⟨V, ?_, fun j hj => ?_, ?_⟩
          · rw [q, if_neg (by decide)]
            simp only [nI_lit]
            rw [v1]
            have hF2 := hF.2
            simp (disch := omega) only [bnp_some, nI_add, nI_ltI]
            congr 1
            by_cases z : pF f p + V < 9999
            · rw [if_pos z, Nat.min_eq_right (by omega)]
            · rw [if_neg z, Nat.min_eq_left (by omega)]
          · rcases Nat.lt_or_ge (pF f p) j with z | z
            · rw [hus]; exact v4 _ (by omega) (by omega)
            · rw [US_0 hI z]; exact Nat.zero_le _
          · rcases v5 with v5 | v5
            · left; omega
            · by_cases z : pF f p + V < 9999
              · right
                rw [Nat.min_eq_right (by omega), hus, show pF f p + V + 1 - pF f p = V + 1 by omega]
                exact v5
              · left; omega
      have hm := m_units (n := n) hf hp6 hI (by omega) c2 (X := min 9999 (pF f p + V)) (by omega) hX.1 hX.2 (min 9999 (pF f p + V)) n 0 (by omega) (by omega)
      refine ⟨nI (min 9999 (pF f p + V)), ?_, ?_⟩
      · rw [if_neg (by decide), if_neg c3, if_pos (Int32.not_lt.mp c4), c_termsOf hp6]
        simp only [bnp_some]
        rw [hV]; rfl
      · rw [if_neg (by decide), c6]
        simp only [bnp_some]
        rw [if_neg (by decide)]
        simp only [nI_lit]
        exact hm
    · refine ⟨-1, ?_, ?_⟩
      · rw [if_neg (by decide)]
        rcases c3 with c3 | ⟨c3, c4, c5⟩
        · rw [if_pos c3]
        · rw [if_neg c3, if_neg (Int32.not_le.mpr c4)]
      · rw [if_neg (by decide), c6]; rfl
  · simp [e1, e2, bnp_some]
end
section
/-! what is asked of THE BOOK -/
theorem ofNat_nI (k : Nat) : Int32.ofNat k = nI k := rfl
theorem nI_num (k : Nat) : nI (@OfNat.ofNat Nat k (instOfNatNat k)) = (@OfNat.ofNat Int32 k Int32.instOfNat) := Int32.toBitVec_inj.mp rfl
theorem c_tellOf {M : Mem} {a T N k : Nat} (hN : GS.2.1 a = N) (hT : T ≤ N) (hN2 : N < 2 ^ 31) (hk : k < 2 ^ 31) : mX10_tellOf a (nI T) (nI k) M = some (if k < T then M a k else -2) := by
  unfold mX10_tellOf
  rw [hN]
  have t0 := nI_t0 hk
  rw [if_neg (by rw [t0]; exact id)]
  by_cases h : k < T
  · rw [if_neg (by rw [nI_leI (by omega) hk]; omega), ofNat_nI, if_neg (by rw [nI_leI (by omega) hk]; omega), chk_n (by omega) (by omega), nI_clamp hk, if_pos h]
  · rw [if_pos (by rw [nI_leI (by omega) hk]; omega), if_neg h]
theorem GS_pl : ∀ p, p < 6 → (GS.2.1 (9 + 5 * p + 1) = 4 ∧ GS.2.1 (9 + 5 * p + 2) = 4 ∧ GS.2.1 (9 + 5 * p + 3) = 3 ∧ GS.2.1 (9 + 5 * p + 4) = 3) := by decide +kernel
theorem q_usage {M N : Mem} {f : Nat → Int32} (hRT : RT 5 M f) (hf : N 209 = f) (hIT : IT f) {n : Nat} (hn : 200 ≤ n) (a b : Int32) : ∃ r, mX10_usage n a b M = some r ∧ mX11_usage n a b N = some r := by
  unfold mX10_usage mX11_usage
  rcases isPlan_c a with ⟨p, -, hp, rfl, e1, e2⟩ | ⟨e1, e2⟩
  · have hp6 : p < 6 := by omega
    rcases areUnits_c b with ⟨u, -, hu, rfl, g1, g2⟩ | ⟨g1, g2⟩
    · refine ⟨nI (US f p u), ?_, ?_⟩
      · simp only [e1, g1, bnp_some]
        rw [if_neg (by decide), if_neg (by decide), c_termsOf hp6]
        simp only [bnp_some]
        rw [c_usage (hRT.2.2.2.2.2 p hp6) (hIT.2.2.2.2.2 p hp6) hu hn]; rfl
      · simp only [e2, g2, bnp_some]
        rw [if_neg (by decide), if_neg (by decide), m_usage hf hp6 (hIT.2.2.2.2.2 p hp6) hu hn]; rfl
    · simp [e1, e2, g1, g2, bnp_some]
  · simp [e1, e2, bnp_some]
theorem cheapest_go {M N : Mem} {f : Nat → Int32} (hRT : RT 5 M f) (hf : N 209 = f) (hIT : IT f) {n u : Nat} (hn : 200 ≤ n) (hu : u ≤ 9999) : ∀ (d k i best : Nat), i + d = 6 → d < k → best < 6 → 0 < i → ∃ r, mX9_cheapestPlan_c7 n k 5 (nI u) (nI best) (nI (US f best u) + fP f best 0) (nI i) M = some r ∧ mX11_cheapest_c17 n k (nI u) (nI best) (nI i) N = some r
  | d, 0, _, _, _, h, _, _ => absurd h (Nat.not_lt_zero _)
  | 0, k + 1, i, best, e, h, hb, hi => by
    have e : i = 6 := e
    subst e
    exact ⟨nI best, rfl, rfl⟩
  | d + 1, k + 1, i, best, e, h, hb, hi => by
    have ih1 := cheapest_go hRT hf hIT hn hu d k (i + 1) best (by omega) (by omega) hb (by omega)
    have ih2 := cheapest_go hRT hf hIT hn hu d k (i + 1) i (by omega) (by omega) (by omega) (by omega)
    have hR := hRT.2.2.2.2.2 i (by omega)
    have hu1 := c_usage hR (hIT.2.2.2.2.2 i (by omega)) hu hn
    have hu2 := m_usage hf (n := n) (p := i) (by omega) (hIT.2.2.2.2.2 i (by omega)) hu hn
    have hu3 := m_usage hf (n := n) hb (hIT.2.2.2.2.2 best hb) hu hn
    unfold mX9_cheapestPlan_c7 mX11_cheapest_c17
    simp (disch := omega) only [nI_lit, nI_add, pk_mul, nI_clamp, nI_leI, nI_ltI, nI_eq, nI_t0, nI_le0, nI_e0, nI_0le, nI_lt0, chk_n, m_planOf, hf, hu2, hu3, bnp_some]
    rw [show 5 + 1 + 3 + 5 * i = 5 + 4 + 5 * i by omega, hu1, hR.1, if_neg (by omega), if_neg (by omega)]
    simp only [bnp_some]
    rw [if_neg (by omega), Int32.add_comm (fP f i 0)]
    by_cases q : nI (US f best u) + fP f best 0 ≤ nI (US f i u) + fP f i 0
    · rw [if_pos q, if_pos q]; exact ih1
    · rw [if_neg q, if_neg q]; exact ih2
theorem q_cheapest {M N : Mem} {f : Nat → Int32} (hRT : RT 5 M f) (hf : N 209 = f) (hIT : IT f) {n : Nat} (hn : 200 ≤ n) (a : Int32) : ∃ r, mX10_cheapest n a M = some r ∧ mX11_cheapest n a N = some r := by
  unfold mX10_cheapest mX11_cheapest mX9_cheapestPlan
  rcases areUnits_c a with ⟨u, -, hu, rfl, g1, g2⟩ | ⟨g1, g2⟩
  · simp only [g1, g2, bnp_some]
    rw [if_neg (by decide), if_neg (by decide)]
    obtain ⟨k, rfl⟩ : ∃ k, n = k + 1 := ⟨n - 1, by omega⟩
    obtain ⟨r, h1, h2⟩ := cheapest_go hRT hf hIT (n := k + 1) (by omega) hu 5 k 1 0 (by omega) (by omega) (by omega) (by omega)
    have hR := hRT.2.2.2.2.2 0 (by omega)
    have hu1 := c_usage (n := k + 1) hR (hIT.2.2.2.2.2 0 (by omega)) hu (by omega)
    refine ⟨r, ?_, ?_⟩
    · unfold mX9_cheapestPlan_c7
      have h3 : mX7_usageOf (k + 1) (5 + 1 + 3 + 5 * 0) (nI u) M = some (nI (US f 0 u)) := hu1
      have h4 : M (5 + 1 + 3 + 5 * 0) 0 = fP f 0 0 := hR.1
      simp (disch := omega) only [nI_lit, nI_add, pk_mul, nI_clamp, nI_leI, nI_ltI, nI_eq, nI_t0, nI_le0, nI_e0, nI_0le, nI_lt0, chk_n, if_true]
      rw [h3, h4]
      rw [if_neg (by omega)]
      simp only [bnp_some]
      rw [Int32.add_comm (fP f 0 0), h1]; rfl
    · have := cheapest_go hRT hf hIT (n := k + 1) (by omega) hu 5 (k + 1) 1 0 (by omega) (by omega) (by omega) (by omega)
      obtain ⟨r2, g3, g4⟩ := this
      have e0 : ∀ (d k1 k2 i best : Nat), i + d = 6 → d < k1 → d < k2 → best < 6 → 0 < i → mX11_cheapest_c17 (k + 1) k1 (nI u) (nI best) (nI i) N = mX11_cheapest_c17 (k + 1) k2 (nI u) (nI best) (nI i) N := by
        intro d
        induction d with
        | zero =>
          intro k1 k2 i best e h1 h2 hb hi
          obtain ⟨k1, rfl⟩ : ∃ j, k1 = j + 1 := ⟨k1 - 1, by omega⟩
          obtain ⟨k2, rfl⟩ : ∃ j, k2 = j + 1 := ⟨k2 - 1, by omega⟩
          have e : i = 6 := e
          subst e
          rfl
        | succ d ih =>
          intro k1 k2 i best e h1 h2 hb hi
          obtain ⟨k1, rfl⟩ : ∃ j, k1 = j + 1 := ⟨k1 - 1, by omega⟩
          obtain ⟨k2, rfl⟩ : ∃ j, k2 = j + 1 := ⟨k2 - 1, by omega⟩
          unfold mX11_cheapest_c17
          rw [show nI i + 1 = nI (i + 1) from nI_1 i, ih k1 k2 (i + 1) best (by omega) (by omega) (by omega) hb (by omega), ih k1 k2 (i + 1) i (by omega) (by omega) (by omega) (by omega) (by omega)]
      rw [← h2]
      exact e0 5 (k + 1) k 1 0 (by omega) (by omega) (by omega) (by omega) (by omega)
  · simp [g1, g2, bnp_some]
theorem plan_out {M N : Mem} {q : Nat} {a b : Int32} (hne : ∀ j, j ≤ 42 → ¬ b = nI j) : ∃ r, (bnp (mX7_tell q b M) fun r5 => some r5) = some r ∧ (bnp (mX11_in b (0 : Int32) (5 : Int32)) fun r8 => (if r8 = 0 then (bnp (mX11_in b (10 : Int32) (13 : Int32)) fun r10 => (if r10 = 0 then (bnp (mX11_in b (20 : Int32) (23 : Int32)) fun r12 => (if r12 = 0 then (bnp (mX11_in b (30 : Int32) (32 : Int32)) fun r14 => (if r14 = 0 then (bnp (mX11_in b (40 : Int32) (42 : Int32)) fun r16 => (if r16 = 0 then (some (-1 : Int32)) else (if (30 : Int32) ≤ b then (mX11_plan_c89 a b (14 : Int32) a (b - b / (10 : Int32) * (10 : Int32)) N) else (mX11_plan_c89 a b (2 : Int32) a (b - b / (10 : Int32) * (10 : Int32)) N)))) else (if (30 : Int32) ≤ b then (mX11_plan_c89 a b (14 : Int32) a (b - b / (10 : Int32) * (10 : Int32)) N) else (mX11_plan_c89 a b (2 : Int32) a (b - b / (10 : Int32) * (10 : Int32)) N)))) else (if (30 : Int32) ≤ b then (mX11_plan_c89 a b (14 : Int32) a (b - b / (10 : Int32) * (10 : Int32)) N) else (mX11_plan_c89 a b (2 : Int32) a (b - b / (10 : Int32) * (10 : Int32)) N)))) else (if (30 : Int32) ≤ b then (mX11_plan_c89 a b (14 : Int32) a (b - b / (10 : Int32) * (10 : Int32)) N) else (mX11_plan_c89 a b (2 : Int32) a (b - b / (10 : Int32) * (10 : Int32)) N)))) else (bnp (mX11_planOf a b N) fun r18 => (some r18)))) = some r := by
  refine ⟨-1, ?_, ?_⟩
  · unfold mX7_tell
    have n0 : ¬ b = (0 : Int32) := hne 0 (by decide)
    have n1 : ¬ b = (1 : Int32) := hne 1 (by decide)
    have n2 : ¬ b = (2 : Int32) := hne 2 (by decide)
    have n3 : ¬ b = (3 : Int32) := hne 3 (by decide)
    have n4 : ¬ b = (4 : Int32) := hne 4 (by decide)
    have n5 : ¬ b = (5 : Int32) := hne 5 (by decide)
    have n6 : ¬ b = (6 : Int32) := hne 6 (by decide)
    have n7 : ¬ b = (7 : Int32) := hne 7 (by decide)
    have n8 : ¬ b = (8 : Int32) := hne 8 (by decide)
    have n9 : ¬ b = (9 : Int32) := hne 9 (by decide)
    have n10 : ¬ b = (10 : Int32) := hne 10 (by decide)
    have n11 : ¬ b = (11 : Int32) := hne 11 (by decide)
    have n12 : ¬ b = (12 : Int32) := hne 12 (by decide)
    have n13 : ¬ b = (13 : Int32) := hne 13 (by decide)
    have n14 : ¬ b = (14 : Int32) := hne 14 (by decide)
    have n15 : ¬ b = (15 : Int32) := hne 15 (by decide)
    have n16 : ¬ b = (16 : Int32) := hne 16 (by decide)
    have n17 : ¬ b = (17 : Int32) := hne 17 (by decide)
    have n18 : ¬ b = (18 : Int32) := hne 18 (by decide)
    have n19 : ¬ b = (19 : Int32) := hne 19 (by decide)
    have n20 : ¬ b = (20 : Int32) := hne 20 (by decide)
    have n21 : ¬ b = (21 : Int32) := hne 21 (by decide)
    have n22 : ¬ b = (22 : Int32) := hne 22 (by decide)
    have n23 : ¬ b = (23 : Int32) := hne 23 (by decide)
    have n24 : ¬ b = (24 : Int32) := hne 24 (by decide)
    have n25 : ¬ b = (25 : Int32) := hne 25 (by decide)
    have n26 : ¬ b = (26 : Int32) := hne 26 (by decide)
    have n27 : ¬ b = (27 : Int32) := hne 27 (by decide)
    have n28 : ¬ b = (28 : Int32) := hne 28 (by decide)
    have n29 : ¬ b = (29 : Int32) := hne 29 (by decide)
    have n30 : ¬ b = (30 : Int32) := hne 30 (by decide)
    have n31 : ¬ b = (31 : Int32) := hne 31 (by decide)
    have n32 : ¬ b = (32 : Int32) := hne 32 (by decide)
    have n33 : ¬ b = (33 : Int32) := hne 33 (by decide)
    have n34 : ¬ b = (34 : Int32) := hne 34 (by decide)
    have n35 : ¬ b = (35 : Int32) := hne 35 (by decide)
    have n36 : ¬ b = (36 : Int32) := hne 36 (by decide)
    have n37 : ¬ b = (37 : Int32) := hne 37 (by decide)
    have n38 : ¬ b = (38 : Int32) := hne 38 (by decide)
    have n39 : ¬ b = (39 : Int32) := hne 39 (by decide)
    have n40 : ¬ b = (40 : Int32) := hne 40 (by decide)
    have n41 : ¬ b = (41 : Int32) := hne 41 (by decide)
    have n42 : ¬ b = (42 : Int32) := hne 42 (by decide)
    rw [if_neg n0, if_neg n1, if_neg n2, if_neg n3, if_neg n4, if_neg n5, if_neg n6, if_neg n7, if_neg n8, if_neg n9, if_neg n10, if_neg n11, if_neg n12, if_neg n13, if_neg n14, if_neg n15, if_neg n16, if_neg n17, if_neg n18, if_neg n19, if_neg n20, if_neg n21, if_neg n22, if_neg n23, if_neg n24, if_neg n25, if_neg n26, if_neg n27, if_neg n28, if_neg n29, if_neg n30, if_neg n31, if_neg n32, if_neg n33, if_neg n34, if_neg n35, if_neg n36, if_neg n37, if_neg n38, if_neg n39, if_neg n40, if_neg n41, if_neg n42]
    rfl
  · rcases in_c b 0 5 6 0 5 rfl rfl rfl (by decide) (by decide) with ⟨k, -, hk, e, -⟩ | ⟨z0, -⟩
    · exact absurd e (hne k (by omega))
    rcases in_c b 10 13 14 10 13 rfl rfl rfl (by decide) (by decide) with ⟨k, -, hk, e, -⟩ | ⟨z1, -⟩
    · exact absurd e (hne k (by omega))
    rcases in_c b 20 23 24 20 23 rfl rfl rfl (by decide) (by decide) with ⟨k, -, hk, e, -⟩ | ⟨z2, -⟩
    · exact absurd e (hne k (by omega))
    rcases in_c b 30 32 33 30 32 rfl rfl rfl (by decide) (by decide) with ⟨k, -, hk, e, -⟩ | ⟨z3, -⟩
    · exact absurd e (hne k (by omega))
    rcases in_c b 40 42 43 40 42 rfl rfl rfl (by decide) (by decide) with ⟨k, -, hk, e, -⟩ | ⟨z4, -⟩
    · exact absurd e (hne k (by omega))
    rw [z0, z1, z2, z3, z4]
    rfl
set_option maxHeartbeats 4000000 in
theorem q_plan {M N : Mem} {f : Nat → Int32} (hRT : RT 5 M f) (hf : N 209 = f) (hIT : IT f) (a b : Int32) : ∃ r, mX10_plan a b M = some r ∧ mX11_plan a b N = some r := by
  unfold mX10_plan mX11_plan
  rcases isPlan_c a with ⟨p, -, hp, rfl, e1, e2⟩ | ⟨e1, e2⟩
  · have hp6 : p < 6 := by omega
    obtain ⟨r0, r1, r2, r3, r4, r5, r6, r7, r8⟩ := hRT.2.2.2.2.2 p hp6
    obtain ⟨i0, i1, i2, i3, i4, i5, i6, i7, i8, i9, i10⟩ := hIT.2.2.2.2.2 p hp6
    obtain ⟨g1, g2, g3, g4⟩ := GS_pl p hp6
    have h2 := i2.1; have h2' := i2.2; have h6 := i6.1; have h6' := i6.2; have h4 := i4.1; have h4' := i4.2
    simp only [e1, e2, bnp_some]
    rw [if_neg (by decide), if_neg (by decide), c_termsOf hp6]
    simp only [bnp_some]
    have m2 : (-2 : Int32) = nI 0 - nI 2 := by decide
    rw [show 5 + 4 + 5 * p = 9 + 5 * p by omega] at *
    rcases rng_c b 0 42 43 0 42 rfl rfl rfl (by decide) (by decide) with ⟨k, -, hk, rfl, c3, c4, c5⟩ | h | ⟨h1, h2, h3⟩
    · have q1 : ∀ j, j < 4 → mX10_tellOf (9 + 5 * p + 1) (nI (pT f p)) (nI j) M = some (if j < pT f p then fP f p (6 + j) else -2) := by
        intro j hj
        rw [c_tellOf g1 h2' (by omega) (by omega)]
        by_cases z : j < pT f p
        · rw [if_pos z, if_pos z, (r7 j z).1]
        · rw [if_neg z, if_neg z]
      have q2 : ∀ j, j < 4 → mX10_tellOf (9 + 5 * p + 2) (nI (pT f p)) (nI j) M = some (if j < pT f p then fP f p (10 + j) else -2) := by
        intro j hj
        rw [c_tellOf g2 h2' (by omega) (by omega)]
        by_cases z : j < pT f p
        · rw [if_pos z, if_pos z, (r7 j z).2]
        · rw [if_neg z, if_neg z]
      have q3 : ∀ j, j < 3 → mX10_tellOf (9 + 5 * p + 3) (nI (pK f p)) (nI j) M = some (if j < pK f p then fP f p (15 + j) else -2) := by
        intro j hj
        rw [c_tellOf g3 h6' (by omega) (by omega)]
        by_cases z : j < pK f p
        · rw [if_pos z, if_pos z, (r8 j z).1]
        · rw [if_neg z, if_neg z]
      have q4 : ∀ j, j < 3 → mX10_tellOf (9 + 5 * p + 4) (nI (pK f p)) (nI j) M = some (if j < pK f p then fP f p (18 + j) else -2) := by
        intro j hj
        rw [c_tellOf g4 h6' (by omega) (by omega)]
        by_cases z : j < pK f p
        · rw [if_pos z, if_pos z, (r8 j z).2]
        · rw [if_neg z, if_neg z]
      have pl : ∀ w, w < 24 → mX11_planOf (nI p) (nI w) N = some (fP f p w) := fun w hw => by rw [m_planOf hp6 hw, hf]
      have hk2 : k = 0 ∨ k = 1 ∨ k = 2 ∨ k = 3 ∨ k = 4 ∨ k = 5 ∨ k = 6 ∨ k = 7 ∨ k = 8 ∨ k = 9 ∨ k = 10 ∨ k = 11 ∨ k = 12 ∨ k = 13 ∨ k = 14 ∨ k = 15 ∨ k = 16 ∨ k = 17 ∨ k = 18 ∨ k = 19 ∨ k = 20 ∨ k = 21 ∨ k = 22 ∨ k = 23 ∨ k = 24 ∨ k = 25 ∨ k = 26 ∨ k = 27 ∨ k = 28 ∨ k = 29 ∨ k = 30 ∨ k = 31 ∨ k = 32 ∨ k = 33 ∨ k = 34 ∨ k = 35 ∨ k = 36 ∨ k = 37 ∨ k = 38 ∨ k = 39 ∨ k = 40 ∨ k = 41 ∨ k = 42 := by omega
      rcases hk2 with rfl | rfl | rfl | rfl | rfl | rfl | rfl | rfl | rfl | rfl | rfl | rfl | rfl | rfl | rfl | rfl | rfl | rfl | rfl | rfl | rfl | rfl | rfl | rfl | rfl | rfl | rfl | rfl | rfl | rfl | rfl | rfl | rfl | rfl | rfl | rfl | rfl | rfl | rfl | rfl | rfl | rfl | rfl
      · refine ⟨fP f p 0, ?_, ?_⟩
        · show some (M (9 + 5 * p) 0) = _
          rw [r0]
        · show (bnp (mX11_planOf (nI p) (nI 0) N) fun r18 => some r18) = _
          rw [pl 0 (by decide)]; rfl
      · refine ⟨fP f p 1, ?_, ?_⟩
        · show some (M (9 + 5 * p) 1) = _
          rw [r1]
        · show (bnp (mX11_planOf (nI p) (nI 1) N) fun r18 => some r18) = _
          rw [pl 1 (by decide)]; rfl
      · refine ⟨fP f p 2, ?_, ?_⟩
        · show some (M (9 + 5 * p) 2) = _
          rw [r2]
        · show (bnp (mX11_planOf (nI p) (nI 2) N) fun r18 => some r18) = _
          rw [pl 2 (by decide)]; rfl
      · refine ⟨fP f p 3, ?_, ?_⟩
        · show some (M (9 + 5 * p) 5) = _
          rw [r3]
        · show (bnp (mX11_planOf (nI p) (nI 3) N) fun r18 => some r18) = _
          rw [pl 3 (by decide)]; rfl
      · refine ⟨fP f p 4, ?_, ?_⟩
        · show (bnp (if M (9 + 5 * p) 6 = 0 then some 0 else some 1) fun r5 => some r5) = _
          rw [r4, h4]
          rcases (show pW f p = 0 ∨ pW f p = 1 by omega) with z | z
          · rw [z]; rfl
          · rw [z]; rfl
        · show (bnp (mX11_planOf (nI p) (nI 4) N) fun r18 => some r18) = _
          rw [pl 4 (by decide)]; rfl
      · refine ⟨fP f p 5, ?_, ?_⟩
        · show some (M (9 + 5 * p) 7) = _
          rw [r5]
        · show (bnp (mX11_planOf (nI p) (nI 5) N) fun r18 => some r18) = _
          rw [pl 5 (by decide)]; rfl
      · exact ⟨-1, rfl, rfl⟩
      · exact ⟨-1, rfl, rfl⟩
      · exact ⟨-1, rfl, rfl⟩
      · exact ⟨-1, rfl, rfl⟩
      · refine ⟨if 0 < pT f p then fP f p (6 + 0) else -2, ?_, ?_⟩
        · show (bnp (bnp (mX10_tellOf (9 + 5 * p + 1) (M (9 + 5 * p) 2) (nI 0) M) fun r11 => some r11) fun r5 => some r5) = _
          rw [r2, h2, q1 0 (by decide)]; rfl
        · show (bnp (mX11_planOf (nI p) (nI 2) N) fun r1 => if nI 0 < r1 then (bnp (mX11_planOf (nI p) (nI 6) N) fun r2 => some r2) else some (-2)) = _
          rw [pl 2 (by decide), h2, pl 6 (by decide)]
          simp only [bnp_some]
          by_cases z : 0 < pT f p
          · rw [if_pos ((nI_ltI (by omega) (by omega)).mpr z), if_pos z]
          · rw [if_neg (fun y => z ((nI_ltI (by omega) (by omega)).mp y)), if_neg z]
      · refine ⟨if 1 < pT f p then fP f p (6 + 1) else -2, ?_, ?_⟩
        · show (bnp (bnp (mX10_tellOf (9 + 5 * p + 1) (M (9 + 5 * p) 2) (nI 1) M) fun r11 => some r11) fun r5 => some r5) = _
          rw [r2, h2, q1 1 (by decide)]; rfl
        · show (bnp (mX11_planOf (nI p) (nI 2) N) fun r1 => if nI 1 < r1 then (bnp (mX11_planOf (nI p) (nI 7) N) fun r2 => some r2) else some (-2)) = _
          rw [pl 2 (by decide), h2, pl 7 (by decide)]
          simp only [bnp_some]
          by_cases z : 1 < pT f p
          · rw [if_pos ((nI_ltI (by omega) (by omega)).mpr z), if_pos z]
          · rw [if_neg (fun y => z ((nI_ltI (by omega) (by omega)).mp y)), if_neg z]
      · refine ⟨if 2 < pT f p then fP f p (6 + 2) else -2, ?_, ?_⟩
        · show (bnp (bnp (mX10_tellOf (9 + 5 * p + 1) (M (9 + 5 * p) 2) (nI 2) M) fun r11 => some r11) fun r5 => some r5) = _
          rw [r2, h2, q1 2 (by decide)]; rfl
        · show (bnp (mX11_planOf (nI p) (nI 2) N) fun r1 => if nI 2 < r1 then (bnp (mX11_planOf (nI p) (nI 8) N) fun r2 => some r2) else some (-2)) = _
          rw [pl 2 (by decide), h2, pl 8 (by decide)]
          simp only [bnp_some]
          by_cases z : 2 < pT f p
          · rw [if_pos ((nI_ltI (by omega) (by omega)).mpr z), if_pos z]
          · rw [if_neg (fun y => z ((nI_ltI (by omega) (by omega)).mp y)), if_neg z]
      · refine ⟨if 3 < pT f p then fP f p (6 + 3) else -2, ?_, ?_⟩
        · show (bnp (bnp (mX10_tellOf (9 + 5 * p + 1) (M (9 + 5 * p) 2) (nI 3) M) fun r11 => some r11) fun r5 => some r5) = _
          rw [r2, h2, q1 3 (by decide)]; rfl
        · show (bnp (mX11_planOf (nI p) (nI 2) N) fun r1 => if nI 3 < r1 then (bnp (mX11_planOf (nI p) (nI 9) N) fun r2 => some r2) else some (-2)) = _
          rw [pl 2 (by decide), h2, pl 9 (by decide)]
          simp only [bnp_some]
          by_cases z : 3 < pT f p
          · rw [if_pos ((nI_ltI (by omega) (by omega)).mpr z), if_pos z]
          · rw [if_neg (fun y => z ((nI_ltI (by omega) (by omega)).mp y)), if_neg z]
      · exact ⟨-1, rfl, rfl⟩
      · exact ⟨-1, rfl, rfl⟩
      · exact ⟨-1, rfl, rfl⟩
      · exact ⟨-1, rfl, rfl⟩
      · exact ⟨-1, rfl, rfl⟩
      · exact ⟨-1, rfl, rfl⟩
      · refine ⟨if 0 < pT f p then fP f p (10 + 0) else -2, ?_, ?_⟩
        · show (bnp (bnp (mX10_tellOf (9 + 5 * p + 2) (M (9 + 5 * p) 2) (nI 0) M) fun r11 => some r11) fun r5 => some r5) = _
          rw [r2, h2, q2 0 (by decide)]; rfl
        · show (bnp (mX11_planOf (nI p) (nI 2) N) fun r1 => if nI 0 < r1 then (bnp (mX11_planOf (nI p) (nI 10) N) fun r2 => some r2) else some (-2)) = _
          rw [pl 2 (by decide), h2, pl 10 (by decide)]
          simp only [bnp_some]
          by_cases z : 0 < pT f p
          · rw [if_pos ((nI_ltI (by omega) (by omega)).mpr z), if_pos z]
          · rw [if_neg (fun y => z ((nI_ltI (by omega) (by omega)).mp y)), if_neg z]
      · refine ⟨if 1 < pT f p then fP f p (10 + 1) else -2, ?_, ?_⟩
        · show (bnp (bnp (mX10_tellOf (9 + 5 * p + 2) (M (9 + 5 * p) 2) (nI 1) M) fun r11 => some r11) fun r5 => some r5) = _
          rw [r2, h2, q2 1 (by decide)]; rfl
        · show (bnp (mX11_planOf (nI p) (nI 2) N) fun r1 => if nI 1 < r1 then (bnp (mX11_planOf (nI p) (nI 11) N) fun r2 => some r2) else some (-2)) = _
          rw [pl 2 (by decide), h2, pl 11 (by decide)]
          simp only [bnp_some]
          by_cases z : 1 < pT f p
          · rw [if_pos ((nI_ltI (by omega) (by omega)).mpr z), if_pos z]
          · rw [if_neg (fun y => z ((nI_ltI (by omega) (by omega)).mp y)), if_neg z]
      · refine ⟨if 2 < pT f p then fP f p (10 + 2) else -2, ?_, ?_⟩
        · show (bnp (bnp (mX10_tellOf (9 + 5 * p + 2) (M (9 + 5 * p) 2) (nI 2) M) fun r11 => some r11) fun r5 => some r5) = _
          rw [r2, h2, q2 2 (by decide)]; rfl
        · show (bnp (mX11_planOf (nI p) (nI 2) N) fun r1 => if nI 2 < r1 then (bnp (mX11_planOf (nI p) (nI 12) N) fun r2 => some r2) else some (-2)) = _
          rw [pl 2 (by decide), h2, pl 12 (by decide)]
          simp only [bnp_some]
          by_cases z : 2 < pT f p
          · rw [if_pos ((nI_ltI (by omega) (by omega)).mpr z), if_pos z]
          · rw [if_neg (fun y => z ((nI_ltI (by omega) (by omega)).mp y)), if_neg z]
      · refine ⟨if 3 < pT f p then fP f p (10 + 3) else -2, ?_, ?_⟩
        · show (bnp (bnp (mX10_tellOf (9 + 5 * p + 2) (M (9 + 5 * p) 2) (nI 3) M) fun r11 => some r11) fun r5 => some r5) = _
          rw [r2, h2, q2 3 (by decide)]; rfl
        · show (bnp (mX11_planOf (nI p) (nI 2) N) fun r1 => if nI 3 < r1 then (bnp (mX11_planOf (nI p) (nI 13) N) fun r2 => some r2) else some (-2)) = _
          rw [pl 2 (by decide), h2, pl 13 (by decide)]
          simp only [bnp_some]
          by_cases z : 3 < pT f p
          · rw [if_pos ((nI_ltI (by omega) (by omega)).mpr z), if_pos z]
          · rw [if_neg (fun y => z ((nI_ltI (by omega) (by omega)).mp y)), if_neg z]
      · exact ⟨-1, rfl, rfl⟩
      · exact ⟨-1, rfl, rfl⟩
      · exact ⟨-1, rfl, rfl⟩
      · exact ⟨-1, rfl, rfl⟩
      · exact ⟨-1, rfl, rfl⟩
      · exact ⟨-1, rfl, rfl⟩
      · refine ⟨if 0 < pK f p then fP f p (15 + 0) else -2, ?_, ?_⟩
        · show (bnp (bnp (mX10_tellOf (9 + 5 * p + 3) (M (9 + 5 * p) 8) (nI 0) M) fun r11 => some r11) fun r5 => some r5) = _
          rw [r6, h6, q3 0 (by decide)]; rfl
        · show (bnp (mX11_planOf (nI p) (nI 14) N) fun r1 => if nI 0 < r1 then (bnp (mX11_planOf (nI p) (nI 15) N) fun r2 => some r2) else some (-2)) = _
          rw [pl 14 (by decide), h6, pl 15 (by decide)]
          simp only [bnp_some]
          by_cases z : 0 < pK f p
          · rw [if_pos ((nI_ltI (by omega) (by omega)).mpr z), if_pos z]
          · rw [if_neg (fun y => z ((nI_ltI (by omega) (by omega)).mp y)), if_neg z]
      · refine ⟨if 1 < pK f p then fP f p (15 + 1) else -2, ?_, ?_⟩
        · show (bnp (bnp (mX10_tellOf (9 + 5 * p + 3) (M (9 + 5 * p) 8) (nI 1) M) fun r11 => some r11) fun r5 => some r5) = _
          rw [r6, h6, q3 1 (by decide)]; rfl
        · show (bnp (mX11_planOf (nI p) (nI 14) N) fun r1 => if nI 1 < r1 then (bnp (mX11_planOf (nI p) (nI 16) N) fun r2 => some r2) else some (-2)) = _
          rw [pl 14 (by decide), h6, pl 16 (by decide)]
          simp only [bnp_some]
          by_cases z : 1 < pK f p
          · rw [if_pos ((nI_ltI (by omega) (by omega)).mpr z), if_pos z]
          · rw [if_neg (fun y => z ((nI_ltI (by omega) (by omega)).mp y)), if_neg z]
      · refine ⟨if 2 < pK f p then fP f p (15 + 2) else -2, ?_, ?_⟩
        · show (bnp (bnp (mX10_tellOf (9 + 5 * p + 3) (M (9 + 5 * p) 8) (nI 2) M) fun r11 => some r11) fun r5 => some r5) = _
          rw [r6, h6, q3 2 (by decide)]; rfl
        · show (bnp (mX11_planOf (nI p) (nI 14) N) fun r1 => if nI 2 < r1 then (bnp (mX11_planOf (nI p) (nI 17) N) fun r2 => some r2) else some (-2)) = _
          rw [pl 14 (by decide), h6, pl 17 (by decide)]
          simp only [bnp_some]
          by_cases z : 2 < pK f p
          · rw [if_pos ((nI_ltI (by omega) (by omega)).mpr z), if_pos z]
          · rw [if_neg (fun y => z ((nI_ltI (by omega) (by omega)).mp y)), if_neg z]
      · exact ⟨-1, rfl, rfl⟩
      · exact ⟨-1, rfl, rfl⟩
      · exact ⟨-1, rfl, rfl⟩
      · exact ⟨-1, rfl, rfl⟩
      · exact ⟨-1, rfl, rfl⟩
      · exact ⟨-1, rfl, rfl⟩
      · exact ⟨-1, rfl, rfl⟩
      · refine ⟨if 0 < pK f p then fP f p (18 + 0) else -2, ?_, ?_⟩
        · show (bnp (bnp (mX10_tellOf (9 + 5 * p + 4) (M (9 + 5 * p) 8) (nI 0) M) fun r11 => some r11) fun r5 => some r5) = _
          rw [r6, h6, q4 0 (by decide)]; rfl
        · show (bnp (mX11_planOf (nI p) (nI 14) N) fun r1 => if nI 0 < r1 then (bnp (mX11_planOf (nI p) (nI 18) N) fun r2 => some r2) else some (-2)) = _
          rw [pl 14 (by decide), h6, pl 18 (by decide)]
          simp only [bnp_some]
          by_cases z : 0 < pK f p
          · rw [if_pos ((nI_ltI (by omega) (by omega)).mpr z), if_pos z]
          · rw [if_neg (fun y => z ((nI_ltI (by omega) (by omega)).mp y)), if_neg z]
      · refine ⟨if 1 < pK f p then fP f p (18 + 1) else -2, ?_, ?_⟩
        · show (bnp (bnp (mX10_tellOf (9 + 5 * p + 4) (M (9 + 5 * p) 8) (nI 1) M) fun r11 => some r11) fun r5 => some r5) = _
          rw [r6, h6, q4 1 (by decide)]; rfl
        · show (bnp (mX11_planOf (nI p) (nI 14) N) fun r1 => if nI 1 < r1 then (bnp (mX11_planOf (nI p) (nI 19) N) fun r2 => some r2) else some (-2)) = _
          rw [pl 14 (by decide), h6, pl 19 (by decide)]
          simp only [bnp_some]
          by_cases z : 1 < pK f p
          · rw [if_pos ((nI_ltI (by omega) (by omega)).mpr z), if_pos z]
          · rw [if_neg (fun y => z ((nI_ltI (by omega) (by omega)).mp y)), if_neg z]
      · refine ⟨if 2 < pK f p then fP f p (18 + 2) else -2, ?_, ?_⟩
        · show (bnp (bnp (mX10_tellOf (9 + 5 * p + 4) (M (9 + 5 * p) 8) (nI 2) M) fun r11 => some r11) fun r5 => some r5) = _
          rw [r6, h6, q4 2 (by decide)]; rfl
        · show (bnp (mX11_planOf (nI p) (nI 14) N) fun r1 => if nI 2 < r1 then (bnp (mX11_planOf (nI p) (nI 20) N) fun r2 => some r2) else some (-2)) = _
          rw [pl 14 (by decide), h6, pl 20 (by decide)]
          simp only [bnp_some]
          by_cases z : 2 < pK f p
          · rw [if_pos ((nI_ltI (by omega) (by omega)).mpr z), if_pos z]
          · rw [if_neg (fun y => z ((nI_ltI (by omega) (by omega)).mp y)), if_neg z]
    · have hne : ∀ j, j ≤ 42 → ¬ b = nI j := by
        intro j hj e
        subst e
        exact absurd h (by rw [show (0 : Int32) = nI 0 from rfl, nI_ltI (by omega) (by omega)]; omega)
      exact plan_out hne
    · have hne : ∀ j, j ≤ 42 → ¬ b = nI j := by
        intro j hj e
        subst e
        exact absurd h3 (by rw [show (43 : Int32) = nI 43 from rfl, nI_leI (by omega) (by omega)]; omega)
      exact plan_out hne
  · simp [e1, e2, bnp_some]
end
section
/-! the state: the row of numbers, and what the cells say of it -/
def stF (N : Mem) (g : Nat → Int32) : Mem := fun o => if o = 209 then g else N o
theorem stF_f (N : Mem) (g : Nat → Int32) : stF N g 209 = g := rfl
theorem stF_o (N : Mem) (g : Nat → Int32) {o : Nat} (h : o ≠ 209) : stF N g o = N o := if_neg h
theorem stF_self (N : Mem) : stF N (N 209) = N := by funext o; unfold stF; split; (next h => rw [h]); rfl
theorem stF_stF (N : Mem) (g h : Nat → Int32) : stF (stF N g) h = stF N h := by funext o; unfold stF; split <;> rfl
theorem upd2_stF (N : Mem) (g : Nat → Int32) (k : Nat) (v : Int32) : upd2 (stF N g) 209 k v = stF N (upd g k v) := by
  funext o i
  unfold upd2 stF upd
  by_cases h : o = 209
  · subst h; by_cases h2 : i = k <;> simp [h2]
  · simp [h]
theorem CalM_stF {N : Mem} {g : Nat → Int32} (h : CalM N) : CalM (stF N g) := fun m hm => by rw [stF_o N g (by decide)]; exact h m hm
def tD (f : Nat → Int32) : Nat := na (f 0)
def sz (f : Nat → Int32) : Nat := na (f 1)
def cL (f : Nat → Int32) : Nat := na (f 4)
def aB (f : Nat → Int32) (x : Nat) : Nat := na (fA f x 1)
def aN (f : Nat → Int32) (x : Nat) : Nat := na (fA f x 2)
def aQ (f : Nat → Int32) (x : Nat) : Nat := na (fA f x 3)
def aD (f : Nat → Int32) (x : Nat) : Nat := na (fA f x 4)
def aU (f : Nat → Int32) (x : Nat) : Nat := na (fA f x 6)
def aZ (f : Nat → Int32) (x : Nat) : Nat := na (fA f x 7)
def aX (f : Nat → Int32) (x : Nat) : Nat := na (fA f x 8)
def aP (f : Nat → Int32) (x : Nat) : Nat := na (fA f x 9)
def aS (f : Nat → Int32) (x : Nat) : Nat := na (fA f x 10)
/-- an account that has begun -/
def IA1 (f : Nat → Int32) (x : Nat) : Prop :=
  fA f x 0 = nI 1 ∧ isM (fA f x 1) (aB f x) 5 ∧ isM (fA f x 2) (aN f x) 31 ∧ 1 ≤ aN f x ∧ isM (fA f x 3) (aQ f x) 400 ∧ isM (fA f x 4) (aD f x) 3652 ∧ fA f x 5 = iI (NT (aN f x) (aD f x)) ∧ NT (aN f x) (aD f x) ≤ 3652 ∧
  isM (fA f x 6) (aU f x) 9999 ∧ isM (fA f x 7) (aZ f x) 1 ∧ isM (fA f x 8) (aX f x) 1 ∧ isM (fA f x 9) (aP f x) 99999999 ∧ isM (fA f x 10) (aS f x) 9 ∧ 1 ≤ aS f x ∧ aD f x ≤ tD f ∧ aQ f x ≤ sz f
def IA (f : Nat → Int32) (x : Nat) : Prop := (∀ w, w < 12 → fA f x w = nI 0) ∨ IA1 f x
def eK (f : Nat → Int32) (i : Nat) : Nat := na (fE f i 0)
def eO (f : Nat → Int32) (i : Nat) : Nat := na (fE f i 1)
def eW (f : Nat → Int32) (i : Nat) : Nat := na (fE f i 2)
def eQ (f : Nat → Int32) (i : Nat) : Nat := na (fE f i 3)
def eF (f : Nat → Int32) (i : Nat) : Nat := na (fE f i 4)
def eT (f : Nat → Int32) (i : Nat) : Nat := na (fE f i 5)
def eP (f : Nat → Int32) (i : Nat) : Nat := na (fE f i 6)
def IE (f : Nat → Int32) (i : Nat) : Prop :=
  isM (fE f i 0) (eK f i) 5 ∧ isM (fE f i 1) (eO f i) 5 ∧ isM (fE f i 2) (eW f i) 3652 ∧ isM (fE f i 3) (eQ f i) 400 ∧ isM (fE f i 4) (eF f i) 3652 ∧ isM (fE f i 5) (eT f i) 3652 ∧ isM (fE f i 6) (eP f i) 5 ∧
  eF f i ≤ eT f i ∧ (eK f i ≤ 1 → eT f i ≤ eF f i + 31 ∧ -899991 ≤ (fE f i 7).toInt ∧ (fE f i 7).toInt ≤ 899991) ∧ -2147483647 ≤ (fE f i 7).toInt ∧
  (fE f i 8 = -2 ∨ ∃ k, k < sz f ∧ fE f i 8 = nI k) ∧ (fE f i 9 = -2 ∨ ∃ k, k < sz f ∧ fE f i 9 = nI k) ∧ fA f (eO f i) 0 = nI 1
def INV0 (f : Nat → Int32) : Prop :=
  isM (f 0) (tD f) 3652 ∧ isM (f 1) (sz f) 400 ∧ isM (f 4) (cL f) 20 ∧ IT f ∧ (∀ x, x < 6 → IA f x) ∧ ∀ i, i < sz f → IE f i
/-- its PERIOD ends behind TODAY, if it runs -/
def RUN (f : Nat → Int32) (x : Nat) : Prop := fA f x 0 = nI 1 → aX f x = 0 → (tD f : Int) < NT (aN f x) (aD f x)
def INV (f : Nat → Int32) : Prop := INV0 f ∧ ∀ x, x < 6 → RUN f x
/-- ALL of an account -/
def allS (f : Nat → Int32) (x : Nat) : Int32 := sumR (fun i => if fE f i 1 = nI x then fE f i 7 else 0) 0 (sz f)
def RA (a x : Nat) (M : Mem) (f : Nat → Int32) : Prop :=
  M a 0 = nI x ∧ M a 1 = fA f x 0 ∧ M a 2 = fA f x 8 ∧ M a 3 = fA f x 7 ∧ M a 4 = fA f x 1 ∧ M a 5 = fA f x 2 ∧ M a 6 = fA f x 10 ∧ M a 7 = fA f x 3 ∧ M a 8 = fA f x 4 ∧ M a 9 = fA f x 5 ∧
  (fA f x 0 = nI 1 → M a 10 = iI (LT (aN f x) (aD f x))) ∧ M a 11 = fA f x 6 ∧ M a 12 = fA f x 9 ∧ M a 13 = allS f x
def RE (e : Nat) (M : Mem) (f : Nat → Int32) : Prop :=
  M e 0 = f 1 ∧ ∀ i, i < sz f → M (e + 1) i = fE f i 0 ∧ M (e + 2) i = fE f i 1 ∧ M (e + 3) i = fE f i 2 ∧ M (e + 4) i = fE f i 3 ∧ M (e + 5) i = fE f i 4 ∧ M (e + 6) i = fE f i 5 ∧ M (e + 7) i = fE f i 6 ∧ M (e + 8) i = fE f i 7 ∧ M (e + 9) i = fE f i 8 ∧ M (e + 10) i = fE f i 9
def RS (b : Nat) (M : Mem) (f : Nat → Int32) : Prop :=
  M b 4 = f 0 ∧ M (b + 1) 7 = f 4 ∧ RT (b + 1) M f ∧ (∀ x, x < 6 → RA (b + 35 + 12 + x) x M f) ∧ RE (b + 36) M f
/-- an ENTRY is written -/
def wrF (f : Nat → Int32) (k x : Nat) (fr to c : Int32) : Nat → Int32 :=
  let s := 250 + 10 * sz f
  upd (upd (upd (upd (upd (upd (upd (upd (upd (upd (upd f s (nI k)) (s + 1) (nI x)) (s + 2) (f 0)) (s + 3) (fA f x 3)) (s + 4) fr) (s + 5) to) (s + 6) (fA f x 1)) (s + 7) c) (s + 8) (-2)) (s + 9) (-2)) 1 (nI (sz f + 1))
theorem wr_lo {f : Nat → Int32} {k x j : Nat} {fr to c : Int32} (h : j < 250) (h1 : j ≠ 1) : wrF f k x fr to c j = f j := by
  unfold wrF
  simp (disch := omega) only [upd_n]
theorem wr_1 {f : Nat → Int32} {k x : Nat} {fr to c : Int32} : wrF f k x fr to c 1 = nI (sz f + 1) := by
  unfold wrF
  exact upd_s _ _ _
theorem wr_sz {f : Nat → Int32} {k x : Nat} {fr to c : Int32} (h : sz f < 400) : sz (wrF f k x fr to c) = sz f + 1 := by
  show na (wrF f k x fr to c 1) = _
  rw [wr_1, na, nI_clamp (by omega)]
theorem wr_E {f : Nat → Int32} {k x i w : Nat} {fr to c : Int32} (h : i < sz f) (hw : w < 10) : fE (wrF f k x fr to c) i w = fE f i w := by
  unfold wrF fE
  simp (disch := omega) only [upd_n]
theorem wr_A {f : Nat → Int32} {k x y w : Nat} {fr to c : Int32} (h : y < 6) (hw : w < 12) : fA (wrF f k x fr to c) y w = fA f y w := wr_lo (by omega) (by omega)
theorem wr_P {f : Nat → Int32} {k x y w : Nat} {fr to c : Int32} (h : y < 6) (hw : w < 24) : fP (wrF f k x fr to c) y w = fP f y w := wr_lo (by omega) (by omega)
theorem wr_new {f : Nat → Int32} {k x : Nat} {fr to c : Int32} : fE (wrF f k x fr to c) (sz f) 0 = nI k ∧ fE (wrF f k x fr to c) (sz f) 1 = nI x ∧ fE (wrF f k x fr to c) (sz f) 2 = f 0 ∧ fE (wrF f k x fr to c) (sz f) 3 = fA f x 3 ∧ fE (wrF f k x fr to c) (sz f) 4 = fr ∧ fE (wrF f k x fr to c) (sz f) 5 = to ∧ fE (wrF f k x fr to c) (sz f) 6 = fA f x 1 ∧ fE (wrF f k x fr to c) (sz f) 7 = c ∧ fE (wrF f k x fr to c) (sz f) 8 = -2 ∧ fE (wrF f k x fr to c) (sz f) 9 = -2 := by
  unfold wrF fE
  refine ⟨?_, ?_, ?_, ?_, ?_, ?_, ?_, ?_, ?_, ?_⟩ <;> simp (disch := omega) only [upd_n, upd_s, Nat.add_zero]
theorem m_ofS {N : Mem} {f : Nat → Int32} {x w : Nat} (hx : x < 6) (hw : w < 12) : mX11_of (nI x) (nI w) (stF N f) = some (fA f x w) := m_of hx hw
theorem m_sets {N : Mem} {f : Nat → Int32} {x w : Nat} {v : Int32} (hx : x < 6) (hw : w < 12) : mX11_sets (nI x) (nI w) v (stF N f) = some (stF N (upd f (170 + 12 * x + w) v)) := by
  unfold mX11_sets
  simp (disch := omega) only [nI_lit, nI_add, pk_mul, nI_clamp, nI_leI, nI_ltI, nI_eq, nI_t0, nI_le0, nI_e0, nI_0le, nI_lt0, chk_n, upd2_stF]
theorem m_writes {N : Mem} {f : Nat → Int32} {k x : Nat} {fr to c : Int32} (h1 : f 1 = nI (sz f)) (hs : sz f < 400) (hx : x < 6) : mX11_writes (nI k) (nI x) fr to c (stF N f) = some (c, stF N (wrF f k x fr to c)) := by
  have e2 : (-2 : Int32) = -nI 2 := by decide
  unfold mX11_writes
  simp (disch := omega) only [nI_lit, nI_add, pk_mul, nI_clamp, nI_leI, nI_ltI, nI_eq, nI_t0, nI_le0, nI_e0, nI_0le, nI_lt0, chk_n, lt_eq, stF_f, h1, upd2_stF, upd_n, m_ofS, bnp_some]
  unfold wrF
  simp (disch := omega) only [fA, upd_n, Nat.add_zero, e2]
end
section
/-! WORTH and PART of it, of both sides -/
def ofs (f : Nat → Int32) (p : Nat) (s : Int32) : Nat → Nat → Int32 → Int32
  | _, 0, a => a
  | i, d + 1, a => ofs f p s (i + 1) d (if s < fP f p (15 + i) then a else fP f p (18 + i))
theorem ofs_s (f : Nat → Int32) (p : Nat) (s : Int32) (i d : Nat) (a : Int32) : ofs f p s i (d + 1) a = ofs f p s (i + 1) d (if s < fP f p (15 + i) then a else fP f p (18 + i)) := rfl
def W1 (f : Nat → Int32) (x p : Nat) : Int32 := fP f p 0 * fA f x 10 - fP f p 0 * fA f x 10 * ofs f p (fA f x 10) 0 (pK f p) (nI 0) / nI 100
def W2 (f : Nat → Int32) (x p : Nat) : Int32 := if f 3 ≤ fA f x 3 then W1 f x p else W1 f x p - W1 f x p * f 2 / nI 100
def WO (f : Nat → Int32) (x p : Nat) : Int32 := if fA f x 7 = nI 1 then W2 f x p * fP f p 5 / nI 100 else W2 f x p
theorem m_wo2 {N : Mem} {f : Nat → Int32} {x p n : Nat} {w : Int32} (hx : x < 6) (hp : p < 6) : mX11_worthBy_c110 n (nI x) (nI p) w (stF N f) = some (if fA f x 7 = nI 1 then w * fP f p 5 / nI 100 else w) := by
  unfold mX11_worthBy_c110
  simp (disch := omega) only [nI_lit, m_ofS, m_planOf, stF_f, bnp_some]
  split <;> rfl
theorem m_wo {N : Mem} {f : Nat → Int32} {x p n : Nat} {pr : Int32} (hx : x < 6) (hp : p < 6) (hK : isM (fP f p 14) (pK f p) 3) : ∀ (d k i : Nat) (a : Int32), i + d = pK f p → d < k → mX11_worthBy_c21 n k (nI x) (nI p) pr a (nI i) (stF N f) =
    some (if fA f x 7 = nI 1 then (if f 3 ≤ fA f x 3 then pr - pr * ofs f p (fA f x 10) i d a / nI 100 else (pr - pr * ofs f p (fA f x 10) i d a / nI 100) - (pr - pr * ofs f p (fA f x 10) i d a / nI 100) * f 2 / nI 100) * fP f p 5 / nI 100 else (if f 3 ≤ fA f x 3 then pr - pr * ofs f p (fA f x 10) i d a / nI 100 else (pr - pr * ofs f p (fA f x 10) i d a / nI 100) - (pr - pr * ofs f p (fA f x 10) i d a / nI 100) * f 2 / nI 100))
  | d, 0, _, _, _, h => absurd h (Nat.not_lt_zero _)
  | 0, k + 1, i, a, e, h => by
    have h1 := hK.1; have h2 := hK.2
    unfold mX11_worthBy_c21
    simp (disch := omega) only [nI_lit, m_ofS, m_planOf, stF_f, bnp_some, chk_n, nI_clamp, m_wo2]
    rw [h1]
    simp (disch := omega) only [nI_leI]
    rw [if_pos (by omega)]
    unfold ofs
    by_cases q : f 3 ≤ fA f x 3
    · rw [if_pos q, if_pos q]
    · rw [if_neg q, if_neg q]
  | d + 1, k + 1, i, a, e, h => by
    have h1 := hK.1; have h2 := hK.2
    have ih := fun a => m_wo (N := N) (n := n) (pr := pr) hx hp hK d k (i + 1) a (by omega) (by omega)
    unfold mX11_worthBy_c21
    simp (disch := omega) only [nI_lit, m_ofS, m_planOf, stF_f, bnp_some, chk_n, nI_clamp, nI_add, ih]
    rw [h1]
    simp (disch := omega) only [nI_leI]
    rw [if_neg (by omega), ofs_s]
    by_cases q : fA f x 10 < fP f p (15 + i)
    · simp only [q, if_true]
    · simp only [q, if_false]
theorem m_worth {N : Mem} {f : Nat → Int32} {x p n : Nat} (hx : x < 6) (hp : p < 6) (hI : IP f p) (hn : 200 ≤ n) : mX11_worthBy n (nI x) (nI p) (stF N f) = some (WO f x p) := by
  unfold mX11_worthBy
  have hK := hI.2.2.2.2.2.2.1
  have hK2 := hK.2
  simp (disch := omega) only [nI_lit, m_ofS, m_planOf, stF_f, bnp_some]
  rw [m_wo hx hp hK (pK f p) n 0 _ (by omega) (by omega)]
  rfl
theorem c_price {M : Mem} {f : Nat → Int32} {q p n : Nat} {s : Int32} (hR : RP q p M f) (hI : IP f p) : ∀ (d k i : Nat) (a : Int32), i + d = pK f p → d < k → mX7_priceOf_c4 n k q s a (nI i) M = some (fP f p 0 * s - fP f p 0 * s * ofs f p s i d a / nI 100)
  | d, 0, _, _, _, h => absurd h (Nat.not_lt_zero _)
  | 0, k + 1, i, a, e, h => by
    have h1 := hI.2.2.2.2.2.2.1.1; have h2 := hI.2.2.2.2.2.2.1.2
    unfold mX7_priceOf_c4
    rw [hR.2.2.2.2.2.2.1, h1, hR.1]
    simp (disch := omega) only [nI_lit, nI_leI]
    rw [if_pos (by omega)]
    rfl
  | d + 1, k + 1, i, a, e, h => by
    have h1 := hI.2.2.2.2.2.2.1.1; have h2 := hI.2.2.2.2.2.2.1.2
    have h8 := hR.2.2.2.2.2.2.2.2 i (by omega)
    have ih := fun a => c_price (n := n) (s := s) hR hI d k (i + 1) a (by omega) (by omega)
    unfold mX7_priceOf_c4
    rw [hR.2.2.2.2.2.2.1, h1, hR.1]
    simp (disch := omega) only [nI_lit, nI_leI, chk_n, nI_clamp, nI_add, ih]
    rw [if_neg (by omega), if_neg (by omega), h8.1, h8.2, ofs_s]
    by_cases z : s < fP f p (15 + i)
    · simp only [z, if_true]
    · simp only [z, if_false]
theorem c_worth {M : Mem} {f : Nat → Int32} {t a x p n : Nat} (hT : RT t M f) (hIT : IT f) (hA : RA a x M f) (hp : p < 6) (hZ : isM (fA f x 7) (aZ f x) 1) (hn : 200 ≤ n) : mX9_worth n t (nI p) a M = some (WO f x p) := by
  obtain ⟨a0, a1, a2, a3, a4, a5, a6, a7, a8, a9, a10, a11, a12, a13⟩ := hA
  have hR := hT.2.2.2.2.2 p hp
  have hI := hIT.2.2.2.2.2 p hp
  have hK2 := hI.2.2.2.2.2.2.1.2
  have hz1 := hZ.1; have hz2 := hZ.2
  unfold mX9_worth mX7_priceOf
  rw [c_termsOf hp]
  simp only [bnp_some, nI_lit]
  rw [c_price hR hI (pK f p) n 0 _ (by omega) (by omega)]
  simp only [bnp_some]
  rw [hT.2.1, hT.1, a6, a7, a3, hR.2.2.2.2.2.1]
  unfold WO W2 W1
  rw [hz1]
  have e01 : (nI 0 = nI 1) = False := eq_false (by decide)
  have e10 : (nI 1 = nI 0) = False := eq_false (by decide)
  rcases (show aZ f x = 0 ∨ aZ f x = 1 by omega) with z | z
  · rw [z]
    by_cases y : f 3 ≤ fA f x 3
    · simp only [y, if_true, e01, if_false]
    · simp only [y, if_true, e01, if_false]
  · rw [z]
    by_cases y : f 3 ≤ fA f x 3
    · simp only [y, if_true, e10, if_false]
    · simp only [y, if_true, e10, if_false]
/-- what is left of w cents from a day to the end of the span of d0 -/
def PTE (w : Int32) (an d0 : Nat) (dy : Int32) : Int32 := w * (iI (NT an d0) - iI (LT an d0)) / (iI (NT an d0) - iI (LT an d0)) - w * (dy - iI (LT an d0)) / (iI (NT an d0) - iI (LT an d0))
theorem dvi_i {α : Type} {z : Int} {x : Option α} (h : z ≠ 0) (h1 : -2147483648 ≤ z) (h2 : z < 2147483648) : dvi (iI z) x = x := by
  unfold dvi
  have e : (iI z = 0) = (z = 0) := iI_eq h1 h2 (b := 0) (by omega) (by omega)
  rw [if_neg (by rw [e]; exact h)]
theorem c_slice {an d0 : Nat} {w dy : Int32} (h1 : 1 ≤ an) (h : d0 ≤ 3652) : mX3_slice w (iI (NT an d0) - iI (LT an d0)) (dy - iI (LT an d0)) (iI (NT an d0) - iI (LT an d0)) = some (PTE w an d0 dy) := by
  obtain ⟨b1, b2, b3, b4, b5⟩ := LT_NT h1 h
  have e : iI (NT an d0) - iI (LT an d0) = iI (NT an d0 - LT an d0) := iI_sub _ _
  have e1 : (1 : Int32) ≤ iI (NT an d0 - LT an d0) := by
    have : ((1 : Int32) ≤ iI (NT an d0 - LT an d0)) = ((1 : Int) ≤ NT an d0 - LT an d0) := iI_le (a := 1) (by omega) (by omega) (by omega) (by omega)
    rw [this]; omega
  unfold mX3_slice PTE
  rw [e, if_pos e1, dvi_i (by omega) (by omega) (by omega), dvi_i (by omega) (by omega) (by omega)]
theorem m_slice {N : Mem} {an d0 dy n : Nat} {w to : Int32} (hM : CalM N) (h1 : 1 ≤ an) (h2 : an ≤ 31) (h : d0 ≤ 3652) (hd : dy ≤ 3652) (hdl : d0 ≤ dy) (hdn : (dy : Int) < NT an d0) (hto : to = iI (NT an d0)) (hn : 200 ≤ n) : mX11_slice n w (nI an) (nI dy) to N = some (PTE w an d0 (nI dy)) := by
  obtain ⟨b1, b2, b3, b4, b5⟩ := LT_NT h1 h
  obtain ⟨s1, s2⟩ := span_same h1 h hd (by omega) hdn
  have e : iI (NT an d0) - iI (LT an d0) = iI (NT an d0 - LT an d0) := iI_sub _ _
  unfold mX11_slice PTE
  rw [mod_lt hM h1 h2 hd hn, mod_nt hM h1 h2 hd hn, s1, s2, hto]
  simp only [bnp_some]
  rw [e, dvi_i (by omega) (by omega) (by omega), dvi_i (by omega) (by omega) (by omega)]
theorem c_part {M : Mem} {f : Nat → Int32} {a x : Nat} {w dy : Int32} (hA : RA a x M f) (hI : IA1 f x) : mX0_partToEnd a w dy M = some (PTE w (aN f x) (aD f x) dy) := by
  obtain ⟨a0, a1, a2, a3, a4, a5, a6, a7, a8, a9, a10, a11, a12, a13⟩ := hA
  obtain ⟨i0, i1, i2, i3, i4, i5, i6, i7, i8⟩ := hI
  unfold mX0_partToEnd
  rw [a9, i6, a10 i0, c_slice i3 i5.2]
  rfl
theorem m_left {N : Mem} {f : Nat → Int32} {x p dy n : Nat} (hM : CalM N) (hx : x < 6) (hp : p < 6) (hIP : IP f p) (hI : IA1 f x) (hd : dy ≤ 3652) (h1 : aD f x ≤ dy) (h2 : (dy : Int) < NT (aN f x) (aD f x)) (hn : 200 ≤ n) : mX11_leftBy n (nI x) (nI p) (nI dy) (stF N f) = some (PTE (WO f x p) (aN f x) (aD f x) (nI dy)) := by
  obtain ⟨i0, i1, i2, i3, i4, i5, i6, i7, i8⟩ := hI
  unfold mX11_leftBy
  rw [m_worth hx hp hIP hn]
  simp (disch := omega) only [nI_lit, m_ofS, bnp_some]
  rw [i2.1, m_slice (CalM_stF hM) i3 i2.2 i5.2 hd h1 h2 i6 hn]
  rfl
end
section
/-! an ENTRY is written, by both sides -/
def FD (b : Nat) (M M' : Mem) : Prop := ∀ o k, (o < b ∨ (b < o ∧ o < b + 36) ∨ b + 53 ≤ o) → M' o k = M o k
theorem FD.rfl' {b : Nat} {M : Mem} : FD b M M := fun _ _ _ => rfl
theorem FD.trans {b : Nat} {M M1 M2 : Mem} (h1 : FD b M M1) (h2 : FD b M1 M2) : FD b M M2 := fun o k h => (h2 o k h).trans (h1 o k h)
theorem RP_congr {q p : Nat} {M M' : Mem} {f f' : Nat → Int32} (h : RP q p M f) (hT : pT f p ≤ 4) (hK : pK f p ≤ 3) (hM : ∀ o k, q ≤ o → o ≤ q + 4 → M' o k = M o k) (hf : ∀ w, w < 24 → fP f' p w = fP f p w) : RP q p M' f' := by
  obtain ⟨r0, r1, r2, r3, r4, r5, r6, r7, r8⟩ := h
  have eT : pT f' p = pT f p := by unfold pT; rw [hf 2 (by decide)]
  have eK : pK f' p = pK f p := by unfold pK; rw [hf 14 (by decide)]
  unfold RP
  rw [eT, eK]
  refine ⟨?_, ?_, ?_, ?_, ?_, ?_, ?_, fun i hi => ?_, fun i hi => ?_⟩
  · rw [hM _ _ (by omega) (by omega), hf _ (by omega)]; exact r0
  · rw [hM _ _ (by omega) (by omega), hf _ (by omega)]; exact r1
  · rw [hM _ _ (by omega) (by omega), hf _ (by omega)]; exact r2
  · rw [hM _ _ (by omega) (by omega), hf _ (by omega)]; exact r3
  · rw [hM _ _ (by omega) (by omega), hf _ (by omega)]; exact r4
  · rw [hM _ _ (by omega) (by omega), hf _ (by omega)]; exact r5
  · rw [hM _ _ (by omega) (by omega), hf _ (by omega)]; exact r6
  · obtain ⟨g1, g2⟩ := r7 i hi
    rw [hM _ _ (by omega) (by omega), hM _ _ (by omega) (by omega), hf _ (by omega), hf _ (by omega)]; exact ⟨g1, g2⟩
  · obtain ⟨g1, g2⟩ := r8 i hi
    rw [hM _ _ (by omega) (by omega), hM _ _ (by omega) (by omega), hf _ (by omega), hf _ (by omega)]; exact ⟨g1, g2⟩
theorem RT_congr {t : Nat} {M M' : Mem} {f f' : Nat → Int32} (h : RT t M f) (hI : IT f) (hM : ∀ o k, t ≤ o → o < t + 34 → M' o k = M o k) (hf : ∀ j, 2 ≤ j → j < 164 → j ≠ 4 → f' j = f j) : RT t M' f' := by
  obtain ⟨r0, r1, r2, r3, r4, r5⟩ := h
  obtain ⟨i0, i1, i2, i3, i4, i5⟩ := hI
  have hX := i3.2
  have eX : nX f' = nX f := by unfold nX; rw [hf 6 (by decide) (by decide) (by decide)]
  unfold RT
  rw [eX]
  refine ⟨?_, ?_, ?_, ?_, fun i hi => ?_, fun p hp => ?_⟩
  · rw [hM _ _ (by omega) (by omega), hf _ (by omega) (by omega) (by omega)]; exact r0
  · rw [hM _ _ (by omega) (by omega), hf _ (by omega) (by omega) (by omega)]; exact r1
  · rw [hM _ _ (by omega) (by omega), hf _ (by omega) (by omega) (by omega)]; exact r2
  · rw [hM _ _ (by omega) (by omega), hf _ (by omega) (by omega) (by omega)]; exact r3
  · obtain ⟨g1, g2⟩ := r4 i hi
    rw [hM _ _ (by omega) (by omega), hM _ _ (by omega) (by omega), hf _ (by omega) (by omega) (by omega), hf _ (by omega) (by omega) (by omega)]; exact ⟨g1, g2⟩
  · obtain ⟨j0, j1, j2, j3, j4, j5, j6, j7⟩ := i5 p hp
    exact RP_congr (r5 p hp) j2.2 j6.2 (fun o k h1 h2 => hM o k (by omega) (by omega)) (fun w hw => hf _ (by omega) (by omega) (by omega))
theorem IP_congr {p : Nat} {f f' : Nat → Int32} (h : IP f p) (hf : ∀ w, w < 24 → fP f' p w = fP f p w) : IP f' p := by
  have e1 : pP f' p = pP f p := by unfold pP; rw [hf _ (by decide)]
  have e2 : pT f' p = pT f p := by unfold pT; rw [hf _ (by decide)]
  have e3 : pR f' p = pR f p := by unfold pR; rw [hf _ (by decide)]
  have e4 : pW f' p = pW f p := by unfold pW; rw [hf _ (by decide)]
  have e5 : pZ f' p = pZ f p := by unfold pZ; rw [hf _ (by decide)]
  have e6 : pF f' p = pF f p := by unfold pF; rw [hf _ (by decide)]
  have e7 : pK f' p = pK f p := by unfold pK; rw [hf _ (by decide)]
  have eB : ∀ i, i < 4 → pB f' p i = pB f p i := fun i hi => by unfold pB; rw [hf _ (by omega)]
  have eC : ∀ i, i < 4 → pC f' p i = pC f p i := fun i hi => by unfold pC; rw [hf _ (by omega)]
  have eS : ∀ i, i < 3 → pS f' p i = pS f p i := fun i hi => by unfold pS; rw [hf _ (by omega)]
  have eO : ∀ i, i < 3 → pO f' p i = pO f p i := fun i hi => by unfold pO; rw [hf _ (by omega)]
  obtain ⟨i0, i1, i2, i3, i4, i5, i6, i7, i8, i9, i10⟩ := h
  have h2 := i2.2
  unfold IP
  rw [e1, e2, e3, e4, e5, e6, e7, hf 0 (by decide), hf 1 (by decide), hf 2 (by decide), hf 3 (by decide), hf 4 (by decide), hf 5 (by decide), hf 14 (by decide)]
  refine ⟨i0, i1, i2, i3, i4, i5, i6, fun i hi => ?_, fun i hi => ?_, fun i hi => ?_, fun i hi => ?_⟩
  · rw [hf _ (by omega), hf _ (by omega), eB i hi, eC i hi]; exact i7 i hi
  · rw [hf _ (by omega), hf _ (by omega), eS i hi, eO i hi]; exact i8 i hi
  · rw [eB _ (by omega), eB _ (by omega)]; exact i9 i hi
  · rw [eB _ (by omega)]; exact i10 i hi
theorem IT_congr {f f' : Nat → Int32} (h : IT f) (hf : ∀ j, 2 ≤ j → j < 164 → j ≠ 4 → f' j = f j) : IT f' := by
  obtain ⟨i0, i1, i2, i3, i4, i5⟩ := h
  have eX : nX f' = nX f := by unfold nX; rw [hf 6 (by decide) (by decide) (by decide)]
  unfold IT
  rw [eX, hf 2 (by decide) (by decide) (by decide), hf 3 (by decide) (by decide) (by decide), hf 5 (by decide) (by decide) (by decide), hf 6 (by decide) (by decide) (by decide)]
  refine ⟨i0, i1, i2, i3, fun i hi => ?_, fun p hp => IP_congr (i5 p hp) (fun w hw => hf _ (by omega) (by omega) (by omega))⟩
  rw [hf _ (by omega) (by omega) (by omega), hf _ (by omega) (by omega) (by omega)]; exact i4 i hi
theorem wr_all {f : Nat → Int32} {k x y : Nat} {fr to c : Int32} (hs : sz f < 400) (hx : x < 6) (hy : y < 6) : allS (wrF f k x fr to c) y = allS f y + (if x = y then c else 0) := by
  unfold allS
  rw [wr_sz hs, sumR_last]
  congr 1
  · apply sumR_congr
    intro j _ hj
    rw [wr_E (by omega) (by decide), wr_E (by omega) (by decide)]
  · obtain ⟨n0, n1, n2, n3, n4, n5, n6, n7, n8, n9⟩ := wr_new (f := f) (k := k) (x := x) (fr := fr) (to := to) (c := c)
    simp only [Nat.zero_add]
    rw [n1, n7]
    by_cases h : x = y
    · subst h; rw [if_pos rfl, if_pos rfl]
    · rw [if_neg (by rw [nI_eq (by omega) (by omega)]; exact h), if_neg h]
set_option maxHeartbeats 4000000 in
theorem c_write {b k x : Nat} {M : Mem} {f : Nat → Int32} {fr to c : Int32} (hRS : RS b M f) (hIT : IT f) (h1 : f 1 = nI (sz f)) (hs : sz f < 400) (hx : x < 6) : ∃ M', mX1_write b (b + 35 + 12 + x) (nI k) fr to c M = some (c, M') ∧ RS b M' (wrF f k x fr to c) ∧ FD b M M' := by
  obtain ⟨q0, q1, qT, qA, qE⟩ := hRS
  obtain ⟨e0, eE⟩ := qE
  obtain ⟨a0, a1, a2, a3, a4, a5, a6, a7, a8, a9, a10, a11, a12, a13⟩ := qA x hx
  have e2 : (-2 : Int32) = -nI 2 := by decide
  unfold mX1_write mX5_add mX5_describe
  simp (disch := omega) only [nI_lit, e0, h1, nI_lt0, nI_ltI, nI_leI, Nat.not_lt_zero, if_false, chk_n, lt_eq, nI_clamp, bnd_some, bnp_some, u2o, u2s, a0, a4, a7, q0]
  rw [if_pos (by omega)]
  simp (disch := omega) only [nI_lit, e0, h1, nI_lt0, nI_ltI, nI_leI, Nat.not_lt_zero, if_false, chk_n, lt_eq, nI_clamp, bnd_some, bnp_some, u2o, u2s, a0, a4, a7, a13, q0, nI_add]
  rw [if_neg (by omega)]
  simp (disch := omega) only [bnp_some, u2o, u2s, a13]
  refine ⟨_, rfl, ⟨?_, ?_, ?_, fun y hy => ?_, ?_, fun i hi => ?_⟩, fun o k h => ?_⟩
  · simp (disch := omega) only [u2o]; rw [q0, wr_lo (by decide) (by decide)]
  · simp (disch := omega) only [u2o]; rw [q1, wr_lo (by decide) (by decide)]
  · refine RT_congr qT hIT (fun o k g1 g2 => ?_) (fun j g1 g2 _ => wr_lo (by omega) (by omega))
    simp (disch := omega) only [u2o]
  · obtain ⟨c0, c1, c2, c3, c4, c5, c6, c7, c8, c9, c10, c11, c12, c13⟩ := qA y hy
    have hAll := wr_all (k := k) (fr := fr) (to := to) (c := c) hs hx hy
    have eN : aN (wrF f k x fr to c) y = aN f y := by unfold aN; rw [wr_A hy (by decide)]
    have eD : aD (wrF f k x fr to c) y = aD f y := by unfold aD; rw [wr_A hy (by decide)]
    unfold RA
    rw [hAll, eN, eD]
    simp (disch := omega) only [wr_A]
    by_cases h : x = y
    · subst h
      simp (disch := omega) only [u2o, u2s, u2k, if_true]
      exact ⟨c0, c1, c2, c3, c4, c5, c6, c7, c8, c9, c10, c11, c12, trivial⟩
    · simp (disch := omega) only [u2o, h, if_false, Int32.add_zero]
      exact ⟨c0, c1, c2, c3, c4, c5, c6, c7, c8, c9, c10, c11, c12, c13⟩
  · simp (disch := omega) only [u2o, u2s]; rw [wr_1]
  · rw [wr_sz hs] at hi
    obtain ⟨n0, n1, n2, n3, n4, n5, n6, n7, n8, n9⟩ := wr_new (f := f) (k := k) (x := x) (fr := fr) (to := to) (c := c)
    by_cases h : i = sz f
    · subst h
      rw [n0, n1, n2, n3, n4, n5, n6, n7, n8, n9, e2]
      simp (disch := omega) only [u2o, u2s]
      exact ⟨trivial, trivial, trivial, trivial, trivial, trivial, trivial, trivial, trivial, trivial⟩
    · have hi2 : i < sz f := by omega
      simp (disch := omega) only [wr_E]
      simp (disch := omega) only [u2o, u2k]
      exact eE i hi2
  · simp (disch := omega) only [u2o]
end
section
/-! the steps of which deeds are made, side by side -/
def ctC (f : Nat → Int32) (x : Nat) : Int32 := PTE (WO f x (aB f x)) (aN f x) (aD f x) (f 0)
def crF (f : Nat → Int32) (x : Nat) : Nat → Int32 := wrF f 1 x (f 0) (fA f x 5) (-ctC f x)
def chF (f : Nat → Int32) (x : Nat) : Nat → Int32 := wrF f 0 x (f 0) (fA f x 5) (ctC f x)
def usC (f : Nat → Int32) (x : Nat) : Int32 := nI (US f (aB f x) (aU f x))
def usF (f : Nat → Int32) (x : Nat) : Nat → Int32 := upd (wrF f 2 x (fA f x 4) (f 0) (usC f x)) (170 + 12 * x + 6) (nI 0)
def opF (f : Nat → Int32) (x : Nat) (q : Int32) : Nat → Int32 := upd (upd (upd f (170 + 12 * x + 3) q) (170 + 12 * x + 4) (f 0)) (170 + 12 * x + 5) (iI (NT (aN f x) (tD f)))
theorem CalC_FD {b : Nat} {M M' : Mem} (hb : 4 ≤ b) (h : CalC M) (hF : FD b M M') : CalC M' := fun m hm => by rw [hF 3 m (Or.inl (by omega))]; exact h m hm
theorem fA_upd {f : Nat → Int32} {x w y w' : Nat} {v : Int32} (hx : x < 6) (hy : y < 6) (hw : w < 12) (hw' : w' < 12) : fA (upd f (170 + 12 * x + w) v) y w' = if y = x ∧ w' = w then v else fA f y w' := by
  unfold fA upd
  by_cases h : y = x ∧ w' = w
  · obtain ⟨rfl, rfl⟩ := h; rw [if_pos rfl, if_pos ⟨rfl, rfl⟩]
  · rw [if_neg (by omega), if_neg h]
theorem fA_us {f : Nat → Int32} {x w : Nat} {v : Int32} : fA (upd f (170 + 12 * x + w) v) x w = v := upd_s _ _ _
theorem fA_un {f : Nat → Int32} {x w y w' : Nat} {v : Int32} (hw : w < 12) (hw' : w' < 12) (h : y ≠ x ∨ w' ≠ w) : fA (upd f (170 + 12 * x + w) v) y w' = fA f y w' := upd_n _ _ (by omega)
theorem put_comp {b x y w w' k k' : Nat} {M : Mem} {f : Nat → Int32} {v : Int32} (hx : x < 6) (hy : y < 6) (hw : w < 12) (hw' : w' < 12) (hkw : k' = k ↔ w' = w) (h : M (b + 35 + 12 + y) k' = fA f y w') : upd2 M (b + 35 + 12 + x) k v (b + 35 + 12 + y) k' = fA (upd f (170 + 12 * x + w) v) y w' := by
  rw [fA_upd hx hy hw hw']
  by_cases e : y = x
  · subst e
    by_cases e2 : k' = k
    · have e3 := hkw.mp e2
      subst e2; subst e3
      rw [u2s, if_pos ⟨rfl, rfl⟩]
    · rw [u2k _ _ e2, if_neg (fun z => e2 (hkw.mpr z.2))]; exact h
  · rw [u2o _ _ (by omega), if_neg (fun z => e z.1)]; exact h
/-- a field of an account is put on both sides -/
theorem RS_put {b x w k : Nat} {M : Mem} {f : Nat → Int32} {v : Int32} (hRS : RS b M f) (hIT : IT f) (hx : x < 6)
    (hk : (w = 8 ∧ k = 2) ∨ (w = 7 ∧ k = 3) ∨ (w = 1 ∧ k = 4) ∨ (w = 10 ∧ k = 6) ∨ (w = 3 ∧ k = 7) ∨ (w = 6 ∧ k = 11) ∨ (w = 9 ∧ k = 12)) : RS b (upd2 M (b + 35 + 12 + x) k v) (upd f (170 + 12 * x + w) v) := by
  obtain ⟨q0, q1, qT, qA, e0, eE⟩ := hRS
  have hw : w < 12 := by omega
  have hlo : ∀ j, j < 170 → upd f (170 + 12 * x + w) v j = f j := fun j hj => upd_n _ _ (by omega)
  have hhi : ∀ j, 250 ≤ j → upd f (170 + 12 * x + w) v j = f j := fun j hj => upd_n _ _ (by omega)
  have hE : ∀ i w', fE (upd f (170 + 12 * x + w) v) i w' = fE f i w' := fun i w' => hhi _ (by omega)
  have hsz : sz (upd f (170 + 12 * x + w) v) = sz f := by unfold sz; rw [hlo 1 (by decide)]
  have hall : ∀ y, allS (upd f (170 + 12 * x + w) v) y = allS f y := fun y => by
    unfold allS; rw [hsz]; apply sumR_congr; intro j _ _; rw [hE, hE]
  refine ⟨?_, ?_, ?_, fun y hy => ?_, ?_, fun i hi => ?_⟩
  · rw [u2o _ _ (by omega), hlo 0 (by decide)]; exact q0
  · rw [u2o _ _ (by omega), hlo 4 (by decide)]; exact q1
  · exact RT_congr qT hIT (fun o k g1 g2 => u2o _ _ (by omega)) (fun j _ h2 _ => hlo j (by omega))
  · obtain ⟨c0, c1, c2, c3, c4, c5, c6, c7, c8, c9, c10, c11, c12, c13⟩ := qA y hy
    have hid : ∀ k', k' ≠ k → upd2 M (b + 35 + 12 + x) k v (b + 35 + 12 + y) k' = M (b + 35 + 12 + y) k' := by
      intro k' h'
      by_cases e : y = x
      · subst e; exact u2k _ _ h'
      · exact u2o _ _ (by omega)
    have eN : aN (upd f (170 + 12 * x + w) v) y = aN f y := by unfold aN; rw [fA_un hw (by decide) (by omega)]
    have eD : aD (upd f (170 + 12 * x + w) v) y = aD f y := by unfold aD; rw [fA_un hw (by decide) (by omega)]
    unfold RA
    rw [hall, eN, eD, hid 0 (by omega), hid 10 (by omega), hid 13 (by omega), fA_un (w' := 0) hw (by decide) (by omega)]
    refine ⟨c0, ?_, put_comp hx hy hw (by decide) (by omega) c2, put_comp hx hy hw (by decide) (by omega) c3, put_comp hx hy hw (by decide) (by omega) c4, ?_, put_comp hx hy hw (by decide) (by omega) c6, put_comp hx hy hw (by decide) (by omega) c7, ?_, ?_, c10, put_comp hx hy hw (by decide) (by omega) c11, put_comp hx hy hw (by decide) (by omega) c12, c13⟩
    · rw [hid 1 (by omega)]; exact c1
    · rw [hid 5 (by omega), fA_un hw (by decide) (by omega)]; exact c5
    · rw [hid 8 (by omega), fA_un hw (by decide) (by omega)]; exact c8
    · rw [hid 9 (by omega), fA_un hw (by decide) (by omega)]; exact c9
  · rw [u2o _ _ (by omega), hlo 1 (by decide)]; exact e0
  · rw [hsz] at hi
    simp (disch := omega) only [u2o, hE]
    exact eE i hi
theorem FD_put {b x k : Nat} {M : Mem} {v : Int32} (hx : x < 6) : FD b M (upd2 M (b + 35 + 12 + x) k v) := fun o k' h => u2o _ _ (by omega)
/-- credit, charge -/
theorem s_credit {b x n : Nat} {M N : Mem} {f : Nat → Int32} (hRS : RS b M f) (hM : CalM N) (hI : INV0 f) (hx : x < 6) (hA : IA1 f x) (hs : sz f < 400) (hrun : (tD f : Int) < NT (aN f x) (aD f x)) (hn : 200 ≤ n) :
    ∃ M', mX1_writeCredit n b (b + 35 + 12 + x) M = some (-ctC f x, M') ∧ mX11_credits n (nI x) (stF N f) = some (-ctC f x, stF N (crF f x)) ∧ RS b M' (crF f x) ∧ FD b M M' := by
  have hRA := hRS.2.2.2.1 x hx
  have hI' := hI; have hA' := hA
  obtain ⟨t0, t1, t2, hIT, hIA, hIE⟩ := hI
  obtain ⟨i0, i1, i2, i3, i4, i5, i6, i7, i8, i9, i10, i11, i12, i13, i14, i15⟩ := hA
  have hp : aB f x < 6 := by have := i1.2; omega
  have hIP := hIT.2.2.2.2.2 _ hp
  have hsz := t1.1
  obtain ⟨M', w1, w2, w3⟩ := c_write (k := 1) (fr := f 0) (to := fA f x 5) (c := -ctC f x) hRS hIT hsz hs hx
  refine ⟨M', ?_, ?_, w2, w3⟩
  · unfold mX1_writeCredit
    rw [hRA.2.2.2.2.1, i1.1, c_worth hRS.2.2.1 hIT hRA hp i9 hn]
    simp only [bnp_some]
    rw [hRS.1, c_part hRA hA']
    simp only [bnp_some]
    rw [hRA.2.2.2.2.2.2.2.2.2.1]
    have e : (1 : Int32) = nI 1 := rfl
    rw [e]
    unfold ctC at w1
    rw [w1]; rfl
  · unfold mX11_credits
    have h0 : f 0 = nI (tD f) := t0.1
    simp (disch := omega) only [nI_lit, chk_n, m_ofS, bnp_some, stF_f, nI_clamp]
    rw [i1.1]
    rw [show mX11_leftBy n (nI x) (nI (aB f x)) (f 0) (stF N f) = some (ctC f x) by
      unfold ctC; rw [h0]; exact m_left hM hx hp hIP hA' t0.2 i14 hrun hn]
    simp only [bnp_some]
    rw [m_writes hsz hs hx]; rfl
theorem s_charge {b x n : Nat} {M N : Mem} {f : Nat → Int32} (hRS : RS b M f) (hM : CalM N) (hI : INV0 f) (hx : x < 6) (hA : IA1 f x) (hs : sz f < 400) (hrun : (tD f : Int) < NT (aN f x) (aD f x)) (hn : 200 ≤ n) :
    ∃ M', mX1_writeCharge n b (b + 35 + 12 + x) M = some (ctC f x, M') ∧ mX11_charges n (nI x) (stF N f) = some (ctC f x, stF N (chF f x)) ∧ RS b M' (chF f x) ∧ FD b M M' := by
  have hRA := hRS.2.2.2.1 x hx
  have hI' := hI; have hA' := hA
  obtain ⟨t0, t1, t2, hIT, hIA, hIE⟩ := hI
  obtain ⟨i0, i1, i2, i3, i4, i5, i6, i7, i8, i9, i10, i11, i12, i13, i14, i15⟩ := hA
  have hp : aB f x < 6 := by have := i1.2; omega
  have hIP := hIT.2.2.2.2.2 _ hp
  have hsz := t1.1
  obtain ⟨M', w1, w2, w3⟩ := c_write (k := 0) (fr := f 0) (to := fA f x 5) (c := ctC f x) hRS hIT hsz hs hx
  refine ⟨M', ?_, ?_, w2, w3⟩
  · unfold mX1_writeCharge
    rw [hRA.2.2.2.2.1, i1.1, c_worth hRS.2.2.1 hIT hRA hp i9 hn]
    simp only [bnp_some]
    rw [hRS.1, c_part hRA hA']
    simp only [bnp_some]
    rw [hRA.2.2.2.2.2.2.2.2.2.1]
    have e : (0 : Int32) = nI 0 := rfl
    rw [e]
    unfold ctC at w1
    rw [w1]; rfl
  · unfold mX11_charges
    have h0 : f 0 = nI (tD f) := t0.1
    simp (disch := omega) only [nI_lit, chk_n, m_ofS, bnp_some, stF_f, nI_clamp]
    rw [i1.1]
    rw [show mX11_leftBy n (nI x) (nI (aB f x)) (f 0) (stF N f) = some (ctC f x) by
      unfold ctC; rw [h0]; exact m_left hM hx hp hIP hA' t0.2 i14 hrun hn]
    simp only [bnp_some]
    rw [m_writes hsz hs hx]; rfl
end
section
/-! usage of a PERIOD, and a new PERIOD -/
theorem wr_updA {f : Nat → Int32} {k x w : Nat} {v fr to c : Int32} (hx : x < 6) (hw : w < 12) (h1 : w ≠ 1) (h3 : w ≠ 3) : wrF (upd f (170 + 12 * x + w) v) k x fr to c = upd (wrF f k x fr to c) (170 + 12 * x + w) v := by
  have hsz : sz (upd f (170 + 12 * x + w) v) = sz f := by unfold sz; rw [upd_n _ _ (by omega)]
  have e3 : fA (upd f (170 + 12 * x + w) v) x 3 = fA f x 3 := fA_un hw (by decide) (by omega)
  have e1 : fA (upd f (170 + 12 * x + w) v) x 1 = fA f x 1 := fA_un hw (by decide) (by omega)
  have e0 : (upd f (170 + 12 * x + w) v) 0 = f 0 := upd_n _ _ (by omega)
  unfold wrF
  rw [hsz, e3, e1, e0]
  funext j
  by_cases hj : j = 170 + 12 * x + w
  · subst hj
    simp (disch := omega) only [upd_n, upd_s]
  · rw [upd_n _ _ hj]
    unfold upd
    simp only [hj, if_false]
theorem s_usage {b x n : Nat} {M N : Mem} {f : Nat → Int32} (hRS : RS b M f) (hI : INV0 f) (hx : x < 6) (hA : IA1 f x) (hs : sz f < 400) (hn : 200 ≤ n) :
    ∃ M', mX1_writeUsage n b (b + 35 + 12 + x) M = some (usC f x, M') ∧ mX11_uses n (nI x) (stF N f) = some (usC f x, stF N (usF f x)) ∧ RS b M' (usF f x) ∧ FD b M M' := by
  have hRA := hRS.2.2.2.1 x hx
  obtain ⟨t0, t1, t2, hIT, hIA, hIE⟩ := hI
  obtain ⟨i0, i1, i2, i3, i4, i5, i6, i7, i8, i9, i10, i11, i12, i13, i14, i15⟩ := hA
  have hp : aB f x < 6 := by have := i1.2; omega
  have hIP := hIT.2.2.2.2.2 _ hp
  have hsz := t1.1
  have hRT := hRS.2.2.1
  have hRS1 : RS b (upd2 M (b + 35 + 12 + x) 11 (nI 0)) (upd f (170 + 12 * x + 6) (nI 0)) := RS_put hRS hIT hx (by omega)
  have hIT1 : IT (upd f (170 + 12 * x + 6) (nI 0)) := IT_congr hIT (fun j _ h2 _ => upd_n _ _ (by omega))
  have esz : sz (upd f (170 + 12 * x + 6) (nI 0)) = sz f := by unfold sz; rw [upd_n _ _ (by omega)]
  have e1 : (upd f (170 + 12 * x + 6) (nI 0)) 1 = nI (sz (upd f (170 + 12 * x + 6) (nI 0))) := by rw [esz, upd_n _ _ (by omega)]; exact hsz
  obtain ⟨M', w1, w2, w3⟩ := c_write (k := 2) (fr := fA f x 4) (to := f 0) (c := usC f x) hRS1 hIT1 e1 (by rw [esz]; exact hs) hx
  rw [wr_updA hx (by decide) (by decide) (by decide)] at w2
  refine ⟨M', ?_, ?_, w2, (FD_put hx).trans w3⟩
  · unfold mX1_writeUsage
    rw [hRA.2.2.2.2.1, i1.1, c_termsOf hp]
    simp only [bnp_some]
    rw [hRA.2.2.2.2.2.2.2.2.2.2.2.1, i8.1, c_usage (hRT.2.2.2.2.2 _ hp) hIP i8.2 hn]
    simp only [bnp_some]
    rw [u2k _ _ (by decide), u2o _ _ (by omega), hRS.1, hRA.2.2.2.2.2.2.2.2.1]
    have e : (2 : Int32) = nI 2 := rfl
    have e' : (0 : Int32) = nI 0 := rfl
    rw [e, e']
    unfold usC at w1
    rw [w1]; rfl
  · unfold mX11_uses
    simp (disch := omega) only [nI_lit, chk_n, m_ofS, bnp_some, stF_f, nI_clamp]
    rw [i1.1, i8.1, m_usage (stF_f N f) hp hIP i8.2 hn]
    simp only [bnp_some]
    rw [show nI (US f (aB f x) (aU f x)) = usC f x from rfl, m_writes hsz hs hx]
    simp only [bnd_some]
    rw [m_sets hx (by decide)]; rfl
theorem op_A {f : Nat → Int32} {x : Nat} {q : Int32} (y w : Nat) (hw : w < 12) (h : y ≠ x ∨ (w ≠ 3 ∧ w ≠ 4 ∧ w ≠ 5)) : fA (opF f x q) y w = fA f y w := by
  unfold opF
  rw [fA_un (by decide) hw (by omega), fA_un (by decide) hw (by omega), fA_un (by decide) hw (by omega)]
theorem op_lo {f : Nat → Int32} {x j : Nat} {q : Int32} (h : j < 170 ∨ 250 ≤ j) (hx : x < 6) : opF f x q j = f j := by
  unfold opF
  rw [upd_n _ _ (by omega), upd_n _ _ (by omega), upd_n _ _ (by omega)]
theorem op_3 {f : Nat → Int32} {x : Nat} {q : Int32} : fA (opF f x q) x 3 = q := by
  unfold opF
  rw [fA_un (by decide) (by decide) (by omega), fA_un (by decide) (by decide) (by omega), fA_us]
theorem op_4 {f : Nat → Int32} {x : Nat} {q : Int32} : fA (opF f x q) x 4 = f 0 := by
  unfold opF
  rw [fA_un (by decide) (by decide) (by omega), fA_us]
theorem op_5 {f : Nat → Int32} {x : Nat} {q : Int32} : fA (opF f x q) x 5 = iI (NT (aN f x) (tD f)) := by
  unfold opF
  rw [fA_us]
/-- all of RA but the SPAN's first day -/
def RAx (a x : Nat) (M : Mem) (f : Nat → Int32) : Prop :=
  M a 0 = nI x ∧ M a 1 = fA f x 0 ∧ M a 2 = fA f x 8 ∧ M a 3 = fA f x 7 ∧ M a 4 = fA f x 1 ∧ M a 5 = fA f x 2 ∧ M a 6 = fA f x 10 ∧ M a 7 = fA f x 3 ∧ M a 8 = fA f x 4 ∧ M a 9 = fA f x 5 ∧ M a 11 = fA f x 6 ∧ M a 12 = fA f x 9 ∧ M a 13 = allS f x
def RSx (b : Nat) (M : Mem) (f : Nat → Int32) (x : Nat) : Prop :=
  M b 4 = f 0 ∧ M (b + 1) 7 = f 4 ∧ RT (b + 1) M f ∧ (∀ y, y < 6 → y ≠ x → RA (b + 35 + 12 + y) y M f) ∧ RAx (b + 35 + 12 + x) x M f ∧ RE (b + 36) M f
theorem RS.x {b x : Nat} {M : Mem} {f : Nat → Int32} (h : RS b M f) (hx : x < 6) : RSx b M f x := by
  obtain ⟨q0, q1, qT, qA, qE⟩ := h
  obtain ⟨a0, a1, a2, a3, a4, a5, a6, a7, a8, a9, a10, a11, a12, a13⟩ := qA x hx
  exact ⟨q0, q1, qT, fun y hy _ => qA y hy, ⟨a0, a1, a2, a3, a4, a5, a6, a7, a8, a9, a11, a12, a13⟩, qE⟩
theorem RSx_put {b x w k : Nat} {M : Mem} {f : Nat → Int32} {v : Int32} (hRS : RSx b M f x) (hIT : IT f) (hx : x < 6)
    (hk : (w = 0 ∧ k = 1) ∨ (w = 1 ∧ k = 4) ∨ (w = 2 ∧ k = 5) ∨ (w = 10 ∧ k = 6)) : RSx b (upd2 M (b + 35 + 12 + x) k v) (upd f (170 + 12 * x + w) v) x := by
  obtain ⟨q0, q1, qT, qA, qX, e0, eE⟩ := hRS
  have hw : w < 12 := by omega
  have hlo : ∀ j, j < 170 → upd f (170 + 12 * x + w) v j = f j := fun j hj => upd_n _ _ (by omega)
  have hhi : ∀ j, 250 ≤ j → upd f (170 + 12 * x + w) v j = f j := fun j hj => upd_n _ _ (by omega)
  have hE : ∀ i w', fE (upd f (170 + 12 * x + w) v) i w' = fE f i w' := fun i w' => hhi _ (by omega)
  have hsz : sz (upd f (170 + 12 * x + w) v) = sz f := by unfold sz; rw [hlo 1 (by decide)]
  have hall : ∀ y, allS (upd f (170 + 12 * x + w) v) y = allS f y := fun y => by
    unfold allS; rw [hsz]; apply sumR_congr; intro j _ _; rw [hE, hE]
  refine ⟨?_, ?_, ?_, fun y hy hyx => ?_, ?_, ?_, fun i hi => ?_⟩
  · rw [u2o _ _ (by omega), hlo 0 (by decide)]; exact q0
  · rw [u2o _ _ (by omega), hlo 4 (by decide)]; exact q1
  · exact RT_congr qT hIT (fun o k g1 g2 => u2o _ _ (by omega)) (fun j _ h2 _ => hlo j (by omega))
  · obtain ⟨c0, c1, c2, c3, c4, c5, c6, c7, c8, c9, c10, c11, c12, c13⟩ := qA y hy hyx
    have hu : ∀ w', w' < 12 → fA (upd f (170 + 12 * x + w) v) y w' = fA f y w' := fun w' h' => fA_un hw h' (Or.inl hyx)
    unfold RA aN aD
    rw [hall, hu 0 (by decide), hu 1 (by decide), hu 2 (by decide), hu 3 (by decide), hu 4 (by decide), hu 5 (by decide), hu 6 (by decide), hu 7 (by decide), hu 8 (by decide), hu 9 (by decide), hu 10 (by decide)]
    simp (disch := omega) only [u2o]
    exact ⟨c0, c1, c2, c3, c4, c5, c6, c7, c8, c9, c10, c11, c12, c13⟩
  · obtain ⟨c0, c1, c2, c3, c4, c5, c6, c7, c8, c9, c11, c12, c13⟩ := qX
    unfold RAx
    rw [hall, u2k _ _ (by omega), u2k (k' := 2) _ _ (by omega), u2k (k' := 3) _ _ (by omega), u2k (k' := 7) _ _ (by omega), u2k (k' := 8) _ _ (by omega), u2k (k' := 9) _ _ (by omega), u2k (k' := 11) _ _ (by omega), u2k (k' := 12) _ _ (by omega), u2k (k' := 13) _ _ (by omega)]
    rw [fA_un (w' := 8) hw (by decide) (by omega), fA_un (w' := 7) hw (by decide) (by omega), fA_un (w' := 3) hw (by decide) (by omega), fA_un (w' := 4) hw (by decide) (by omega), fA_un (w' := 5) hw (by decide) (by omega), fA_un (w' := 6) hw (by decide) (by omega), fA_un (w' := 9) hw (by decide) (by omega)]
    exact ⟨c0, put_comp hx hx hw (by decide) (by omega) c1, c2, c3, put_comp hx hx hw (by decide) (by omega) c4, put_comp hx hx hw (by decide) (by omega) c5, put_comp hx hx hw (by decide) (by omega) c6, c7, c8, c9, c11, c12, c13⟩
  · rw [u2o _ _ (by omega), hlo 1 (by decide)]; exact e0
  · rw [hsz] at hi
    simp (disch := omega) only [u2o, hE]
    exact eE i hi
theorem s_open {b x n : Nat} {M N : Mem} {f : Nat → Int32} {q : Int32} (hb : 4 ≤ b) (hRS : RSx b M f x) (hC : CalC M) (hM : CalM N) (hIT : IT f) (hT : isM (f 0) (tD f) 3652) (hx : x < 6) (hN : isM (fA f x 2) (aN f x) 31) (hN1 : 1 ≤ aN f x) (hn : 200 ≤ n) :
    ∃ M', mX1_startPeriod n b (b + 35 + 12 + x) q M = some M' ∧ mX11_opens n (nI x) q (stF N f) = some (stF N (opF f x q)) ∧ RS b M' (opF f x q) ∧ FD b M M' := by
  obtain ⟨q0, q1, qT, qA, qX, e0, eE⟩ := hRS
  have qX' := qX
  obtain ⟨a0, a1, a2, a3, a4, a5, a6, a7, a8, a9, a11, a12, a13⟩ := qX
  have hT1 := hT.1; have hT2 := hT.2; have hN2 := hN.1; have hN3 := hN.2
  have hC1 : ∀ k v, CalC (upd2 M (b + 35 + 12 + x) k v) := fun k v m hm => by rw [u2o _ _ (by omega)]; exact hC m hm
  have hC2 : CalC (upd2 (upd2 M (b + 35 + 12 + x) 7 q) (b + 35 + 12 + x) 8 (f 0)) := fun m hm => by rw [u2o _ _ (by omega)]; exact hC1 _ _ m hm
  have hC3 : ∀ r, CalC (upd2 (upd2 (upd2 M (b + 35 + 12 + x) 7 q) (b + 35 + 12 + x) 8 (f 0)) (b + 35 + 12 + x) 10 r) := fun r m hm => by rw [u2o _ _ (by omega)]; exact hC2 m hm
  have esz : sz (opF f x q) = sz f := by unfold sz; rw [op_lo (by omega) hx]
  have hE : ∀ i w', fE (opF f x q) i w' = fE f i w' := fun i w' => op_lo (by omega) hx
  have hall : ∀ y, allS (opF f x q) y = allS f y := fun y => by
    unfold allS; rw [esz]; apply sumR_congr; intro j _ _; rw [hE, hE]
  refine ⟨upd2 (upd2 (upd2 (upd2 M (b + 35 + 12 + x) 7 q) (b + 35 + 12 + x) 8 (f 0)) (b + 35 + 12 + x) 10 (iI (LT (aN f x) (tD f)))) (b + 35 + 12 + x) 9 (iI (NT (aN f x) (tD f))), ?_, ?_, ⟨?_, ?_, ?_, fun y hy => ?_, ?_, fun i hi => ?_⟩, fun o k h => ?_⟩
  · unfold mX1_startPeriod
    simp (disch := omega) only [u2o, u2k, u2s, q0, a5]
    have g1 := cal_lt hC2 hN1 hN3 hT2 hn
    have g2 := fun r => cal_nt (hC3 r) hN1 hN3 hT2 hn
    rw [← hN2, ← hT1] at g1
    rw [g1]
    simp only [bnp_some]
    have g3 := g2 (iI (LT (aN f x) (tD f)))
    rw [← hN2, ← hT1] at g3
    rw [g3]
    rfl
  · unfold mX11_opens
    simp (disch := omega) only [nI_lit, m_sets, bnp_some, chk_n, stF_f, nI_clamp, m_ofS, upd_n]
    have g1 := mod_nt (CalM_stF (g := upd (upd f (170 + 12 * x + 3) q) (170 + 12 * x + 4) (f 0)) hM) hN1 hN3 hT2 hn
    rw [← hN2, ← hT1] at g1
    rw [fA_un (by decide) (by decide) (by omega), fA_un (by decide) (by decide) (by omega), g1]
    simp (disch := omega) only [bnp_some, m_sets]
    rfl
  · simp (disch := omega) only [u2o]; rw [q0, op_lo (by omega) hx]
  · simp (disch := omega) only [u2o]; rw [q1, op_lo (by omega) hx]
  · exact RT_congr qT hIT (fun o k g1 g2 => by simp (disch := omega) only [u2o]) (fun j _ h2 _ => op_lo (by omega) hx)
  · unfold RA
    rw [hall]
    by_cases h : y = x
    · subst h
      obtain ⟨c0, c1, c2, c3, c4, c5, c6, c7, c8, c9, c11, c12, c13⟩ := qX'
      have eN : aN (opF f y q) y = aN f y := by unfold aN; rw [op_A y 2 (by decide) (by omega)]
      have eD : aD (opF f y q) y = tD f := by unfold aD; rw [op_4]; rfl
      rw [eN, eD, op_3, op_4, op_5, op_A y 0 (by decide) (by omega), op_A y 8 (by decide) (by omega), op_A y 7 (by decide) (by omega), op_A y 1 (by decide) (by omega), op_A y 2 (by decide) (by omega), op_A y 10 (by decide) (by omega), op_A y 6 (by decide) (by omega), op_A y 9 (by decide) (by omega)]
      simp (disch := omega) only [u2o, u2k, u2s]
      exact ⟨c0, c1, c2, c3, c4, c5, c6, trivial, trivial, trivial, fun _ => trivial, c11, c12, c13⟩
    · obtain ⟨c0, c1, c2, c3, c4, c5, c6, c7, c8, c9, c10, c11, c12, c13⟩ := qA y hy h
      have eN : aN (opF f x q) y = aN f y := by unfold aN; rw [op_A y 2 (by decide) (Or.inl h)]
      have eD : aD (opF f x q) y = aD f y := by unfold aD; rw [op_A y 4 (by decide) (Or.inl h)]
      rw [eN, eD, op_A y 3 (by decide) (Or.inl h), op_A y 4 (by decide) (Or.inl h), op_A y 5 (by decide) (Or.inl h), op_A y 0 (by decide) (Or.inl h), op_A y 8 (by decide) (Or.inl h), op_A y 7 (by decide) (Or.inl h), op_A y 1 (by decide) (Or.inl h), op_A y 2 (by decide) (Or.inl h), op_A y 10 (by decide) (Or.inl h), op_A y 6 (by decide) (Or.inl h), op_A y 9 (by decide) (Or.inl h)]
      simp (disch := omega) only [u2o]
      exact ⟨c0, c1, c2, c3, c4, c5, c6, c7, c8, c9, c10, c11, c12, c13⟩
  · simp (disch := omega) only [u2o]; rw [op_lo (by omega) hx]; exact e0
  · rw [esz] at hi
    simp (disch := omega) only [u2o, hE]
    exact eE i hi
  · simp (disch := omega) only [u2o]
end
section
/-! what holds of the row at all times -/
theorem IA1_congr {f f' : Nat → Int32} {x : Nat} (h : IA1 f x) (hA : ∀ w, w < 12 → fA f' x w = fA f x w) (ht : tD f ≤ tD f') (hs : sz f ≤ sz f') : IA1 f' x := by
  obtain ⟨i0, i1, i2, i3, i4, i5, i6, i7, i8, i9, i10, i11, i12, i13, i14, i15⟩ := h
  unfold IA1 aB aN aQ aD aU aZ aX aP aS
  rw [hA 0 (by decide), hA 1 (by decide), hA 2 (by decide), hA 3 (by decide), hA 4 (by decide), hA 5 (by decide), hA 6 (by decide), hA 7 (by decide), hA 8 (by decide), hA 9 (by decide), hA 10 (by decide)]
  exact ⟨i0, i1, i2, i3, i4, i5, i6, i7, i8, i9, i10, i11, i12, i13, Nat.le_trans i14 ht, Nat.le_trans i15 hs⟩
theorem IA_congr {f f' : Nat → Int32} {x : Nat} (h : IA f x) (hA : ∀ w, w < 12 → fA f' x w = fA f x w) (ht : tD f ≤ tD f') (hs : sz f ≤ sz f') : IA f' x := by
  rcases h with h | h
  · exact Or.inl (fun w hw => by rw [hA w hw]; exact h w hw)
  · exact Or.inr (IA1_congr h hA ht hs)
theorem IE_congr {f f' : Nat → Int32} {i : Nat} (h : IE f i) (hE : ∀ w, w < 10 → fE f' i w = fE f i w) (hs : sz f ≤ sz f') (hb : ∀ y, y < 6 → fA f y 0 = nI 1 → fA f' y 0 = nI 1) : IE f' i := by
  obtain ⟨i0, i1, i2, i3, i4, i5, i6, i7, i8, i9, i10, i11, i12⟩ := h
  have ho := i1.2
  have h12 := hb (eO f i) (by omega) i12
  unfold IE
  have e0 : eO f' i = eO f i := by unfold eO; rw [hE 1 (by decide)]
  rw [e0]
  unfold eK eW eQ eF eT eP
  rw [hE 0 (by decide), hE 1 (by decide), hE 2 (by decide), hE 3 (by decide), hE 4 (by decide), hE 5 (by decide), hE 6 (by decide), hE 7 (by decide), hE 8 (by decide), hE 9 (by decide)]
  refine ⟨i0, i1, i2, i3, i4, i5, i6, i7, i8, i9, ?_, ?_, h12⟩
  · rcases i10 with q | ⟨k, k1, k2⟩
    · exact Or.inl q
    · exact Or.inr ⟨k, by omega, k2⟩
  · rcases i11 with q | ⟨k, k1, k2⟩
    · exact Or.inl q
    · exact Or.inr ⟨k, by omega, k2⟩
theorem na_nI {k : Nat} (h : k < 2 ^ 31) : na (nI k) = k := nI_clamp h
theorem isM_nI {k N : Nat} (h : k ≤ N) (hN : N < 2 ^ 31) : isM (nI k) (na (nI k)) N := by rw [na_nI (by omega)]; exact ⟨rfl, h⟩
theorem INV0_wr {f : Nat → Int32} {k x F T : Nat} {fr to c : Int32} (hI : INV0 f) (hx : x < 6) (hA : IA1 f x) (hs : sz f < 400) (hk : k ≤ 5) (hfr : fr = nI F) (hto : to = nI T) (hT : T ≤ 3652) (hFT : F ≤ T)
    (hc : k ≤ 1 → T ≤ F + 31 ∧ -899991 ≤ c.toInt ∧ c.toInt ≤ 899991) (hmin : -2147483647 ≤ c.toInt) : INV0 (wrF f k x fr to c) := by
  obtain ⟨t0, t1, t2, hIT, hIA, hIE⟩ := hI
  have eTD : tD (wrF f k x fr to c) = tD f := by unfold tD; rw [wr_lo (by decide) (by decide)]
  have eS := wr_sz (k := k) (x := x) (fr := fr) (to := to) (c := c) hs
  have eC : cL (wrF f k x fr to c) = cL f := by unfold cL; rw [wr_lo (by decide) (by decide)]
  unfold INV0
  rw [eTD, eS, eC, wr_lo (by decide) (by decide), wr_1, wr_lo (by decide) (by decide)]
  refine ⟨t0, ⟨rfl, hs⟩, t2, IT_congr hIT (fun j _ h2 _ => wr_lo (by omega) (by omega)), fun y hy => IA_congr (hIA y hy) (fun w hw => wr_A hy hw) (by rw [eTD]; exact Nat.le_refl _) (by rw [eS]; omega), fun i hi => ?_⟩
  by_cases h : i = sz f
  · subst h
    obtain ⟨n0, n1, n2, n3, n4, n5, n6, n7, n8, n9⟩ := wr_new (f := f) (k := k) (x := x) (fr := fr) (to := to) (c := c)
    obtain ⟨i0, i1, i2, i3, i4, i5, i6, i7, i8, i9, i10, i11, i12, i13, i14, i15⟩ := hA
    have hO : eO (wrF f k x fr to c) (sz f) = x := by unfold eO; rw [n1]; exact na_nI (by omega)
    have hK : eK (wrF f k x fr to c) (sz f) = k := by unfold eK; rw [n0]; exact na_nI (by omega)
    have hF : eF (wrF f k x fr to c) (sz f) = F := by unfold eF; rw [n4, hfr]; exact na_nI (by omega)
    have hT' : eT (wrF f k x fr to c) (sz f) = T := by unfold eT; rw [n5, hto]; exact na_nI (by omega)
    unfold IE
    rw [hO, hK, hF, hT', n0, n1, n2, n3, n4, n5, n6, n7, n8, n9, wr_A hx (by decide)]
    refine ⟨⟨rfl, hk⟩, ⟨rfl, by omega⟩, ?_, ?_, ⟨hfr, by omega⟩, ⟨hto, hT⟩, ?_, hFT, hc, hmin, Or.inl rfl, Or.inl rfl, i0⟩
    · unfold eW; rw [n2]; exact t0
    · unfold eQ; rw [n3]; exact i4
    · unfold eP; rw [n6]; exact i1
  · exact IE_congr (hIE i (by omega)) (fun w hw => wr_E (by omega) hw) (by rw [eS]; omega) (fun y hy h1 => by rw [wr_A hy (by decide)]; exact h1)
/-- an account's fields change, all else stays -/
theorem INV0_acc {f f' : Nat → Int32} {x : Nat} (hI : INV0 f) (hx : x < 6) (hf : ∀ j, (j < 170 + 12 * x ∨ 182 + 12 * x ≤ j) → f' j = f j) (h0 : fA f x 0 = nI 1 → fA f' x 0 = nI 1) (hA : IA f' x) : INV0 f' := by
  obtain ⟨t0, t1, t2, hIT, hIA, hIE⟩ := hI
  have eT : tD f' = tD f := by unfold tD; rw [hf 0 (by omega)]
  have eS : sz f' = sz f := by unfold sz; rw [hf 1 (by omega)]
  have eC : cL f' = cL f := by unfold cL; rw [hf 4 (by omega)]
  have hAo : ∀ y w, y ≠ x → w < 12 → fA f' y w = fA f y w := fun y w h hw => hf _ (by omega)
  unfold INV0
  rw [eT, eS, eC, hf 0 (by omega), hf 1 (by omega), hf 4 (by omega)]
  refine ⟨t0, t1, t2, IT_congr hIT (fun j _ h2 _ => hf j (by omega)), fun y hy => ?_, fun i hi => ?_⟩
  · by_cases h : y = x
    · subst h; exact hA
    · exact IA_congr (hIA y hy) (fun w hw => hAo y w h hw) (Nat.le_of_eq eT.symm) (Nat.le_of_eq eS.symm)
  · refine IE_congr (hIE i hi) (fun w hw => hf _ (by omega)) (Nat.le_of_eq eS.symm) (fun y hy h1 => ?_)
    by_cases h : y = x
    · subst h; exact h0 h1
    · rw [hAo y 0 h (by decide)]; exact h1
/-- bounds of WORTH and its parts -/
theorem ofs_le {f : Nat → Int32} {p : Nat} {s : Int32} (hI : IP f p) : ∀ (d i o : Nat), i + d ≤ 3 → o ≤ 100 → ∃ o', o' ≤ 100 ∧ ofs f p s i d (nI o) = nI o'
  | 0, i, o, _, ho => ⟨o, ho, rfl⟩
  | d + 1, i, o, h, ho => by
    have h8 := (hI.2.2.2.2.2.2.2.2.1 i (by omega)).2
    rw [ofs_s]
    by_cases q : s < fP f p (15 + i)
    · rw [if_pos q]; exact ofs_le hI d (i + 1) o (by omega) ho
    · rw [if_neg q, h8.1]; exact ofs_le hI d (i + 1) (pO f p i) (by omega) h8.2
theorem pct {w o : Nat} (hw : w ≤ 899991) (ho : o ≤ 100) : nI w - nI w * nI o / nI 100 = nI (w - w * o / 100) ∧ w * o / 100 ≤ w := by
  have h1 : w * o ≤ 899991 * 100 := Nat.mul_le_mul hw ho
  have h2 : w * o ≤ w * 100 := Nat.mul_le_mul_left _ ho
  have h3 : w * o / 100 ≤ w := by omega
  refine ⟨?_, h3⟩
  rw [pk_mul, pk_div (by omega) (by omega) (by omega), pk_sub h3]
theorem WO_le {f : Nat → Int32} {x p : Nat} (hIT : IT f) (hp : p < 6) (hS : isM (fA f x 10) (aS f x) 9) : ∃ w, w ≤ 899991 ∧ WO f x p = nI w := by
  have hI := hIT.2.2.2.2.2 p hp
  obtain ⟨o, ho, eo⟩ := ofs_le (s := fA f x 10) hI (pK f p) 0 0 (by have := hI.2.2.2.2.2.2.1.2; omega) (by omega)
  have hP := hI.1; have hP2 := hP.2; have hS2 := hS.2
  have hPS : pP f p * aS f x ≤ 99999 * 9 := Nat.mul_le_mul hP2 hS2
  obtain ⟨e1, l1⟩ := pct (w := pP f p * aS f x) (o := o) (by omega) ho
  have hW1 : W1 f x p = nI (pP f p * aS f x - pP f p * aS f x * o / 100) := by
    unfold W1
    rw [eo, hP.1, hS.1, pk_mul, e1]
  obtain ⟨w1, hw1⟩ : ∃ w1, w1 = pP f p * aS f x - pP f p * aS f x * o / 100 := ⟨_, rfl⟩
  rw [← hw1] at hW1
  have hw1l : w1 ≤ 899991 := by omega
  obtain ⟨ls, hls, els⟩ : ∃ l, l ≤ 100 ∧ f 2 = nI l := ⟨na (f 2), hIT.1.2, hIT.1.1⟩
  obtain ⟨w2, hw2, hW2⟩ : ∃ w2, w2 ≤ 899991 ∧ W2 f x p = nI w2 := by
    unfold W2
    rw [hW1]
    by_cases q : f 3 ≤ fA f x 3
    · rw [if_pos q]; exact ⟨w1, hw1l, rfl⟩
    · obtain ⟨e2, l2⟩ := pct (w := w1) (o := ls) hw1l hls
      rw [if_neg q, els, e2]; exact ⟨_, by omega, rfl⟩
  unfold WO
  rw [hW2]
  have hZ := hI.2.2.2.2.2.1
  have hZ2 := hZ.2
  by_cases q : fA f x 7 = nI 1
  · have h1 : w2 * pZ f p ≤ 899991 * 100 := Nat.mul_le_mul hw2 hZ2
    have h2 : w2 * pZ f p ≤ w2 * 100 := Nat.mul_le_mul_left _ hZ2
    rw [if_pos q, hZ.1, pk_mul, pk_div (by omega) (by omega) (by omega)]
    exact ⟨_, by omega, rfl⟩
  · rw [if_neg q]; exact ⟨w2, hw2, rfl⟩
theorem PTE_le {w an d0 dy : Nat} (hw : w ≤ 899991) (h1 : 1 ≤ an) (h2 : an ≤ 31) (h : d0 ≤ 3652) (hd : dy ≤ 3652) (hl : d0 ≤ dy) (hn : (dy : Int) < NT an d0) : ∃ v, v ≤ w ∧ PTE (nI w) an d0 (nI dy) = nI v := by
  obtain ⟨b1, b2, b3, b4, b5⟩ := LT_NT h1 h
  have b6 := NT_LT h1 h2 h
  obtain ⟨L, hL⟩ : ∃ L : Nat, (L : Int) = NT an d0 - LT an d0 := ⟨(NT an d0 - LT an d0).toNat, by omega⟩
  obtain ⟨K, hK⟩ : ∃ K : Nat, (K : Int) = (dy : Int) - LT an d0 := ⟨((dy : Int) - LT an d0).toNat, by omega⟩
  have e1 : iI (NT an d0) - iI (LT an d0) = nI L := by rw [iI_sub, ← hL]; rfl
  have e2 : nI dy - iI (LT an d0) = nI K := by rw [iI_n, iI_sub, ← hK]; rfl
  have hLb : L ≤ 31 := by omega
  have hK2 : K ≤ L := by omega
  have m1 : w * L ≤ 899991 * 31 := Nat.mul_le_mul hw hLb
  have m2 : w * K ≤ w * L := Nat.mul_le_mul_left _ hK2
  have hL0 : 0 < L := by omega
  have d1 : w * L / L = w := Nat.mul_div_cancel _ hL0
  have d2 : w * K / L ≤ w := Nat.div_le_of_le_mul (by rw [Nat.mul_comm L w]; exact m2)
  refine ⟨w - w * K / L, Nat.sub_le _ _, ?_⟩
  unfold PTE
  rw [e1, e2, pk_mul, pk_mul, pk_div (by omega) hL0 (by omega), pk_div (by omega) hL0 (by omega), d1, pk_sub d2]
theorem ctC_le {f : Nat → Int32} {x : Nat} (hI : INV0 f) (hA : IA1 f x) (hrun : (tD f : Int) < NT (aN f x) (aD f x)) : ∃ v, v ≤ 899991 ∧ ctC f x = nI v := by
  obtain ⟨t0, t1, t2, hIT, hIA, hIE⟩ := hI
  obtain ⟨i0, i1, i2, i3, i4, i5, i6, i7, i8, i9, i10, i11, i12, i13, i14, i15⟩ := hA
  obtain ⟨w, hw, ew⟩ := WO_le (x := x) (p := aB f x) hIT (by have := i1.2; omega) i12
  obtain ⟨v, hv, ev⟩ := PTE_le hw i3 i2.2 i5.2 t0.2 i14 hrun
  refine ⟨v, by omega, ?_⟩
  unfold ctC
  rw [ew, t0.1, ev]
theorem neg_toInt {v : Nat} (h : v < 2 ^ 31) : (-nI v).toInt = -(v : Int) := by
  rw [iI_n, iI_neg]; exact iI_toInt (by omega) (by omega)
theorem NT_nI {f : Nat → Int32} {x : Nat} (hA : IA1 f x) (hrun : (tD f : Int) < NT (aN f x) (aD f x)) : ∃ T : Nat, T ≤ 3652 ∧ fA f x 5 = nI T ∧ tD f < T ∧ T ≤ tD f + 31 := by
  obtain ⟨i0, i1, i2, i3, i4, i5, i6, i7, i8, i9, i10, i11, i12, i13, i14, i15⟩ := hA
  obtain ⟨b1, b2, b3, b4, b5⟩ := LT_NT i3 i5.2
  have b6 := NT_LT i3 i2.2 i5.2
  obtain ⟨T, hT⟩ : ∃ T : Nat, (T : Int) = NT (aN f x) (aD f x) := ⟨(NT (aN f x) (aD f x)).toNat, by omega⟩
  refine ⟨T, by omega, ?_, by omega, by omega⟩
  rw [i6, ← hT]; rfl
theorem INV0_cr {f : Nat → Int32} {x : Nat} (hI : INV0 f) (hx : x < 6) (hA : IA1 f x) (hs : sz f < 400) (hrun : (tD f : Int) < NT (aN f x) (aD f x)) : INV0 (crF f x) := by
  obtain ⟨v, hv, ev⟩ := ctC_le hI hA hrun
  obtain ⟨T, hT, eT, hT1, hT2⟩ := NT_nI hA hrun
  have h := neg_toInt (v := v) (by omega)
  unfold crF
  rw [ev]
  exact INV0_wr hI hx hA hs (by decide) hI.1.1 eT hT (by omega) (fun _ => ⟨by omega, by omega, by omega⟩) (by omega)
theorem INV0_ch {f : Nat → Int32} {x : Nat} (hI : INV0 f) (hx : x < 6) (hA : IA1 f x) (hs : sz f < 400) (hrun : (tD f : Int) < NT (aN f x) (aD f x)) : INV0 (chF f x) := by
  obtain ⟨v, hv, ev⟩ := ctC_le hI hA hrun
  obtain ⟨T, hT, eT, hT1, hT2⟩ := NT_nI hA hrun
  have h := nI_toInt (n := v) (by omega)
  unfold chF
  rw [ev]
  exact INV0_wr hI hx hA hs (by decide) hI.1.1 eT hT (by omega) (fun _ => ⟨by omega, by omega, by omega⟩) (by omega)
theorem us_A {f : Nat → Int32} {x y w : Nat} (hx : x < 6) (hy : y < 6) (hw : w < 12) (h : y ≠ x ∨ w ≠ 6) : fA (usF f x) y w = fA f y w := by
  unfold usF
  rw [fA_un (by decide) hw h, wr_A hy hw]
theorem us_6 {f : Nat → Int32} {x : Nat} : fA (usF f x) x 6 = nI 0 := fA_us
theorem INV0_us {f : Nat → Int32} {x : Nat} (hI : INV0 f) (hx : x < 6) (hA : IA1 f x) (hs : sz f < 400) : INV0 (usF f x) := by
  have hA' := hA
  obtain ⟨i0, i1, i2, i3, i4, i5, i6, i7, i8, i9, i10, i11, i12, i13, i14, i15⟩ := hA
  have hb := US_le (u := aU f x) (hI.2.2.2.1.2.2.2.2.2 (aB f x) (by have := i1.2; omega)) i8.2
  have h := nI_toInt (n := US f (aB f x) (aU f x)) (by omega)
  have hW : INV0 (wrF f 2 x (fA f x 4) (f 0) (usC f x)) := INV0_wr hI hx hA' hs (by decide) i5.1 hI.1.1 hI.1.2 i14 (fun h => absurd h (by decide)) (by unfold usC; omega)
  unfold usF
  refine INV0_acc hW hx (fun j hj => upd_n _ _ (by omega)) (fun h0 => by rw [fA_un (by decide) (by decide) (by omega)]; exact h0) (Or.inr ?_)
  have hA2 : IA1 (wrF f 2 x (fA f x 4) (f 0) (usC f x)) x := IA1_congr hA' (fun w hw => wr_A hx hw) (by unfold tD; rw [wr_lo (by decide) (by decide)]; exact Nat.le_refl _) (by rw [wr_sz hs]; omega)
  obtain ⟨j0, j1, j2, j3, j4, j5, j6, j7, j8, j9, j10, j11, j12, j13, j14, j15⟩ := hA2
  have et : tD (upd (wrF f 2 x (fA f x 4) (f 0) (usC f x)) (170 + 12 * x + 6) (nI 0)) = tD (wrF f 2 x (fA f x 4) (f 0) (usC f x)) := by unfold tD; rw [upd_n _ _ (by omega)]
  have es : sz (upd (wrF f 2 x (fA f x 4) (f 0) (usC f x)) (170 + 12 * x + 6) (nI 0)) = sz (wrF f 2 x (fA f x 4) (f 0) (usC f x)) := by unfold sz; rw [upd_n _ _ (by omega)]
  unfold IA1
  rw [et, es]
  unfold aB aN aQ aD aU aZ aX aP aS
  rw [fA_us]
  rw [fA_un (w' := 0) (by decide) (by decide) (by omega), fA_un (w' := 1) (by decide) (by decide) (by omega), fA_un (w' := 2) (by decide) (by decide) (by omega), fA_un (w' := 3) (by decide) (by decide) (by omega), fA_un (w' := 4) (by decide) (by decide) (by omega), fA_un (w' := 5) (by decide) (by decide) (by omega), fA_un (w' := 7) (by decide) (by decide) (by omega), fA_un (w' := 8) (by decide) (by decide) (by omega), fA_un (w' := 9) (by decide) (by decide) (by omega), fA_un (w' := 10) (by decide) (by decide) (by omega)]
  exact ⟨j0, j1, j2, j3, j4, j5, j6, j7, ⟨rfl, by decide⟩, j9, j10, j11, j12, j13, j14, j15⟩
end
section
/-! deeds, side by side -/
def SIM (b : Nat) (M N : Mem) (f : Nat → Int32) : Prop := 4 ≤ b ∧ CalC M ∧ CalM N ∧ RS b M f ∧ INV f
/-- what of the reference's memory a deed may change besides its row -/
def NE (N N' : Mem) : Prop := ∀ o k, o ≠ 217 → (o = 207 → k ≠ 21) → o ≠ 209 → N' o k = N o k
theorem NE.rfl' {N : Mem} : NE N N := fun _ _ _ _ _ => rfl
theorem NE.trans {N N1 N2 : Mem} (h1 : NE N N1) (h2 : NE N1 N2) : NE N N2 := fun o k a b c => (h2 o k a b c).trans (h1 o k a b c)
theorem CalM_NE {N N' : Mem} (h : CalM N) (hF : NE N N') : CalM N' := fun m hm => by rw [hF 208 m (by decide) (fun h => absurd h (by decide)) (by decide)]; exact h m hm
/-- of the row only what is up to the last ENTRY -/
def FX (f f' : Nat → Int32) : Prop := ∀ j, 4250 ≤ j → f' j = f j
theorem FX.rfl' {f : Nat → Int32} : FX f f := fun _ _ => rfl
theorem FX.trans {f f1 f2 : Nat → Int32} (h1 : FX f f1) (h2 : FX f1 f2) : FX f f2 := fun j h => (h2 j h).trans (h1 j h)
theorem FX_wr {f : Nat → Int32} {k x : Nat} {fr to c : Int32} (hs : sz f < 400) : FX f (wrF f k x fr to c) := fun j h => by
  unfold wrF
  simp (disch := omega) only [upd_n]
theorem FX_up {f : Nat → Int32} {j : Nat} {v : Int32} (h : j < 4250) : FX f (upd f j v) := fun i hi => upd_n _ _ (by omega)
theorem FX_us {f : Nat → Int32} {x : Nat} (hx : x < 6) (hs : sz f < 400) : FX f (usF f x) := (FX_wr hs).trans (FX_up (by omega))
theorem FX_op {f : Nat → Int32} {x : Nat} {q : Int32} (hx : x < 6) : FX f (opF f x q) := fun j h => op_lo (by omega) hx
def OPR (b : Nat) (M N : Mem) (f : Nat → Int32) (mc mm : Option (Int32 × Mem)) : Prop := ∃ r M' N' f', mc = some (r, M') ∧ mm = some (r, stF N' f') ∧ SIM b M' N' f' ∧ FD b M M' ∧ NE N N' ∧ FX f f'
theorem OPR_no {b : Nat} {M N : Mem} {f : Nat → Int32} (h : SIM b M N f) (r : Int32) : OPR b M N f (some (r, M)) (some (r, stF N f)) := ⟨r, M, N, f, rfl, rfl, h, FD.rfl', NE.rfl', FX.rfl'⟩
theorem run_c {b : Nat} {M N : Mem} {f : Nat → Int32} (h : SIM b M N f) (a : Int32) :
    (∃ x, x < 6 ∧ a = nI x ∧ IA1 f x ∧ aX f x = 0 ∧ (tD f : Int) < NT (aN f x) (aD f x) ∧ mX1_hasBegun b a M = some 1 ∧ mX1_isRunning b a M = some 1 ∧ mX11_isBegun a (stF N f) = some 1 ∧ mX11_isOn a (stF N f) = some 1) ∨
    (∃ x, x < 6 ∧ a = nI x ∧ IA1 f x ∧ aX f x = 1 ∧ mX1_hasBegun b a M = some 1 ∧ mX1_isRunning b a M = some 0 ∧ mX11_isBegun a (stF N f) = some 1 ∧ mX11_isOn a (stF N f) = some 0) ∨
    (mX1_hasBegun b a M = some 0 ∧ mX1_isRunning b a M = some 0 ∧ mX11_isBegun a (stF N f) = some 0 ∧ mX11_isOn a (stF N f) = some 0) := by
  obtain ⟨hb, hC, hM, hRS, ⟨hI0, hRun⟩⟩ := h
  have e10 : (nI 1 = 0) = False := eq_false (by decide)
  rcases isAccount_c a with ⟨x, -, hx5, rfl, g1, g2⟩ | ⟨g1, g2⟩
  · have hx : x < 6 := by omega
    obtain ⟨a0, a1, a2, a3, a4, a5, a6, a7, a8, a9, a10, a11, a12, a13⟩ := hRS.2.2.2.1 x hx
    have r1 : (1 : Int32) = nI 1 := rfl
    have hB : ∀ v, fA f x 0 = nI v → v ≤ 1 → mX1_hasBegun b (nI x) M = some (nI v) ∧ mX11_isBegun (nI x) (stF N f) = some (nI v) := by
      intro v hv hv1
      unfold mX1_hasBegun mX11_isBegun
      rw [g1, g2]
      simp (disch := omega) only [bnp_some, nI_lit, chk_n, nI_clamp, m_ofS, a1, hv]
      rcases (show v = 0 ∨ v = 1 by omega) with rfl | rfl
      · exact ⟨rfl, rfl⟩
      · exact ⟨rfl, rfl⟩
    rcases hI0.2.2.2.2.1 x hx with hz | hA
    · obtain ⟨h1, h2⟩ := hB 0 (hz 0 (by decide)) (by decide)
      refine Or.inr (Or.inr ⟨h1, ?_, h2, ?_⟩)
      · unfold mX1_isRunning; rw [h1]; rfl
      · unfold mX11_isOn; rw [h2]; rfl
    · obtain ⟨h1, h2⟩ := hB 1 hA.1 (by decide)
      have hX := hA.2.2.2.2.2.2.2.2.2.2.1
      have hX1 := hX.1; have hX2 := hX.2
      have hR : ∀ v, fA f x 8 = nI v → v ≤ 1 → mX1_isRunning b (nI x) M = some (nI (1 - v)) ∧ mX11_isOn (nI x) (stF N f) = some (nI (1 - v)) := by
        intro v hv hv1
        unfold mX1_isRunning mX11_isOn
        rw [h1, h2]
        simp (disch := omega) only [bnp_some, nI_lit, chk_n, nI_clamp, m_ofS, a2, hv]
        rcases (show v = 0 ∨ v = 1 by omega) with rfl | rfl
        · exact ⟨rfl, rfl⟩
        · exact ⟨rfl, rfl⟩
      obtain ⟨h3, h4⟩ := hR _ hX1 hX2
      rcases (show aX f x = 0 ∨ aX f x = 1 by omega) with z | z
      · rw [z] at h3 h4
        exact Or.inl ⟨x, hx, rfl, hA, z, hRun x hx hA.1 z, h1, h3, h2, h4⟩
      · rw [z] at h3 h4
        exact Or.inr (Or.inl ⟨x, hx, rfl, hA, z, h1, h3, h2, h4⟩)
  · refine Or.inr (Or.inr ?_)
    have h1 : mX1_hasBegun b a M = some 0 := by unfold mX1_hasBegun; rw [g1]; rfl
    have h2 : mX11_isBegun a (stF N f) = some 0 := by unfold mX11_isBegun; rw [g2]; rfl
    exact ⟨h1, by unfold mX1_isRunning; rw [h1]; rfl, h2, by unfold mX11_isOn; rw [h2]; rfl⟩
/-- a field put in bounds -/
def okV (w v : Nat) : Prop := (w = 1 ∧ v ≤ 5) ∨ (w = 6 ∧ v ≤ 9999) ∨ (w = 7 ∧ v ≤ 1) ∨ (w = 8 ∧ v ≤ 1) ∨ (w = 9 ∧ v ≤ 99999999) ∨ (w = 10 ∧ 1 ≤ v ∧ v ≤ 9)
theorem IA1_put {f : Nat → Int32} {x w v : Nat} (hx : x < 6) (h : IA1 f x) (hv : okV w v) : IA1 (upd f (170 + 12 * x + w) (nI v)) x := by
  have hw : w < 12 := by unfold okV at hv; omega
  obtain ⟨i0, i1, i2, i3, i4, i5, i6, i7, i8, i9, i10, i11, i12, i13, i14, i15⟩ := h
  have et : tD (upd f (170 + 12 * x + w) (nI v)) = tD f := by unfold tD; rw [upd_n _ _ (by omega)]
  have es : sz (upd f (170 + 12 * x + w) (nI v)) = sz f := by unfold sz; rw [upd_n _ _ (by omega)]
  have k : ∀ w', w' < 12 → w' ≠ w → fA (upd f (170 + 12 * x + w) (nI v)) x w' = fA f x w' := fun w' h1 h2 => fA_un hw h1 (Or.inr h2)
  have s : fA (upd f (170 + 12 * x + w) (nI v)) x w = nI v := fA_us
  unfold IA1
  rw [et, es]
  unfold aB aN aQ aD aU aZ aX aP aS
  rcases hv with ⟨rfl, hv⟩ | ⟨rfl, hv⟩ | ⟨rfl, hv⟩ | ⟨rfl, hv⟩ | ⟨rfl, hv⟩ | ⟨rfl, hv1, hv⟩
  · rw [s, k 0 (by decide) (by decide), k 2 (by decide) (by decide), k 3 (by decide) (by decide), k 4 (by decide) (by decide), k 5 (by decide) (by decide), k 6 (by decide) (by decide), k 7 (by decide) (by decide), k 8 (by decide) (by decide), k 9 (by decide) (by decide), k 10 (by decide) (by decide)]
    exact ⟨i0, isM_nI hv (by decide), i2, i3, i4, i5, i6, i7, i8, i9, i10, i11, i12, i13, i14, i15⟩
  · rw [s, k 0 (by decide) (by decide), k 1 (by decide) (by decide), k 2 (by decide) (by decide), k 3 (by decide) (by decide), k 4 (by decide) (by decide), k 5 (by decide) (by decide), k 7 (by decide) (by decide), k 8 (by decide) (by decide), k 9 (by decide) (by decide), k 10 (by decide) (by decide)]
    exact ⟨i0, i1, i2, i3, i4, i5, i6, i7, isM_nI hv (by decide), i9, i10, i11, i12, i13, i14, i15⟩
  · rw [s, k 0 (by decide) (by decide), k 1 (by decide) (by decide), k 2 (by decide) (by decide), k 3 (by decide) (by decide), k 4 (by decide) (by decide), k 5 (by decide) (by decide), k 6 (by decide) (by decide), k 8 (by decide) (by decide), k 9 (by decide) (by decide), k 10 (by decide) (by decide)]
    exact ⟨i0, i1, i2, i3, i4, i5, i6, i7, i8, isM_nI hv (by decide), i10, i11, i12, i13, i14, i15⟩
  · rw [s, k 0 (by decide) (by decide), k 1 (by decide) (by decide), k 2 (by decide) (by decide), k 3 (by decide) (by decide), k 4 (by decide) (by decide), k 5 (by decide) (by decide), k 6 (by decide) (by decide), k 7 (by decide) (by decide), k 9 (by decide) (by decide), k 10 (by decide) (by decide)]
    exact ⟨i0, i1, i2, i3, i4, i5, i6, i7, i8, i9, isM_nI hv (by decide), i11, i12, i13, i14, i15⟩
  · rw [s, k 0 (by decide) (by decide), k 1 (by decide) (by decide), k 2 (by decide) (by decide), k 3 (by decide) (by decide), k 4 (by decide) (by decide), k 5 (by decide) (by decide), k 6 (by decide) (by decide), k 7 (by decide) (by decide), k 8 (by decide) (by decide), k 10 (by decide) (by decide)]
    exact ⟨i0, i1, i2, i3, i4, i5, i6, i7, i8, i9, i10, isM_nI hv (by decide), i12, i13, i14, i15⟩
  · rw [s, k 0 (by decide) (by decide), k 1 (by decide) (by decide), k 2 (by decide) (by decide), k 3 (by decide) (by decide), k 4 (by decide) (by decide), k 5 (by decide) (by decide), k 6 (by decide) (by decide), k 7 (by decide) (by decide), k 8 (by decide) (by decide), k 9 (by decide) (by decide)]
    exact ⟨i0, i1, i2, i3, i4, i5, i6, i7, i8, i9, i10, i11, isM_nI hv (by decide), by rw [na_nI (by omega)]; exact hv1, i14, i15⟩
theorem INV0_put {f : Nat → Int32} {x w v : Nat} (hI : INV0 f) (hx : x < 6) (h : IA1 f x) (hv : okV w v) : INV0 (upd f (170 + 12 * x + w) (nI v)) := by
  have hw : w < 12 ∧ w ≠ 0 := by unfold okV at hv; omega
  exact INV0_acc hI hx (fun j hj => upd_n _ _ (by omega)) (fun h0 => by rw [fA_un hw.1 (by decide) (by omega)]; exact h0) (Or.inr (IA1_put hx h hv))
/-- RUN is of four numbers -/
theorem RUN_congr {f f' : Nat → Int32} {x : Nat} (h : RUN f x) (ht : tD f' = tD f) (h0 : fA f' x 0 = nI 1 → fA f x 0 = nI 1) (h2 : fA f' x 2 = fA f x 2) (h4 : fA f' x 4 = fA f x 4) (h8 : fA f' x 8 = nI 0 → fA f x 8 = nI 0) (hm : fA f' x 0 = nI 1 → isM (fA f' x 8) (aX f' x) 1) : RUN f' x := by
  intro a1 a2
  have hX := (hm a1).1
  rw [a2] at hX
  have h9 := h8 hX
  have := h (h0 a1) (by unfold aX; rw [h9]; rfl)
  rw [ht]
  unfold aN aD at *
  rw [h2, h4]
  exact this
theorem INV0_X {f : Nat → Int32} {x : Nat} (h : INV0 f) (hx : x < 6) (h0 : fA f x 0 = nI 1) : IA1 f x := by
  rcases h.2.2.2.2.1 x hx with q | q
  · have := q 0 (by decide)
    rw [h0] at this
    exact absurd this (by decide)
  · exact q
theorem RUN_same {f f' : Nat → Int32} {x : Nat} (hI : INV0 f') (hx : x < 6) (h : RUN f x) (ht : tD f' = tD f) (hA : ∀ w, w = 0 ∨ w = 2 ∨ w = 4 ∨ w = 8 → fA f' x w = fA f x w) : RUN f' x :=
  RUN_congr h ht (fun q => by rw [← hA 0 (Or.inl rfl)]; exact q) (hA 2 (by omega)) (hA 4 (by omega)) (fun q => by rw [← hA 8 (by omega)]; exact q) (fun q => (INV0_X hI hx q).2.2.2.2.2.2.2.2.2.2.1)
theorem wr_tD {f : Nat → Int32} {k x : Nat} {fr to c : Int32} : tD (wrF f k x fr to c) = tD f := by unfold tD; rw [wr_lo (by decide) (by decide)]
theorem upA_tD {f : Nat → Int32} {x w : Nat} {v : Int32} : tD (upd f (170 + 12 * x + w) v) = tD f := by unfold tD; rw [upd_n _ _ (by omega)]
theorem upA_sz {f : Nat → Int32} {x w : Nat} {v : Int32} : sz (upd f (170 + 12 * x + w) v) = sz f := by unfold sz; rw [upd_n _ _ (by omega)]
theorem room_c {b : Nat} {M : Mem} {f : Nat → Int32} {k : Nat} (hRS : RS b M f) (hI : INV0 f) (hk : k < 400) : mX5_haveRoom (b + 36) (nI k) M = some (if sz f + k ≤ 400 then 1 else 0) := by
  have h1 := hI.2.1.1; have h2 := hI.2.1.2
  unfold mX5_haveRoom
  rw [hRS.2.2.2.2.1, h1, nI_add]
  by_cases q : sz f + k ≤ 400
  · rw [if_neg (by rw [show (400 : Int32) = nI 400 from rfl, nI_ltI (by omega) (by omega)]; omega), if_pos q]
  · rw [if_pos (by rw [show (400 : Int32) = nI 400 from rfl, nI_ltI (by omega) (by omega)]; omega), if_neg q]
/-- credit, a field put, charge -/
theorem s_swap {b x w k v n : Nat} {M N : Mem} {f : Nat → Int32} (hS : SIM b M N f) (hx : x < 6) (hA : IA1 f x) (h0 : aX f x = 0) (hrun : (tD f : Int) < NT (aN f x) (aD f x)) (hs : sz f ≤ 398) (hn : 200 ≤ n)
    (hk : (w = 7 ∧ k = 3) ∨ (w = 1 ∧ k = 4) ∨ (w = 10 ∧ k = 6)) (hv : okV w v) :
    ∃ c1 c2 M1 M2 f', mX1_writeCredit n b (b + 35 + 12 + x) M = some (c1, M1) ∧ mX11_credits n (nI x) (stF N f) = some (c1, stF N (crF f x)) ∧ mX1_writeCharge n b (b + 35 + 12 + x) (upd2 M1 (b + 35 + 12 + x) k (nI v)) = some (c2, M2) ∧
      mX11_charges n (nI x) (stF N (upd (crF f x) (170 + 12 * x + w) (nI v))) = some (c2, stF N f') ∧ SIM b M2 N f' ∧ FD b M M2 ∧ FX f f' := by
  obtain ⟨hb, hC, hM, hRS, ⟨hI0, hRun⟩⟩ := hS
  have hw12 : w < 12 := by omega
  obtain ⟨M1, w1, w2, w3, w4⟩ := s_credit hRS hM hI0 hx hA (by omega) hrun hn
  have hI1 := INV0_cr hI0 hx hA (by omega) hrun
  have cA : ∀ y u, y < 6 → u < 12 → fA (crF f x) y u = fA f y u := fun y u hy hu => wr_A hy hu
  have ct : tD (crF f x) = tD f := wr_tD
  have cs : sz (crF f x) = sz f + 1 := wr_sz (by omega)
  have hA1 : IA1 (crF f x) x := IA1_congr hA (fun u hu => cA x u hx hu) (by rw [ct]; exact Nat.le_refl _) (by omega)
  have hI2 := INV0_put hI1 hx hA1 hv
  have hA2 := IA1_put hx hA1 hv
  have hR2 : RS b (upd2 M1 (b + 35 + 12 + x) k (nI v)) (upd (crF f x) (170 + 12 * x + w) (nI v)) := RS_put w3 hI1.2.2.2.1 hx (by omega)
  have pN : ∀ y u, y < 6 → u < 12 → u ≠ w → fA (upd (crF f x) (170 + 12 * x + w) (nI v)) y u = fA f y u := fun y u hy hu h => by rw [fA_un hw12 hu (Or.inr h)]; exact cA y u hy hu
  have hrun2 : (tD (upd (crF f x) (170 + 12 * x + w) (nI v)) : Int) < NT (aN (upd (crF f x) (170 + 12 * x + w) (nI v)) x) (aD (upd (crF f x) (170 + 12 * x + w) (nI v)) x) := by
    rw [upA_tD, ct]
    unfold aN aD at *
    rw [pN x 2 hx (by decide) (by omega), pN x 4 hx (by decide) (by omega)]
    exact hrun
  have hs2 : sz (upd (crF f x) (170 + 12 * x + w) (nI v)) < 400 := by rw [upA_sz, cs]; omega
  obtain ⟨M2, z1, z2, z3, z4⟩ := s_charge hR2 hM hI2 hx hA2 hs2 hrun2 hn
  have hI3 := INV0_ch hI2 hx hA2 hs2 hrun2
  have hFD : FD b M M2 := (w4.trans (FD_put hx)).trans z4
  refine ⟨_, _, M1, M2, _, w1, w2, z1, z2, ⟨hb, CalC_FD hb hC hFD, hM, z3, hI3, fun y hy => ?_⟩, hFD, ((FX_wr (by omega)).trans (FX_up (by omega))).trans (FX_wr hs2)⟩
  refine RUN_same hI3 hy (hRun y hy) (by unfold chF; rw [wr_tD, upA_tD, ct]) (fun u hu => ?_)
  unfold chF
  rw [wr_A hy (by omega), pN y u hy (by omega) (by omega)]
end
section
/-! the deeds: change, seats, pause, quit, use, pay -/
theorem op_change {b n : Nat} {M N : Mem} {f : Nat → Int32} (hS : SIM b M N f) (hn : 200 ≤ n) (a p : Int32) : OPR b M N f (mX1_putPlan n b a p M) (mX11_change n a p (stF N f)) := by
  unfold mX1_putPlan mX11_change
  obtain ⟨hb, hC, hM, hRS, ⟨hI0, hRun⟩⟩ := id hS
  have h1 := hI0.2.1.1; have h1' := hI0.2.1.2
  have e10 : ((1 : Int32) = 0) = False := eq_false (by decide)
  rcases run_c hS a with ⟨x, hx, rfl, hA, h0, hr, e1, e2, e3, e4⟩ | ⟨x, hx, rfl, hA, h0, e1, e2, e3, e4⟩ | ⟨e1, e2, e3, e4⟩
  · rw [e2, e4]
    simp only [bnp_some, e10, if_false]
    obtain ⟨a0, a1, a2, a3, a4, a5, a6, a7, a8, a9, a10, a11, a12, a13⟩ := hRS.2.2.2.1 x hx
    obtain ⟨i0, i1, i2, i3, i4, i5, i6, i7, i8, i9, i10, i11, i12, i13, i14, i15⟩ := id hA
    have room := room_c (k := 2) hRS hI0 (by decide)
    have hv1 := i1.1; have hv2 := i1.2
    rcases isPlan_c p with ⟨q, -, hq, rfl, g1, g2⟩ | ⟨g1, g2⟩
    · rw [g1, g2]
      simp only [bnp_some, e10, if_false]
      simp (disch := omega) only [nI_lit, chk_n, nI_clamp, m_ofS, bnp_some, stF_f, a4, hv1, h1, room, nI_eq, nI_leI]
      by_cases hp : aB f x = q
      · rw [if_pos hp, if_pos hp.symm]; exact OPR_no hS _
      · rw [if_neg hp, if_neg (Ne.symm hp)]
        by_cases hs : sz f ≤ 398
        · obtain ⟨c1, c2, M1, M2, f', w1, w2, w3, w4, w5, w6, w7⟩ := s_swap (w := 1) (k := 4) (v := q) hS hx hA h0 hr hs hn (by omega) (Or.inl ⟨rfl, hq⟩)
          rw [if_pos (show sz f + 2 ≤ 400 by omega), if_neg (by decide), if_pos hs, w1, w2]
          simp (disch := omega) only [bnd_some, bnp_some, m_sets]
          rw [w3, w4]
          exact ⟨_, _, N, _, rfl, rfl, w5, w6, NE.rfl', w7⟩
        · rw [if_neg (show ¬ sz f + 2 ≤ 400 by omega), if_pos rfl, if_neg hs]; exact OPR_no hS _
    · rw [g1, g2]; exact OPR_no hS _
  · rw [e2, e4]; exact OPR_no hS _
  · rw [e2, e4]; exact OPR_no hS _

theorem op_seats {b n : Nat} {M N : Mem} {f : Nat → Int32} (hS : SIM b M N f) (hn : 200 ≤ n) (a p : Int32) : OPR b M N f (mX1_putSeats n b a p M) (mX11_seats n a p (stF N f)) := by
  unfold mX1_putSeats mX11_seats
  obtain ⟨hb, hC, hM, hRS, ⟨hI0, hRun⟩⟩ := id hS
  have h1 := hI0.2.1.1; have h1' := hI0.2.1.2
  have e10 : ((1 : Int32) = 0) = False := eq_false (by decide)
  rcases run_c hS a with ⟨x, hx, rfl, hA, h0, hr, e1, e2, e3, e4⟩ | ⟨x, hx, rfl, hA, h0, e1, e2, e3, e4⟩ | ⟨e1, e2, e3, e4⟩
  · rw [e2, e4]
    simp only [bnp_some, e10, if_false]
    obtain ⟨a0, a1, a2, a3, a4, a5, a6, a7, a8, a9, a10, a11, a12, a13⟩ := hRS.2.2.2.1 x hx
    obtain ⟨i0, i1, i2, i3, i4, i5, i6, i7, i8, i9, i10, i11, i12, i13, i14, i15⟩ := id hA
    have room := room_c (k := 2) hRS hI0 (by decide)
    have hv1 := i12.1; have hv2 := i12.2
    rcases in_c p 1 9 10 1 9 rfl rfl rfl (by decide) (by decide) with ⟨q, hq1, hq, rfl, g1, g2, g3, g4⟩ | ⟨g4, g1⟩
    · rw [g4, if_neg g1, if_neg g2]
      simp only [bnp_some, e10, if_false]
      simp (disch := omega) only [nI_lit, chk_n, nI_clamp, m_ofS, bnp_some, stF_f, a6, hv1, h1, room, nI_eq, nI_leI]
      by_cases hp : aS f x = q
      · rw [if_pos hp, if_pos hp.symm]; exact OPR_no hS _
      · rw [if_neg hp, if_neg (Ne.symm hp)]
        by_cases hs : sz f ≤ 398
        · obtain ⟨c1, c2, M1, M2, f', w1, w2, w3, w4, w5, w6, w7⟩ := s_swap (w := 10) (k := 6) (v := q) hS hx hA h0 hr hs hn (by omega) (by unfold okV; omega)
          rw [if_pos (show sz f + 2 ≤ 400 by omega), if_neg (by decide), if_pos hs, w1, w2]
          simp (disch := omega) only [bnd_some, bnp_some, m_sets]
          rw [w3, w4]
          exact ⟨_, _, N, _, rfl, rfl, w5, w6, NE.rfl', w7⟩
        · rw [if_neg (show ¬ sz f + 2 ≤ 400 by omega), if_pos rfl, if_neg hs]; exact OPR_no hS _
    · rw [g4]
      rcases g1 with g1 | ⟨g1, g2, g3⟩
      · rw [if_pos g1]; exact OPR_no hS _
      · rw [if_neg g1, if_pos g2]; exact OPR_no hS _
  · rw [e2, e4]; exact OPR_no hS _
  · rw [e2, e4]; exact OPR_no hS _

theorem op_pause {b n : Nat} {M N : Mem} {f : Nat → Int32} (hS : SIM b M N f) (hn : 200 ≤ n) (a p : Int32) (hp01 : p = 0 ∨ p = 1) : OPR b M N f (mX1_putPaused n b a p M) (mX11_pause n a p (stF N f)) := by
  unfold mX1_putPaused mX11_pause
  obtain ⟨hb, hC, hM, hRS, ⟨hI0, hRun⟩⟩ := id hS
  have h1 := hI0.2.1.1; have h1' := hI0.2.1.2
  have e10 : ((1 : Int32) = 0) = False := eq_false (by decide)
  rcases run_c hS a with ⟨x, hx, rfl, hA, h0, hr, e1, e2, e3, e4⟩ | ⟨x, hx, rfl, hA, h0, e1, e2, e3, e4⟩ | ⟨e1, e2, e3, e4⟩
  · rw [e2, e4]
    simp only [bnp_some, e10, if_false]
    obtain ⟨a0, a1, a2, a3, a4, a5, a6, a7, a8, a9, a10, a11, a12, a13⟩ := hRS.2.2.2.1 x hx
    obtain ⟨i0, i1, i2, i3, i4, i5, i6, i7, i8, i9, i10, i11, i12, i13, i14, i15⟩ := id hA
    have room := room_c (k := 2) hRS hI0 (by decide)
    have hv1 := i9.1; have hv2 := i9.2
    obtain ⟨q, hq, rfl⟩ : ∃ q, q ≤ 1 ∧ p = nI q := by
      rcases hp01 with rfl | rfl
      · exact ⟨0, by decide, rfl⟩
      · exact ⟨1, by decide, rfl⟩
    have hsel : ∀ r M0, (if nI q = 0 then mX11_pause_c24 n (nI x) (nI q) 0 r M0 else mX11_pause_c24 n (nI x) (nI q) 1 r M0) = mX11_pause_c24 n (nI x) (nI q) (nI q) r M0 := by
      intro r M0
      rcases (show q = 0 ∨ q = 1 by omega) with rfl | rfl <;> rfl
    simp (disch := omega) only [m_ofS, bnp_some, show (7 : Int32) = nI 7 from rfl]
    rw [hsel]
    unfold mX11_pause_c24
    rcases (show q = 0 ∨ q = 1 by omega) with rfl | rfl
    · simp (disch := omega) only [nI_lit, chk_n, nI_clamp, m_ofS, bnp_some, stF_f, a3, hv1, h1, room, nI_eq, nI_leI]
      by_cases hp : aZ f x = 0
      · rw [if_pos hp, if_pos hp]; exact OPR_no hS _
      · rw [if_neg hp, if_neg hp]
        by_cases hs : sz f ≤ 398
        · obtain ⟨c1, c2, M1, M2, f', w1, w2, w3, w4, w5, w6, w7⟩ := s_swap (w := 7) (k := 3) (v := 0) hS hx hA h0 hr hs hn (by omega) (by unfold okV; omega)
          rw [if_pos (show sz f + 2 ≤ 400 by omega), if_neg (by decide), if_pos hs, w1, w2]
          simp only [bnd_some]
          rw [if_pos trivial]
          simp (disch := omega) only [bnp_some, m_sets]
          rw [w3, w4]
          exact ⟨_, _, N, _, rfl, rfl, w5, w6, NE.rfl', w7⟩
        · rw [if_neg (show ¬ sz f + 2 ≤ 400 by omega), if_pos rfl, if_neg hs]; exact OPR_no hS _
    · simp (disch := omega) only [nI_lit, chk_n, nI_clamp, m_ofS, bnp_some, stF_f, a3, hv1, h1, room, nI_eq, nI_leI]
      by_cases hp : aZ f x = 1
      · rw [if_pos hp, if_pos hp]; exact OPR_no hS _
      · rw [if_neg hp, if_neg hp]
        by_cases hs : sz f ≤ 398
        · obtain ⟨c1, c2, M1, M2, f', w1, w2, w3, w4, w5, w6, w7⟩ := s_swap (w := 7) (k := 3) (v := 1) hS hx hA h0 hr hs hn (by omega) (by unfold okV; omega)
          rw [if_pos (show sz f + 2 ≤ 400 by omega), if_neg (by decide), if_pos hs, w1, w2]
          simp only [bnd_some]
          rw [if_neg (by decide)]
          simp (disch := omega) only [bnp_some, m_sets]
          rw [w3, w4]
          exact ⟨_, _, N, _, rfl, rfl, w5, w6, NE.rfl', w7⟩
        · rw [if_neg (show ¬ sz f + 2 ≤ 400 by omega), if_pos rfl, if_neg hs]; exact OPR_no hS _
  · rw [e2, e4]; exact OPR_no hS _
  · rw [e2, e4]; exact OPR_no hS _

/-- quit -/
theorem usW_congr {b b' c c' : Nat → Nat} {R v : Nat} : ∀ (d i : Nat), (∀ j, i ≤ j → j < i + d → b' j = b j ∧ c' j = c j) → usW b' c' R v i d = usW b c R v i d
  | 0, i, _ => rfl
  | d + 1, i, h => by
    rw [usW_s, usW_s, (h i (Nat.le_refl _) (by omega)).1, (h i (Nat.le_refl _) (by omega)).2, usW_congr d (i + 1) (fun j h1 h2 => h j (by omega) (by omega))]
theorem usA_congr {b b' c c' : Nat → Nat} {R v : Nat} : ∀ (d i lo : Nat), (∀ j, i ≤ j → j < i + d → b' j = b j ∧ c' j = c j) → usA b' c' R v lo i d = usA b c R v lo i d
  | 0, i, lo, _ => rfl
  | d + 1, i, lo, h => by
    rw [usA_s, usA_s, (h i (Nat.le_refl _) (by omega)).1, (h i (Nat.le_refl _) (by omega)).2, usA_congr d (i + 1) _ (fun j h1 h2 => h j (by omega) (by omega))]
theorem US_congr {f f' : Nat → Int32} {p u : Nat} (hT : pT f p ≤ 4) (hf : ∀ w, w < 24 → fP f' p w = fP f p w) : US f' p u = US f p u := by
  have e1 : pT f' p = pT f p := by unfold pT; rw [hf 2 (by decide)]
  have e2 : pR f' p = pR f p := by unfold pR; rw [hf 3 (by decide)]
  have e3 : pF f' p = pF f p := by unfold pF; rw [hf 1 (by decide)]
  have e4 : ∀ j, 0 ≤ j → j < 0 + pT f p → pB f' p j = pB f p j ∧ pC f' p j = pC f p j := fun j _ hj => ⟨by unfold pB; rw [hf _ (by omega)], by unfold pC; rw [hf _ (by omega)]⟩
  unfold US
  rw [e1, e2, e3, hf 4 (by decide), usW_congr _ _ e4, usA_congr _ _ _ e4]
theorem us_upd8 {f : Nat → Int32} {x : Nat} {v : Int32} (hx : x < 6) (hB : aB f x ≤ 5) (hIT : IT f) : usC (upd f (170 + 12 * x + 8) v) x = usC f x ∧ usF (upd f (170 + 12 * x + 8) v) x = upd (usF f x) (170 + 12 * x + 8) v := by
  have hU : aU (upd f (170 + 12 * x + 8) v) x = aU f x := by unfold aU; rw [fA_un (by decide) (by decide) (by omega)]
  have hB2 : aB (upd f (170 + 12 * x + 8) v) x = aB f x := by unfold aB; rw [fA_un (by decide) (by decide) (by omega)]
  have hC : usC (upd f (170 + 12 * x + 8) v) x = usC f x := by
    unfold usC
    have e := US_congr (f' := upd f (170 + 12 * x + 8) v) (p := aB f x) (u := aU f x) (hIT.2.2.2.2.2 _ (by omega)).2.2.1.2 (fun w hw => show upd f (170 + 12 * x + 8) v (20 + 24 * aB f x + w) = f (20 + 24 * aB f x + w) from upd_n _ _ (by omega))
    rw [hU, hB2, e]
  refine ⟨hC, ?_⟩
  unfold usF
  rw [hC, fA_un (by decide) (by decide) (by omega), upd_n (j := 0) _ _ (by omega), wr_updA hx (by decide) (by decide) (by decide)]
  funext j
  unfold upd
  by_cases h1 : j = 170 + 12 * x + 6
  · rw [if_pos h1, if_neg (by omega), if_pos h1]
  · rw [if_neg h1, if_neg h1]
theorem op_quit {b n : Nat} {M N : Mem} {f : Nat → Int32} (hS : SIM b M N f) (hn : 200 ≤ n) (a : Int32) : OPR b M N f (mX1_endAccount n b a M) (mX11_giveUp n a (stF N f)) := by
  unfold mX1_endAccount mX11_giveUp
  obtain ⟨hb, hC, hM, hRS, ⟨hI0, hRun⟩⟩ := id hS
  have h1 := hI0.2.1.1; have h1' := hI0.2.1.2
  have e10 : ((1 : Int32) = 0) = False := eq_false (by decide)
  rcases run_c hS a with ⟨x, hx, rfl, hA, h0, hr, e1, e2, e3, e4⟩ | ⟨x, hx, rfl, hA, h0, e1, e2, e3, e4⟩ | ⟨e1, e2, e3, e4⟩
  · rw [e2, e4]
    simp only [bnp_some, e10, if_false]
    have room := room_c (k := 2) hRS hI0 (by decide)
    simp (disch := omega) only [nI_lit, chk_n, nI_clamp, bnp_some, stF_f, h1, room, nI_leI]
    by_cases hs : sz f ≤ 398
    · obtain ⟨M1, w1, w2, w3, w4⟩ := s_credit hRS hM hI0 hx hA (by omega) hr hn
      have hI1 := INV0_cr hI0 hx hA (by omega) hr
      have cA : ∀ y u, y < 6 → u < 12 → fA (crF f x) y u = fA f y u := fun y u hy hu => wr_A hy hu
      have ct : tD (crF f x) = tD f := wr_tD
      have cs : sz (crF f x) = sz f + 1 := wr_sz (by omega)
      have hA1 : IA1 (crF f x) x := IA1_congr hA (fun u hu => cA x u hx hu) (by rw [ct]; exact Nat.le_refl _) (by omega)
      have hok : okV 8 1 := by unfold okV; omega
      have hI2 := INV0_put hI1 hx hA1 hok
      have hA2 := IA1_put hx hA1 hok
      have hR2 : RS b (upd2 M1 (b + 35 + 12 + x) 2 (nI 1)) (upd (crF f x) (170 + 12 * x + 8) (nI 1)) := RS_put w3 hI1.2.2.2.1 hx (by omega)
      have hs2 : sz (upd (crF f x) (170 + 12 * x + 8) (nI 1)) < 400 := by rw [upA_sz, cs]; omega
      obtain ⟨M2, z1, z2, z3, z4⟩ := s_usage (N := N) hR2 hI2 hx hA2 hs2 hn
      obtain ⟨M3, y1, y2, y3, y4⟩ := s_usage (N := N) w3 hI1 hx hA1 (by omega) hn
      obtain ⟨q1, q2⟩ := us_upd8 (v := nI 1) hx hA1.2.1.2 hI1.2.2.2.1
      have hI3 := INV0_us hI2 hx hA2 hs2
      have hFD : FD b M M2 := (w4.trans (FD_put hx)).trans z4
      rw [q1] at z1
      rw [q2] at z3 hI3
      rw [if_pos (show sz f + 2 ≤ 400 by omega), if_neg (by decide), if_pos hs, w1, w2]
      simp only [bnd_some]
      rw [z1, y2]
      simp (disch := omega) only [bnd_some, bnp_some, m_sets]
      refine ⟨_, _, N, _, rfl, rfl, ⟨hb, CalC_FD hb hC hFD, hM, z3, hI3, fun y hy => ?_⟩, hFD, NE.rfl', ((FX_wr (by omega)).trans (FX_us (f := crF f x) hx (by omega))).trans (FX_up (by omega))⟩
      have et : tD (upd (usF (crF f x) x) (170 + 12 * x + 8) (nI 1)) = tD f := by rw [upA_tD]; unfold usF; rw [upA_tD, wr_tD, ct]
      by_cases h : y = x
      · subst h
        intro _ h8
        unfold aX at h8
        rw [fA_us, na_nI (by omega)] at h8
        exact absurd h8 (by decide)
      · refine RUN_same hI3 hy (hRun y hy) et (fun u hu => ?_)
        rw [fA_un (by decide) (by omega) (Or.inl h), us_A hx hy (by omega) (Or.inl h), cA y u hy (by omega)]
    · rw [if_neg (show ¬ sz f + 2 ≤ 400 by omega), if_pos rfl, if_neg hs]; exact OPR_no hS _
  · rw [e2, e4]; exact OPR_no hS _
  · rw [e2, e4]; exact OPR_no hS _
/-- a field put alone -/
theorem s_put {b x w k v : Nat} {M N : Mem} {f : Nat → Int32} (hS : SIM b M N f) (hx : x < 6) (hA : IA1 f x) (hk : (w = 6 ∧ k = 11) ∨ (w = 9 ∧ k = 12)) (hv : okV w v) : SIM b (upd2 M (b + 35 + 12 + x) k (nI v)) N (upd f (170 + 12 * x + w) (nI v)) ∧ FD b M (upd2 M (b + 35 + 12 + x) k (nI v)) := by
  obtain ⟨hb, hC, hM, hRS, ⟨hI0, hRun⟩⟩ := hS
  have hw : w < 12 := by omega
  have hFD : FD b M (upd2 M (b + 35 + 12 + x) k (nI v)) := FD_put hx
  have hI := INV0_put hI0 hx hA hv
  refine ⟨⟨hb, CalC_FD hb hC hFD, hM, RS_put hRS hI0.2.2.2.1 hx (by omega), hI, fun y hy => ?_⟩, hFD⟩
  exact RUN_same hI hy (hRun y hy) upA_tD (fun u hu => fA_un hw (by omega) (by omega))
theorem sub_le' {v : Int32} {B u : Nat} (hB : B ≤ 99999999) (hu : u ≤ B) (h0 : 0 ≤ v) : (v ≤ nI B - nI u) ↔ ∃ k, v = nI k ∧ k + u ≤ B := by
  rw [pk_sub hu]
  constructor
  · intro h
    obtain ⟨k, hk, rfl⟩ := of_range (N := B - u) h0 h (by omega)
    exact ⟨k, rfl, by omega⟩
  · rintro ⟨k, rfl, hk⟩
    rw [nI_leI (by omega) (by omega)]; omega
theorem op_use {b : Nat} {M N : Mem} {f : Nat → Int32} (hS : SIM b M N f) (a v : Int32) : OPR b M N f (mX1_addUnits b a v M) (mX11_use a v (stF N f)) := by
  unfold mX1_addUnits mX11_use
  obtain ⟨hb, hC, hM, hRS, ⟨hI0, hRun⟩⟩ := id hS
  have h1 := hI0.2.1.1; have h1' := hI0.2.1.2
  have e10 : ((1 : Int32) = 0) = False := eq_false (by decide)
  rcases run_c hS a with ⟨x, hx, rfl, hA, h0, hr, e1, e2, e3, e4⟩ | ⟨x, hx, rfl, hA, h0, e1, e2, e3, e4⟩ | ⟨e1, e2, e3, e4⟩
  · rw [e2, e4]
    simp only [bnp_some, e10, if_false]
    obtain ⟨a0, a1, a2, a3, a4, a5, a6, a7, a8, a9, a10, a11, a12, a13⟩ := hRS.2.2.2.1 x hx
    obtain ⟨i0, i1, i2, i3, i4, i5, i6, i7, i8, i9, i10, i11, i12, i13, i14, i15⟩ := id hA
    have z1 := i9.1; have z2 := i9.2; have u1 := i8.1; have u2 := i8.2
    by_cases hv : 0 ≤ v
    · rw [if_pos hv, if_pos hv]
      simp (disch := omega) only [nI_lit, chk_n, nI_clamp, m_ofS, bnp_some, a3, a11, z1, u1, lt_eq, u2s, nI_eq]
      rcases (show aZ f x = 0 ∨ aZ f x = 1 by omega) with z | z
      · rw [if_pos z, if_neg (show ¬ aZ f x = 1 by omega)]
        have hle := sub_le' (v := v) (B := 9999) (u := aU f x) (by decide) u2 hv
        by_cases h : v ≤ nI 9999 - nI (aU f x)
        · obtain ⟨k, rfl, hk⟩ := hle.mp h
          rw [if_pos h, if_pos h, nI_add]
          simp (disch := omega) only [m_sets, bnp_some, m_ofS, fA_us]
          obtain ⟨s1, s2⟩ := s_put (w := 6) (k := 11) (v := aU f x + k) hS hx hA (by omega) (by unfold okV; omega)
          exact ⟨_, _, N, _, rfl, rfl, s1, s2, NE.rfl', FX_up (by omega)⟩
        · rw [if_neg h, if_neg h]; exact OPR_no hS _
      · rw [if_neg (show ¬ aZ f x = 0 by omega), if_pos z]; exact OPR_no hS _
    · rw [if_neg hv, if_neg hv]; exact OPR_no hS _
  · rw [e2, e4]; exact OPR_no hS _
  · rw [e2, e4]; exact OPR_no hS _
theorem beg_c {b : Nat} {M N : Mem} {f : Nat → Int32} (h : SIM b M N f) (a : Int32) : (∃ x, x < 6 ∧ a = nI x ∧ IA1 f x ∧ mX1_hasBegun b a M = some 1 ∧ mX11_isBegun a (stF N f) = some 1) ∨ (mX1_hasBegun b a M = some 0 ∧ mX11_isBegun a (stF N f) = some 0) := by
  rcases run_c h a with ⟨x, hx, rfl, hA, h0, hr, e1, e2, e3, e4⟩ | ⟨x, hx, rfl, hA, h0, e1, e2, e3, e4⟩ | ⟨e1, e2, e3, e4⟩
  · exact Or.inl ⟨x, hx, rfl, hA, e1, e3⟩
  · exact Or.inl ⟨x, hx, rfl, hA, e1, e3⟩
  · exact Or.inr ⟨e1, e3⟩
end
section
/-! pay -/
theorem le9 {q u : Nat} (hu : u ≤ 99999999) (hq : q ≤ 999999) : (nI q ≤ (99999999 : Int32) - nI u) = (q + u ≤ 99999999) := by
  have e : (99999999 : Int32) = nI 99999999 := nI_lit 99999999
  rw [e, pk_sub hu, nI_leI (by omega) (by omega)]
  exact propext (by omega)
theorem c_pay1 {b x q : Nat} {M : Mem} {f : Nat → Int32} (hx : x < 6) (hA : RA (b + 35 + 12 + x) x M f) (e1 : mX1_hasBegun b (nI x) M = some 1) (hu1 : fA f x 9 = nI (aP f x)) (hu2 : aP f x ≤ 99999999) (hq1 : 1 ≤ q) (hq : q ≤ 999999) (h : q + aP f x ≤ 99999999) : mX1_takePayment b (nI x) (nI q) M = some (nI (aP f x + q), upd2 M (b + 35 + 12 + x) 12 (nI (aP f x + q))) := by
  have g1 : ¬ nI q < (1 : Int32) := by rw [show (1 : Int32) = nI 1 from rfl, nI_ltI (by omega) (by omega)]; omega
  have g2 : nI q ≤ (999999 : Int32) := by rw [show (999999 : Int32) = nI 999999 from rfl, nI_leI (by omega) (by omega)]; exact hq
  have h12 : M (b + 35 + 12 + x) 12 = nI (aP f x) := by rw [← hu1]; exact hA.2.2.2.2.2.2.2.2.2.2.2.2.1
  have h9 : nI q ≤ (99999999 : Int32) - nI (aP f x) := by rw [le9 hu2 hq]; exact h
  unfold mX1_takePayment
  rw [e1, bnp_some, if_neg (show ¬ (1 : Int32) = 0 by decide), if_neg g1, if_pos g2, chk_n (by omega) (by omega), nI_clamp (by omega), h12, if_pos h9, lt_eq, u2s, nI_add]
theorem c_pay0 {b x q : Nat} {M : Mem} {f : Nat → Int32} (hx : x < 6) (hA : RA (b + 35 + 12 + x) x M f) (e1 : mX1_hasBegun b (nI x) M = some 1) (hu1 : fA f x 9 = nI (aP f x)) (hu2 : aP f x ≤ 99999999) (hq1 : 1 ≤ q) (hq : q ≤ 999999) (h : ¬ q + aP f x ≤ 99999999) : mX1_takePayment b (nI x) (nI q) M = some (-1, M) := by
  have g1 : ¬ nI q < (1 : Int32) := by rw [show (1 : Int32) = nI 1 from rfl, nI_ltI (by omega) (by omega)]; omega
  have g2 : nI q ≤ (999999 : Int32) := by rw [show (999999 : Int32) = nI 999999 from rfl, nI_leI (by omega) (by omega)]; exact hq
  have h12 : M (b + 35 + 12 + x) 12 = nI (aP f x) := by rw [← hu1]; exact hA.2.2.2.2.2.2.2.2.2.2.2.2.1
  have h9 : ¬ nI q ≤ (99999999 : Int32) - nI (aP f x) := by rw [le9 hu2 hq]; exact h
  unfold mX1_takePayment
  rw [e1, bnp_some, if_neg (show ¬ (1 : Int32) = 0 by decide), if_neg g1, if_pos g2, chk_n (by omega) (by omega), nI_clamp (by omega), h12, if_neg h9]
theorem m_pay1 {x q : Nat} {N : Mem} {f : Nat → Int32} (hx : x < 6) (e1 : mX11_isBegun (nI x) (stF N f) = some 1) (hu1 : fA f x 9 = nI (aP f x)) (hu2 : aP f x ≤ 99999999) (hq : q ≤ 999999) (hin : mX11_in (nI q) (1 : Int32) (999999 : Int32) = some 1) (h : q + aP f x ≤ 99999999) : mX11_pay (nI x) (nI q) (stF N f) = some (nI (aP f x + q), stF N (upd f (170 + 12 * x + 9) (nI (aP f x + q)))) := by
  have h9 : nI q ≤ (99999999 : Int32) - nI (aP f x) := by rw [le9 hu2 hq]; exact h
  have e9 : (9 : Int32) = nI 9 := rfl
  unfold mX11_pay
  rw [e1, bnp_some, if_neg (show ¬ (1 : Int32) = 0 by decide), hin, bnp_some, if_neg (show ¬ (1 : Int32) = 0 by decide), e9, m_ofS hx (by decide), bnp_some, hu1, if_pos h9, bnp_some, nI_add, m_sets hx (by decide), bnp_some, m_ofS hx (by decide), bnp_some, fA_us]
theorem m_pay0 {x q : Nat} {N : Mem} {f : Nat → Int32} (hx : x < 6) (e1 : mX11_isBegun (nI x) (stF N f) = some 1) (hu1 : fA f x 9 = nI (aP f x)) (hu2 : aP f x ≤ 99999999) (hq : q ≤ 999999) (hin : mX11_in (nI q) (1 : Int32) (999999 : Int32) = some 1) (h : ¬ q + aP f x ≤ 99999999) : mX11_pay (nI x) (nI q) (stF N f) = some (-1, stF N f) := by
  have h9 : ¬ nI q ≤ (99999999 : Int32) - nI (aP f x) := by rw [le9 hu2 hq]; exact h
  have e9 : (9 : Int32) = nI 9 := rfl
  unfold mX11_pay
  rw [e1, bnp_some, if_neg (show ¬ (1 : Int32) = 0 by decide), hin, bnp_some, if_neg (show ¬ (1 : Int32) = 0 by decide), e9, m_ofS hx (by decide), bnp_some, hu1, if_neg h9]
theorem op_pay {b : Nat} {M N : Mem} {f : Nat → Int32} (hS : SIM b M N f) (a v : Int32) : OPR b M N f (mX1_takePayment b a v M) (mX11_pay a v (stF N f)) := by
  obtain ⟨hb, hC, hM, hRS, ⟨hI0, hRun⟩⟩ := id hS
  rcases beg_c hS a with ⟨x, hx, rfl, hA, e1, e3⟩ | ⟨e1, e3⟩
  · have hRA := hRS.2.2.2.1 x hx
    have i11 := hA.2.2.2.2.2.2.2.2.2.2.2.1
    have u1 := i11.1; have u2 := i11.2
    rcases in_c v 1 999999 1000000 1 999999 rfl rfl rfl (by decide) (by decide) with ⟨q, hq1, hq, rfl, g1, g2, g3, g4⟩ | ⟨g4, g1⟩
    · by_cases h : q + aP f x ≤ 99999999
      · obtain ⟨s1, s2⟩ := s_put (w := 9) (k := 12) (v := aP f x + q) hS hx hA (by omega) (by unfold okV; omega)
        exact ⟨_, _, N, _, c_pay1 hx hRA e1 u1 u2 hq1 hq h, m_pay1 hx e3 u1 u2 hq g4 h, s1, s2, NE.rfl', FX_up (by omega)⟩
      · exact ⟨_, _, N, _, c_pay0 hx hRA e1 u1 u2 hq1 hq h, m_pay0 hx e3 u1 u2 hq g4 h, hS, FD.rfl', NE.rfl', FX.rfl'⟩
    · refine ⟨-1, M, N, f, ?_, ?_, hS, FD.rfl', NE.rfl', FX.rfl'⟩
      · unfold mX1_takePayment
        rw [e1, bnp_some, if_neg (show ¬ (1 : Int32) = 0 by decide)]
        rcases g1 with g1 | ⟨g1, g2, g3⟩
        · rw [if_pos g1]
        · rw [if_neg g1, if_neg (Int32.not_le.mpr g2)]
      · unfold mX11_pay
        rw [e3, bnp_some, if_neg (show ¬ (1 : Int32) = 0 by decide), g4]; rfl
  · refine ⟨-1, M, N, f, ?_, ?_, hS, FD.rfl', NE.rfl', FX.rfl'⟩
    · unfold mX1_takePayment; rw [e1]; rfl
    · unfold mX11_pay; rw [e3]; rfl
end
section
/-! begin, move -/
theorem le3652 {z : Int} (h1 : -2147483648 ≤ z) (h2 : z < 2147483648) : (iI z ≤ (3652 : Int32)) = (z ≤ 3652) := by
  have e : (3652 : Int32) = nI 3652 := nI_lit 3652
  rw [e, iI_nI_le (by omega) h1 h2]; rfl
theorem leT {z : Int} (h1 : -2147483648 ≤ z) (h2 : z < 2147483648) : (iI z ≤ nI 3652) = (z ≤ 3652) := by rw [iI_nI_le (by omega) h1 h2]; rfl
theorem upd_self {f : Nat → Int32} {j : Nat} {v : Int32} (h : f j = v) : upd f j v = f := by
  funext i
  unfold upd
  split
  · next e => subst e; exact h.symm
  · rfl
theorem isM_of {x : Int32} {k N : Nat} (h : x = nI k) (hk : k ≤ N) (hN : N < 2 ^ 31) : isM x (na x) N := by
  subst h; exact isM_nI hk hN
/-- an account as it begins, before its charge -/
def bgF (f : Nat → Int32) (x p an : Nat) : Nat → Int32 := upd (upd (upd (upd f (170 + 12 * x + 0) (nI 1)) (170 + 12 * x + 1) (nI p)) (170 + 12 * x + 2) (nI an)) (170 + 12 * x + 10) (nI 1)
theorem bg_out {f : Nat → Int32} {x p an j : Nat} (h : j < 170 + 12 * x ∨ 182 + 12 * x ≤ j) : bgF f x p an j = f j := by
  unfold bgF
  simp (disch := omega) only [upd_n]
theorem bg_0 {f : Nat → Int32} {x p an : Nat} : fA (bgF f x p an) x 0 = nI 1 ∧ fA (bgF f x p an) x 1 = nI p ∧ fA (bgF f x p an) x 2 = nI an ∧ fA (bgF f x p an) x 10 = nI 1 ∧ ∀ w, w < 10 → 3 ≤ w → fA (bgF f x p an) x w = fA f x w := by
  unfold bgF fA
  refine ⟨?_, ?_, ?_, ?_, fun w h1 h2 => ?_⟩ <;> simp (disch := omega) only [upd_n, upd_s]
theorem m_beg {N : Mem} {f : Nat → Int32} {x p an n : Nat} (hx : x < 6) (hz : ∀ w, w < 12 → fA f x w = nI 0) : ∀ (d k i : Nat), i + d = 12 → d < k → mX11_begin_c72 n k (nI x) (nI p) (nI an) (nI i) (stF N f) = (bnp (mX11_opens n (nI x) (nI 0) (stF N (bgF f x p an))) fun M10 => (bnd (mX11_charges n (nI x) M10) fun r11 M12 => (some (r11, M12))))
  | d, 0, _, _, h => absurd h (Nat.not_lt_zero _)
  | 0, k + 1, i, e, h => by
    unfold mX11_begin_c72
    simp (disch := omega) only [nI_lit, nI_add, pk_mul, nI_clamp, nI_leI, nI_ltI, nI_eq, nI_t0, nI_le0, nI_e0, nI_0le, nI_lt0, m_sets, bnp_some]
    rw [if_pos (show 12 ≤ i by omega)]
    rfl
  | d + 1, k + 1, i, e, h => by
    have ih := m_beg (N := N) (p := p) (an := an) (n := n) hx hz d k (i + 1) (by omega) (by omega)
    unfold mX11_begin_c72
    simp (disch := omega) only [nI_lit, nI_add, pk_mul, nI_clamp, nI_leI, nI_ltI, nI_eq, nI_t0, nI_le0, nI_e0, nI_0le, nI_lt0, m_sets, bnp_some]
    rw [if_neg (show ¬ 12 ≤ i by omega), upd_self (show f (170 + 12 * x + i) = nI 0 from hz i (by omega))]
    exact ih
theorem op_begin {b n : Nat} {M N : Mem} {f : Nat → Int32} (hS : SIM b M N f) (hn : 200 ≤ n) (a p c : Int32) : OPR b M N f (mX1_startAccount n b a p c M) (mX11_begin n a p c (stF N f)) := by
  unfold mX1_startAccount mX11_begin
  obtain ⟨hb, hC, hM, hRS, ⟨hI0, hRun⟩⟩ := id hS
  have h1 := hI0.2.1.1; have h1' := hI0.2.1.2
  have t1 := hI0.1.1; have t1' := hI0.1.2
  have e10 : ((1 : Int32) = 0) = False := eq_false (by decide)
  rcases isAccount_c a with ⟨x, -, hx5, rfl, g1, g2⟩ | ⟨g1, g2⟩
  · have hx : x < 6 := by omega
    rcases isPlan_c p with ⟨q, -, hq, rfl, g3, g4⟩ | ⟨g3, g4⟩
    · rcases isAnchor_c c with ⟨an, ha1, ha2, rfl, g5, g6⟩ | ⟨g5, g6⟩
      · rw [g1, g2, g3, g4, g5, g6]
        simp only [bnp_some, e10, if_false]
        have room := room_c (k := 1) hRS hI0 (by decide)
        obtain ⟨a0, a1, a2, a3, a4, a5, a6, a7, a8, a9, a10, a11, a12, a13⟩ := hRS.2.2.2.1 x hx
        simp (disch := omega) only [nI_lit, chk_n, nI_clamp, bnp_some, stF_f, h1, room, nI_eq, a1, hRS.1]
        by_cases hs : sz f ≤ 399
        · rw [if_pos (show sz f + 1 ≤ 400 by omega), if_neg (show ¬ nI 1 = nI 0 by decide), if_neg (show ¬ sz f = 400 by omega)]
          have hB : mX11_isBegun (nI x) (stF N f) = some (if fA f x 0 = nI 1 then 1 else 0) := by
            unfold mX11_isBegun
            rw [g2]
            simp (disch := omega) only [bnp_some, nI_lit, m_ofS]
            rcases hI0.2.2.2.2.1 x hx with hz | hA
            · rw [hz 0 (by decide)]; rfl
            · rw [hA.1]; rfl
          rw [hB]
          simp only [bnp_some]
          rcases hI0.2.2.2.2.1 x hx with hz | hA
          · rw [hz 0 (by decide), t1, if_neg (show ¬ nI 0 = nI 1 by decide), if_pos (show nI 0 = nI 0 from rfl), if_pos (show (0 : Int32) = nI 0 by decide), cal_nt hC ha1 ha2 t1' hn, mod_nt (CalM_stF hM) ha1 ha2 t1' hn]
            obtain ⟨b1, b2, b3, b4, b5⟩ := LT_NT ha1 t1'
            simp only [bnp_some]
            have eT := leT (z := NT an (tD f)) (by omega) (by omega)
            by_cases hT : NT an (tD f) ≤ 3652
            · have hT' : iI (NT an (tD f)) ≤ nI 3652 := by rw [eT]; exact hT
              rw [if_pos hT', if_pos hT', m_beg hx hz 12 n 0 rfl (by omega)]
              simp only [lt_eq]
              obtain ⟨z0, z1, z2, z10, zw⟩ := bg_0 (f := f) (x := x) (p := q) (an := an)
              have hIT := hI0.2.2.2.1
              have hI1 : IT (upd f (170 + 12 * x + 0) (nI 1)) := IT_congr hIT (fun j _ _ _ => upd_n _ _ (by omega))
              have hI2 : IT (upd (upd f (170 + 12 * x + 0) (nI 1)) (170 + 12 * x + 1) (nI q)) := IT_congr hI1 (fun j _ _ _ => upd_n _ _ (by omega))
              have hI3 : IT (upd (upd (upd f (170 + 12 * x + 0) (nI 1)) (170 + 12 * x + 1) (nI q)) (170 + 12 * x + 2) (nI an)) := IT_congr hI2 (fun j _ _ _ => upd_n _ _ (by omega))
              have hI4 : IT (bgF f x q an) := IT_congr hI3 (fun j _ _ _ => upd_n _ _ (by omega))
              have r1 := RSx_put (w := 0) (k := 1) (v := nI 1) (hRS.x hx) hIT hx (by omega)
              have r2 := RSx_put (w := 1) (k := 4) (v := nI q) r1 hI1 hx (by omega)
              have r3 := RSx_put (w := 2) (k := 5) (v := nI an) r2 hI2 hx (by omega)
              have r4 := RSx_put (w := 10) (k := 6) (v := nI 1) r3 hI3 hx (by omega)
              obtain ⟨M0, hM0⟩ : ∃ M0, M0 = upd2 (upd2 (upd2 (upd2 M (b + 35 + 12 + x) 1 (nI 1)) (b + 35 + 12 + x) 4 (nI q)) (b + 35 + 12 + x) 5 (nI an)) (b + 35 + 12 + x) 6 (nI 1) := ⟨_, rfl⟩
              rw [← hM0] at r4 ⊢
              have hF0 : FD b M M0 := by
                subst hM0
                exact (((FD_put hx).trans (FD_put hx)).trans (FD_put hx)).trans (FD_put hx)
              have hC0 := CalC_FD hb hC hF0
              have b0 : bgF f x q an 0 = f 0 := bg_out (by omega)
              have bT : tD (bgF f x q an) = tD f := by unfold tD; rw [b0]
              have bS : sz (bgF f x q an) = sz f := by unfold sz; rw [bg_out (by omega)]
              have eN : aN (bgF f x q an) x = an := by unfold aN; rw [z2]; exact na_nI (by omega)
              obtain ⟨M1, w1, w2, w3, w4⟩ := s_open (N := N) (q := nI 0) (n := n) (f := bgF f x q an) hb r4 hC0 hM hI4 (by rw [b0, bT]; exact hI0.1) hx (by rw [z2, eN]; exact ⟨rfl, ha2⟩) (by rw [eN]; exact ha1) hn
              rw [w1, w2]
              simp only [bnp_some]
              have o3 := op_3 (f := bgF f x q an) (x := x) (q := nI 0)
              have o4 := op_4 (f := bgF f x q an) (x := x) (q := nI 0)
              have o5 := op_5 (f := bgF f x q an) (x := x) (q := nI 0)
              rw [b0] at o4
              rw [eN, bT] at o5
              have oA : ∀ w, w < 12 → w ≠ 3 → w ≠ 4 → w ≠ 5 → fA (opF (bgF f x q an) x (nI 0)) x w = fA (bgF f x q an) x w := fun w hw k3 k4 k5 => op_A x w hw (Or.inr ⟨k3, k4, k5⟩)
              have oT : tD (opF (bgF f x q an) x (nI 0)) = tD f := by unfold tD; rw [op_lo (by omega) hx, b0]
              have oS : sz (opF (bgF f x q an) x (nI 0)) = sz f := by unfold sz; rw [op_lo (by omega) hx, bg_out (by omega)]
              have oN : aN (opF (bgF f x q an) x (nI 0)) x = an := by unfold aN; rw [oA 2 (by decide) (by decide) (by decide) (by decide), z2]; exact na_nI (by omega)
              have oD : aD (opF (bgF f x q an) x (nI 0)) x = tD f := by unfold aD; rw [o4]; rfl
              have hA : IA1 (opF (bgF f x q an) x (nI 0)) x := by
                unfold IA1
                rw [oT, oS, oN, oD, o3, o4, o5, oA 0 (by decide) (by decide) (by decide) (by decide), oA 2 (by decide) (by decide) (by decide) (by decide), z0, z2]
                unfold aB aQ aU aZ aX aP aS
                rw [o3, oA 1 (by decide) (by decide) (by decide) (by decide), oA 6 (by decide) (by decide) (by decide) (by decide), oA 7 (by decide) (by decide) (by decide) (by decide), oA 8 (by decide) (by decide) (by decide) (by decide), oA 9 (by decide) (by decide) (by decide) (by decide), oA 10 (by decide) (by decide) (by decide) (by decide), z1, z10, zw 6 (by decide) (by decide), zw 7 (by decide) (by decide), zw 8 (by decide) (by decide), zw 9 (by decide) (by decide), hz 6 (by decide), hz 7 (by decide), hz 8 (by decide), hz 9 (by decide)]
                refine ⟨rfl, isM_nI (by omega) (by decide), ⟨rfl, ha2⟩, ha1, isM_nI (by omega) (by decide), hI0.1, rfl, hT, isM_nI (by omega) (by decide), isM_nI (by omega) (by decide), isM_nI (by omega) (by decide), isM_nI (by omega) (by decide), isM_nI (by omega) (by decide), ?_, Nat.le_refl _, ?_⟩
                · rw [na_nI (by omega)]; exact Nat.le_refl _
                · rw [na_nI (by omega)]; exact Nat.zero_le _
              have hI5 : INV0 (opF (bgF f x q an) x (nI 0)) := INV0_acc hI0 hx (fun j hj => by
                  unfold opF
                  rw [upd_n _ _ (by omega), upd_n _ _ (by omega), upd_n _ _ (by omega), bg_out hj]) (fun _ => hA.1) (Or.inr hA)
              have hr5 : (tD (opF (bgF f x q an) x (nI 0)) : Int) < NT (aN (opF (bgF f x q an) x (nI 0)) x) (aD (opF (bgF f x q an) x (nI 0)) x) := by
                rw [oT, oN, oD]; exact b2
              obtain ⟨M2, y1, y2, y3, y4⟩ := s_charge w3 hM hI5 hx hA (by omega) hr5 hn
              have hI6 := INV0_ch hI5 hx hA (by omega) hr5
              have hFD := (hF0.trans w4).trans y4
              rw [y1, y2]
              refine ⟨_, _, N, _, rfl, rfl, ⟨hb, CalC_FD hb hC hFD, hM, y3, hI6, fun y hy => ?_⟩, hFD, NE.rfl', ?_⟩
              · have et : tD (chF (opF (bgF f x q an) x (nI 0)) x) = tD f := by unfold chF; rw [wr_tD, oT]
                by_cases h : y = x
                · subst h
                  intro _ _
                  rw [et]
                  have k2 : aN (chF (opF (bgF f y q an) y (nI 0)) y) y = an := by unfold aN chF; rw [wr_A hx (by decide)]; exact oN
                  have k4 : aD (chF (opF (bgF f y q an) y (nI 0)) y) y = tD f := by unfold aD chF; rw [wr_A hx (by decide)]; exact oD
                  rw [k2, k4]; exact b2
                · refine RUN_same hI6 hy (hRun y hy) et (fun u hu => ?_)
                  unfold chF
                  rw [wr_A hy (by omega), op_A y u (by omega) (Or.inl h)]
                  exact bg_out (by omega)
              · refine FX.trans (FX.trans (f1 := bgF f x q an) (fun j hj => bg_out (by omega)) (FX_op hx)) (FX_wr (by omega))
            · have hT' : ¬ iI (NT an (tD f)) ≤ nI 3652 := by rw [eT]; exact hT
              rw [if_neg hT', if_neg hT']; exact OPR_no hS _
          · rw [hA.1, if_neg (show ¬ nI 1 = nI 0 by decide), if_pos (show nI 1 = nI 1 from rfl), if_neg (show ¬ (1 : Int32) = nI 0 by decide)]; exact OPR_no hS _
        · rw [if_neg (show ¬ sz f + 1 ≤ 400 by omega), if_pos (show nI 0 = nI 0 from rfl), if_pos (show sz f = 400 by omega)]; exact OPR_no hS _
      · rw [g1, g2, g3, g4, g5, g6]; exact OPR_no hS _
    · rw [g1, g2, g3, g4]; exact OPR_no hS _
  · rw [g1, g2]; exact OPR_no hS _
end
section
/-! a PERIOD begins again, with its charge; move -/
theorem s_period {b x an q n : Nat} {M N : Mem} {f g : Nat → Int32} (hb : 4 ≤ b) (hRS : RSx b M g x) (hC : CalC M) (hM : CalM N) (hI : INV0 f) (hx : x < 6) (hA : IA1 f x)
    (hg : ∀ j, j ≠ 170 + 12 * x + 2 → g j = f j) (hg2 : fA g x 2 = nI an) (ha1 : 1 ≤ an) (ha2 : an ≤ 31) (hq : q ≤ sz f) (hs : sz f < 400) (hT : NT an (tD f) ≤ 3652) (hn : 200 ≤ n) :
    ∃ c M1 M2 f', mX1_startPeriod n b (b + 35 + 12 + x) (nI q) M = some M1 ∧ mX11_opens n (nI x) (nI q) (stF N g) = some (stF N (opF g x (nI q))) ∧ mX1_writeCharge n b (b + 35 + 12 + x) M1 = some (c, M2) ∧ mX11_charges n (nI x) (stF N (opF g x (nI q))) = some (c, stF N f') ∧
      RS b M2 f' ∧ INV0 f' ∧ FD b M M2 ∧ FX f f' ∧ f' 0 = f 0 ∧ sz f' = sz f + 1 ∧ (∀ y w, y < 6 → w < 12 → y ≠ x → fA f' y w = fA f y w) ∧ RUN f' x := by
  have g0 : g 0 = f 0 := hg 0 (by omega)
  have gT : tD g = tD f := by unfold tD; rw [g0]
  have gA : ∀ w, w < 12 → w ≠ 2 → fA g x w = fA f x w := fun w h1 h2 => hg _ (by omega)
  have gN : aN g x = an := by unfold aN; rw [hg2]; exact na_nI (by omega)
  have t1' := hI.1.2
  have hIT := hI.2.2.2.1
  have hITg : IT g := IT_congr hIT (fun j _ h2 _ => hg j (by omega))
  obtain ⟨i0, i1, i2, i3, i4, i5, i6, i7, i8, i9, i10, i11, i12, i13, i14, i15⟩ := hA
  obtain ⟨M1, w1, w2, w3, w4⟩ := s_open (N := N) (q := nI q) (n := n) (f := g) hb hRS hC hM hITg (by rw [g0, gT]; exact hI.1) hx (by rw [hg2, gN]; exact ⟨rfl, ha2⟩) (by rw [gN]; exact ha1) hn
  have o3 := op_3 (f := g) (x := x) (q := nI q)
  have o4 := op_4 (f := g) (x := x) (q := nI q)
  have o5 := op_5 (f := g) (x := x) (q := nI q)
  rw [g0] at o4
  rw [gN, gT] at o5
  have oA : ∀ w, w < 12 → w ≠ 3 → w ≠ 4 → w ≠ 5 → fA (opF g x (nI q)) x w = fA g x w := fun w hw k3 k4 k5 => op_A x w hw (Or.inr ⟨k3, k4, k5⟩)
  have o0 : opF g x (nI q) 0 = f 0 := by rw [op_lo (by omega) hx, g0]
  have oT : tD (opF g x (nI q)) = tD f := by unfold tD; rw [o0]
  have oS : sz (opF g x (nI q)) = sz f := by unfold sz; rw [op_lo (by omega) hx, hg 1 (by omega)]
  have oN : aN (opF g x (nI q)) x = an := by unfold aN; rw [oA 2 (by decide) (by decide) (by decide) (by decide), hg2]; exact na_nI (by omega)
  have oD : aD (opF g x (nI q)) x = tD f := by unfold aD; rw [o4]; rfl
  have hA : IA1 (opF g x (nI q)) x := by
    unfold IA1
    rw [oT, oS, oN, oD, o3, o4, o5, oA 0 (by decide) (by decide) (by decide) (by decide), oA 2 (by decide) (by decide) (by decide) (by decide), hg2]
    unfold aB aQ aU aZ aX aP aS
    rw [o3, oA 1 (by decide) (by decide) (by decide) (by decide), oA 6 (by decide) (by decide) (by decide) (by decide), oA 7 (by decide) (by decide) (by decide) (by decide), oA 8 (by decide) (by decide) (by decide) (by decide), oA 9 (by decide) (by decide) (by decide) (by decide), oA 10 (by decide) (by decide) (by decide) (by decide), gA 0 (by decide) (by decide), gA 1 (by decide) (by decide), gA 6 (by decide) (by decide), gA 7 (by decide) (by decide), gA 8 (by decide) (by decide), gA 9 (by decide) (by decide), gA 10 (by decide) (by decide)]
    refine ⟨i0, i1, ⟨rfl, ha2⟩, ha1, isM_nI (by omega) (by decide), hI.1, rfl, hT, i8, i9, i10, i11, i12, i13, Nat.le_refl _, ?_⟩
    rw [na_nI (by omega)]; exact hq
  have hI5 : INV0 (opF g x (nI q)) := INV0_acc hI hx (fun j hj => by
      unfold opF
      rw [upd_n _ _ (by omega), upd_n _ _ (by omega), upd_n _ _ (by omega), hg j (by omega)]) (fun _ => hA.1) (Or.inr hA)
  have hr5 : (tD (opF g x (nI q)) : Int) < NT (aN (opF g x (nI q)) x) (aD (opF g x (nI q)) x) := by
    rw [oT, oN, oD]; exact (LT_NT ha1 t1').2.1
  obtain ⟨M2, y1, y2, y3, y4⟩ := s_charge w3 hM hI5 hx hA (by omega) hr5 hn
  have hI6 := INV0_ch hI5 hx hA (by omega) hr5
  have c0 : chF (opF g x (nI q)) x 0 = f 0 := by unfold chF; rw [wr_lo (by decide) (by decide), o0]
  refine ⟨_, M1, M2, _, w1, w2, y1, y2, y3, hI6, w4.trans y4, ?_, c0, ?_, ?_, ?_⟩
  · refine FX.trans (FX.trans (f1 := g) (fun j hj => hg j (by omega)) (FX_op hx)) (FX_wr (by omega))
  · unfold chF; rw [wr_sz (by omega), oS]
  · intro y w hy hw h
    unfold chF
    rw [wr_A hy hw, op_A y w hw (Or.inl h)]
    exact hg _ (by omega)
  · intro _ _
    have k2 : aN (chF (opF g x (nI q)) x) x = an := by unfold aN chF; rw [wr_A hx (by decide)]; exact oN
    have k4 : aD (chF (opF g x (nI q)) x) x = tD f := by unfold aD chF; rw [wr_A hx (by decide)]; exact oD
    have k0 : tD (chF (opF g x (nI q)) x) = tD f := by unfold tD; rw [c0]
    rw [k0, k2, k4]; exact (LT_NT ha1 t1').2.1
theorem us_tD {f : Nat → Int32} {x : Nat} : tD (usF f x) = tD f := by unfold usF; rw [upA_tD, wr_tD]
theorem us_0 {f : Nat → Int32} {x : Nat} : usF f x 0 = f 0 := by unfold usF; rw [upd_n _ _ (by omega), wr_lo (by decide) (by decide)]
theorem us_sz {f : Nat → Int32} {x : Nat} (hs : sz f < 400) : sz (usF f x) = sz f + 1 := by unfold usF; rw [upA_sz, wr_sz hs]
theorem op_move {b n : Nat} {M N : Mem} {f : Nat → Int32} (hS : SIM b M N f) (hn : 200 ≤ n) (a c : Int32) : OPR b M N f (mX1_putAnchor n b a c M) (mX11_move n a c (stF N f)) := by
  unfold mX1_putAnchor mX11_move
  obtain ⟨hb, hC, hM, hRS, ⟨hI0, hRun⟩⟩ := id hS
  have h1 := hI0.2.1.1; have h1' := hI0.2.1.2
  have t1 := hI0.1.1; have t1' := hI0.1.2
  have e10 : ((1 : Int32) = 0) = False := eq_false (by decide)
  rcases run_c hS a with ⟨x, hx, rfl, hA, h0, hr, e1, e2, e3, e4⟩ | ⟨x, hx, rfl, hA, h0, e1, e2, e3, e4⟩ | ⟨e1, e2, e3, e4⟩
  · rw [e2, e4]
    simp only [bnp_some, e10, if_false]
    obtain ⟨a0, a1, a2, a3, a4, a5, a6, a7, a8, a9, a10, a11, a12, a13⟩ := hRS.2.2.2.1 x hx
    obtain ⟨i0, i1, i2, i3, i4, i5, i6, i7, i8, i9, i10, i11, i12, i13, i14, i15⟩ := id hA
    have room := room_c (k := 3) hRS hI0 (by decide)
    have hv1 := i2.1; have hv2 := i2.2
    rcases isAnchor_c c with ⟨an, ha1, ha2, rfl, g5, g6⟩ | ⟨g5, g6⟩
    · rw [g5, g6]
      simp only [bnp_some, e10, if_false]
      simp (disch := omega) only [nI_lit, chk_n, nI_clamp, m_ofS, bnp_some, stF_f, a5, hv1, h1, room, nI_eq, nI_leI, hRS.1]
      by_cases hp : aN f x = an
      · rw [if_pos hp, if_pos hp.symm]; exact OPR_no hS _
      · rw [if_neg hp, if_neg (Ne.symm hp)]
        by_cases hs : sz f ≤ 397
        · rw [if_pos (show sz f + 3 ≤ 400 by omega), if_neg (by decide), if_pos hs, t1, cal_nt hC ha1 ha2 t1' hn, mod_nt (CalM_stF hM) ha1 ha2 t1' hn]
          obtain ⟨b1, b2, b3, b4, b5⟩ := LT_NT ha1 t1'
          simp only [bnp_some]
          have eT := leT (z := NT an (tD f)) (by omega) (by omega)
          by_cases hT : NT an (tD f) ≤ 3652
          · have hT' : iI (NT an (tD f)) ≤ nI 3652 := by rw [eT]; exact hT
            rw [if_pos hT', if_pos hT']
            obtain ⟨M1, w1, w2, w3, w4⟩ := s_credit hRS hM hI0 hx hA (by omega) hr hn
            have hI1 := INV0_cr hI0 hx hA (by omega) hr
            have cA : ∀ y u, y < 6 → u < 12 → fA (crF f x) y u = fA f y u := fun y u hy hu => wr_A hy hu
            have ct : tD (crF f x) = tD f := wr_tD
            have cs : sz (crF f x) = sz f + 1 := wr_sz (by omega)
            have hA1 : IA1 (crF f x) x := IA1_congr hA (fun u hu => cA x u hx hu) (by rw [ct]; exact Nat.le_refl _) (by omega)
            obtain ⟨M2, z1, z2, z3, z4⟩ := s_usage (N := N) w3 hI1 hx hA1 (by omega) hn
            have hI2 := INV0_us hI1 hx hA1 (by omega)
            have uA : ∀ y u, y < 6 → u < 12 → (y ≠ x ∨ u ≠ 6) → fA (usF (crF f x) x) y u = fA f y u := fun y u hy hu h => by rw [us_A hx hy hu h]; exact cA y u hy hu
            have hA2 : IA1 (usF (crF f x) x) x := INV0_X hI2 hx (by rw [uA x 0 hx (by decide) (by omega)]; exact i0)
            have uS : sz (usF (crF f x) x) = sz f + 2 := by rw [us_sz (by omega), cs]
            have uT : tD (usF (crF f x) x) = tD f := by rw [us_tD, ct]
            have r := RSx_put (w := 2) (k := 5) (v := nI an) (z3.x hx) hI2.2.2.2.1 hx (by omega)
            have hC2 : CalC (upd2 M2 (b + 35 + 12 + x) 5 (nI an)) := CalC_FD hb hC ((w4.trans z4).trans (FD_put hx))
            obtain ⟨c', M3, M4, f', p1, p2, p3, p4, p5, p6, p7, p8, p9, p10, p11, p12⟩ := s_period (q := aQ f x + 1) (n := n) hb r hC2 hM hI2 hx hA2 (fun j hj => upd_n _ _ hj) fA_us ha1 ha2 (by omega) (by omega) (by rw [uT]; exact hT) hn
            have q7 : M2 (b + 35 + 12 + x) 7 = nI (aQ f x) := by
              rw [(z3.2.2.2.1 x hx).2.2.2.2.2.2.2.1, uA x 3 hx (by decide) (by omega)]; exact i4.1
            have q3 : fA (upd (usF (crF f x) x) (170 + 12 * x + 2) (nI an)) x 3 = nI (aQ f x) := by
              rw [fA_un (by decide) (by decide) (by omega), uA x 3 hx (by decide) (by omega)]; exact i4.1
            rw [w1, w2]
            simp only [bnd_some]
            rw [z1, z2]
            simp (disch := omega) only [bnd_some, m_sets, bnp_some, m_ofS, u2k, q7, q3, nI_add]
            rw [p1, p2]
            simp only [bnp_some]
            rw [p3, p4]
            have hFD := ((w4.trans z4).trans (FD_put hx)).trans p7
            refine ⟨_, _, N, _, rfl, rfl, ⟨hb, CalC_FD hb hC hFD, hM, p5, p6, fun y hy => ?_⟩, hFD, NE.rfl', ((FX_wr (by omega)).trans (FX_us (f := crF f x) hx (by omega))).trans p8⟩
            by_cases h : y = x
            · subst h; exact p12
            · refine RUN_same p6 hy (hRun y hy) (by unfold tD; rw [p9, us_0]; exact ct) (fun u hu => ?_)
              rw [p11 y u hy (by omega) h, uA y u hy (by omega) (Or.inl h)]
          · have hT' : ¬ iI (NT an (tD f)) ≤ nI 3652 := by rw [eT]; exact hT
            rw [if_neg hT', if_neg hT']; exact OPR_no hS _
        · rw [if_neg (show ¬ sz f + 3 ≤ 400 by omega), if_pos rfl, if_neg hs]; exact OPR_no hS _
    · rw [g5, g6]; exact OPR_no hS _
  · rw [e2, e4]; exact OPR_no hS _
  · rw [e2, e4]; exact OPR_no hS _
end
section
/-! DAYS that pass -/
/-- an account's PERIOD ends on a day -/
abbrev TO (f : Nat → Int32) (day : Int32) (y : Nat) : Prop := fA f y 0 = nI 1 ∧ fA f y 8 = nI 0 ∧ fA f y 5 = day
def cntT (f : Nat → Int32) (day : Int32) : Nat → Nat → Nat
  | _, 0 => 0
  | i, d + 1 => (if TO f day i then 1 else 0) + cntT f day (i + 1) d
theorem cntT_s (f : Nat → Int32) (day : Int32) (i d : Nat) : cntT f day i (d + 1) = (if TO f day i then 1 else 0) + cntT f day (i + 1) d := rfl
theorem cntT_congr {f f' : Nat → Int32} {day : Int32} : ∀ (d i : Nat), (∀ y w, i ≤ y → y < i + d → w < 12 → fA f' y w = fA f y w) → cntT f' day i d = cntT f day i d
  | 0, _, _ => rfl
  | d + 1, i, h => by
    rw [cntT_s, cntT_s, cntT_congr d (i + 1) (fun y w h1 h2 hw => h y w (by omega) (by omega) hw)]
    unfold TO
    rw [h i 0 (Nat.le_refl _) (by omega) (by decide), h i 8 (Nat.le_refl _) (by omega) (by decide), h i 5 (Nat.le_refl _) (by omega) (by decide)]
theorem isAcc1 : ∀ x, x < 6 → mX10_isAccount (nI x) = some 1 := by decide +kernel
theorem isNum1 : ∀ x, x < 6 → mX11_isNumber (nI x) = some 1 := by decide +kernel
theorem run_0 {b x : Nat} {M N : Mem} {f : Nat → Int32} (hRS : RS b M f) (hI0 : INV0 f) (hx : x < 6) :
    (fA f x 0 = nI 1 ∧ fA f x 8 = nI 0 ∧ IA1 f x ∧ mX1_isRunning b (nI x) M = some 1 ∧ mX11_isOn (nI x) (stF N f) = some 1) ∨ (¬ (fA f x 0 = nI 1 ∧ fA f x 8 = nI 0) ∧ mX1_isRunning b (nI x) M = some 0 ∧ mX11_isOn (nI x) (stF N f) = some 0) := by
  obtain ⟨a0, a1, a2, a3, a4, a5, a6, a7, a8, a9, a10, a11, a12, a13⟩ := hRS.2.2.2.1 x hx
  have g1 := isAcc1 x hx
  have g2 := isNum1 x hx
  have hB : ∀ v, fA f x 0 = nI v → v ≤ 1 → mX1_hasBegun b (nI x) M = some (nI v) ∧ mX11_isBegun (nI x) (stF N f) = some (nI v) := by
    intro v hv hv1
    unfold mX1_hasBegun mX11_isBegun
    rw [g1, g2]
    simp (disch := omega) only [bnp_some, nI_lit, chk_n, nI_clamp, m_ofS, a1, hv]
    rcases (show v = 0 ∨ v = 1 by omega) with rfl | rfl
    · exact ⟨rfl, rfl⟩
    · exact ⟨rfl, rfl⟩
  rcases hI0.2.2.2.2.1 x hx with hz | hA
  · obtain ⟨h1, h2⟩ := hB 0 (hz 0 (by decide)) (by decide)
    refine Or.inr ⟨fun q => ?_, ?_, ?_⟩
    · rw [hz 0 (by decide)] at q; exact absurd q.1 (by decide)
    · unfold mX1_isRunning; rw [h1]; rfl
    · unfold mX11_isOn; rw [h2]; rfl
  · obtain ⟨h1, h2⟩ := hB 1 hA.1 (by decide)
    have hX := hA.2.2.2.2.2.2.2.2.2.2.1
    have hX1 := hX.1; have hX2 := hX.2
    have hR : ∀ v, fA f x 8 = nI v → v ≤ 1 → mX1_isRunning b (nI x) M = some (nI (1 - v)) ∧ mX11_isOn (nI x) (stF N f) = some (nI (1 - v)) := by
      intro v hv hv1
      unfold mX1_isRunning mX11_isOn
      rw [h1, h2]
      simp (disch := omega) only [bnp_some, nI_lit, chk_n, nI_clamp, m_ofS, a2, hv]
      rcases (show v = 0 ∨ v = 1 by omega) with rfl | rfl
      · exact ⟨rfl, rfl⟩
      · exact ⟨rfl, rfl⟩
    obtain ⟨h3, h4⟩ := hR _ hX1 hX2
    rcases (show aX f x = 0 ∨ aX f x = 1 by omega) with z | z
    · rw [z] at h3 h4
      exact Or.inl ⟨hA.1, by rw [hX1, z], hA, h3, h4⟩
    · rw [z] at h3 h4
      refine Or.inr ⟨fun q => ?_, h3, h4⟩
      have q2 := q.2
      rw [hX1, z] at q2
      exact absurd q2 (by decide)
theorem can_go {b n dd : Nat} {M N : Mem} {f : Nat → Int32} (hRS : RS b M f) (hI0 : INV0 f) (hC : CalC M) (hM : CalM N) (hd : dd ≤ 3652) (hn : 200 ≤ n) : ∀ (d k i m : Nat), i + d = 6 → d < k → m + 2 * d ≤ 12 →
    ∃ r, mX1_canPassDay_c20 n k b (nI dd) (nI m) (nI i) M = some r ∧ mX11_mayPass_c22 n k (nI dd) (nI m) (nI i) (stF N f) = some r ∧ (r = 0 ∨ (r = 1 ∧ (∀ y, i ≤ y → y < 6 → TO f (nI dd) y → NT (aN f y) dd ≤ 3652) ∧ sz f + m + 2 * cntT f (nI dd) i d ≤ 400))
  | d, 0, _, _, _, h, _ => absurd h (Nat.not_lt_zero _)
  | 0, k + 1, i, m, e, h, hm => by
    have h1 := hI0.2.1.1; have h1' := hI0.2.1.2
    have hi6 : i = 6 := by omega
    have room := room_c (k := m) hRS hI0 (by omega)
    subst hi6
    unfold mX1_canPassDay_c20 mX11_mayPass_c22
    have h66 : (6 : Int32) ≤ nI 6 := by decide
    rw [if_pos h66, if_pos h66, room]
    simp (disch := omega) only [nI_lit, chk_n, nI_clamp, bnp_some, stF_f, h1, nI_add, nI_ltI]
    by_cases q : sz f + m ≤ 400
    · rw [if_pos q, if_neg (by omega)]
      exact ⟨_, rfl, rfl, Or.inr ⟨rfl, fun y h1 h2 => absurd h2 (by omega), by unfold cntT; omega⟩⟩
    · rw [if_neg q, if_pos (by omega)]
      exact ⟨_, rfl, rfl, Or.inl rfl⟩
  | d + 1, k + 1, i, m, e, h, hm => by
    have hx : i < 6 := by omega
    have ih0 := can_go (b := b) (N := N) (n := n) hRS hI0 hC hM hd hn d k (i + 1) m (by omega) (by omega) (by omega)
    have ih2 := can_go (b := b) (N := N) (n := n) hRS hI0 hC hM hd hn d k (i + 1) (m + 2) (by omega) (by omega) (by omega)
    have e10 : (nI 1 = nI 0) = False := eq_false (by decide)
    have hi6 : (6 ≤ i) = False := eq_false (by omega)
    obtain ⟨a0, a1, a2, a3, a4, a5, a6, a7, a8, a9, a10, a11, a12, a13⟩ := hRS.2.2.2.1 i hx
    unfold mX1_canPassDay_c20 mX11_mayPass_c22 mX11_turnsOn
    rcases run_0 (N := N) hRS hI0 hx with ⟨t0, t8, hA, e1, e2⟩ | ⟨t, e1, e2⟩
    · obtain ⟨i0, i1, i2, i3, i4, i5, i6, i7, i8⟩ := hA
      have i21 := i2.1
      rw [e1, e2]
      simp (disch := omega) only [nI_lit, nI_leI, hi6, if_false, bnp_some, e10, chk_n, nI_clamp, m_ofS, a9, a5, nI_add]
      by_cases t5 : fA f i 5 = nI dd
      · simp (disch := omega) only [t5, if_true, if_false, e10, bnp_some]
        rw [i21, cal_nt hC i3 i2.2 hd hn, mod_nt (CalM_stF hM) i3 i2.2 hd hn]
        obtain ⟨b1, b2, b3, b4, b5⟩ := LT_NT i3 hd
        have eT := leT (z := NT (aN f i) dd) (by omega) (by omega)
        simp only [bnp_some]
        by_cases hT : NT (aN f i) dd ≤ 3652
        · have hT' : iI (NT (aN f i) dd) ≤ nI 3652 := by rw [eT]; exact hT
          rw [if_pos hT', if_pos hT']
          obtain ⟨r, r1, r2, r3⟩ := ih2
          refine ⟨r, r1, r2, ?_⟩
          rcases r3 with r3 | ⟨r3, r4, r5⟩
          · exact Or.inl r3
          · refine Or.inr ⟨r3, fun y h1 h2 h3 => ?_, ?_⟩
            · rcases Nat.eq_or_lt_of_le h1 with q | q
              · subst q; exact hT
              · exact r4 y (by omega) h2 h3
            · rw [cntT_s, if_pos ⟨t0, t8, t5⟩]; omega
        · have hT' : ¬ iI (NT (aN f i) dd) ≤ nI 3652 := by rw [eT]; exact hT
          rw [if_neg hT', if_neg hT']
          exact ⟨_, rfl, rfl, Or.inl rfl⟩
      · simp (disch := omega) only [t5, if_true, if_false, bnp_some]
        obtain ⟨r, r1, r2, r3⟩ := ih0
        refine ⟨r, r1, r2, ?_⟩
        rcases r3 with r3 | ⟨r3, r4, r5⟩
        · exact Or.inl r3
        · refine Or.inr ⟨r3, fun y h1 h2 h3 => ?_, ?_⟩
          · rcases Nat.eq_or_lt_of_le h1 with q | q
            · subst q; exact absurd h3.2.2 t5
            · exact r4 y (by omega) h2 h3
          · rw [cntT_s, if_neg (fun q => t5 q.2.2)]; omega
    · rw [e1, e2]
      simp (disch := omega) only [nI_lit, nI_leI, hi6, if_false, if_true, bnp_some, nI_add]
      obtain ⟨r, r1, r2, r3⟩ := ih0
      refine ⟨r, r1, r2, ?_⟩
      rcases r3 with r3 | ⟨r3, r4, r5⟩
      · exact Or.inl r3
      · refine Or.inr ⟨r3, fun y h1 h2 h3 => ?_, ?_⟩
        · rcases Nat.eq_or_lt_of_le h1 with q | q
          · subst q; exact absurd ⟨h3.1, h3.2.1⟩ t
          · exact r4 y (by omega) h2 h3
        · rw [cntT_s, if_neg (fun q => t ⟨q.1, q.2.1⟩)]; omega
theorem day_go {b n : Nat} {N : Mem} (hb : 4 ≤ b) (hM : CalM N) (hn : 200 ≤ n) : ∀ (d k i : Nat) (M : Mem) (f : Nat → Int32), i + d = 6 → d < k → RS b M f → CalC M → INV0 f → (∀ y, y < i → RUN f y) →
    (∀ y, i ≤ y → y < 6 → fA f y 0 = nI 1 → fA f y 8 = nI 0 → (tD f : Int) ≤ NT (aN f y) (aD f y)) → (∀ y, i ≤ y → y < 6 → TO f (f 0) y → NT (aN f y) (tD f) ≤ 3652) → sz f + 2 * cntT f (f 0) i d ≤ 400 →
    ∃ M' f', mX1_passDay_c12 n k b (nI i) M = some M' ∧ (∀ k2 v1 v2, mX11_pass_c34 n k2 k v1 v2 (nI i) (stF N f) = k2 v1 v2 (stF N f')) ∧ RS b M' f' ∧ INV f' ∧ FD b M M' ∧ FX f f'
  | d, 0, _, _, _, _, h, _, _, _, _, _, _, _ => absurd h (Nat.not_lt_zero _)
  | 0, k + 1, i, M, f, e, h, hRS, hC, hI0, hR, hW, hT, hs => by
    have hi6 : i = 6 := by omega
    subst hi6
    unfold mX1_passDay_c12
    have h66 : (6 : Int32) ≤ nI 6 := by decide
    rw [if_pos h66]
    refine ⟨M, f, rfl, fun k2 v1 v2 => ?_, hRS, ⟨hI0, hR⟩, FD.rfl', FX.rfl'⟩
    unfold mX11_pass_c34
    rw [if_pos h66]
  | d + 1, k + 1, i, M, f, e, h, hRS, hC, hI0, hR, hW, hT, hs => by
    have hx : i < 6 := by omega
    have e10 : (nI 1 = nI 0) = False := eq_false (by decide)
    have hi6 : (6 ≤ i) = False := eq_false (by omega)
    have t1 := hI0.1.1
    obtain ⟨a0, a1, a2, a3, a4, a5, a6, a7, a8, a9, a10, a11, a12, a13⟩ := hRS.2.2.2.1 i hx
    by_cases tt : TO f (f 0) i
    · obtain ⟨t0, t8, t5⟩ := id tt
      rcases run_0 (N := N) hRS hI0 hx with ⟨-, -, hA, e1, e2⟩ | ⟨t, e1, e2⟩
      · obtain ⟨i0, i1, i2, i3, i4, i5, i6, i7, i8, i9, i10, i11, i12, i13, i14, i15⟩ := id hA
        rw [cntT_s, if_pos tt] at hs
        obtain ⟨M1, z1, z2, z3, z4⟩ := s_usage (N := N) hRS hI0 hx hA (by omega) hn
        have hI1 := INV0_us hI0 hx hA (by omega)
        have uA : ∀ y u, y < 6 → u < 12 → (y ≠ i ∨ u ≠ 6) → fA (usF f i) y u = fA f y u := fun y u hy hu h => us_A hx hy hu h
        have hA1 : IA1 (usF f i) i := INV0_X hI1 hx (by rw [uA i 0 hx (by decide) (by omega)]; exact i0)
        have uS : sz (usF f i) = sz f + 1 := us_sz (by omega)
        have uT : tD (usF f i) = tD f := us_tD
        have hC1 : CalC M1 := CalC_FD hb hC z4
        obtain ⟨c', M2, M3, f', p1, p2, p3, p4, p5, p6, p7, p8, p9, p10, p11, p12⟩ := s_period (an := aN f i) (q := aQ f i + 1) (n := n) hb (z3.x hx) hC1 hM hI1 hx hA1 (fun j hj => rfl) (by rw [uA i 2 hx (by decide) (by omega)]; exact i2.1) i3 i2.2 (by omega) (by omega) (by rw [uT]; exact hT i (Nat.le_refl _) hx tt) hn
        have pT : tD f' = tD f := by unfold tD; rw [p9, us_0]
        have p0 : f' 0 = f 0 := by rw [p9, us_0]
        have pA : ∀ y w, y < 6 → w < 12 → y ≠ i → fA f' y w = fA f y w := fun y w hy hw h => by rw [p11 y w hy hw h, uA y w hy hw (Or.inl h)]
        have hcnt : cntT f' (f' 0) (i + 1) d = cntT f (f 0) (i + 1) d := by rw [p0]; exact cntT_congr d (i + 1) (fun y w h1 h2 hw => pA y w (by omega) hw (by omega))
        obtain ⟨M4, f4, q1, q2, q3, q4, q5, q6⟩ := day_go hb hM hn d k (i + 1) M3 f' (by omega) (by omega) p5 (CalC_FD hb hC1 p7) p6
          (fun y hy => by
            by_cases h : y = i
            · subst h; exact p12
            · exact RUN_same p6 (by omega) (hR y (by omega)) pT (fun u hu => pA y u (by omega) (by omega) h))
          (fun y h1 h2 h3 h4 => by
            rw [pA y 0 h2 (by decide) (by omega)] at h3
            rw [pA y 8 h2 (by decide) (by omega)] at h4
            have := hW y (by omega) h2 h3 h4
            unfold aN aD at *
            rw [pT, pA y 2 h2 (by decide) (by omega), pA y 4 h2 (by decide) (by omega)]
            exact this)
          (fun y h1 h2 h3 => by
            unfold TO at h3
            rw [pA y 0 h2 (by decide) (by omega), pA y 8 h2 (by decide) (by omega), pA y 5 h2 (by decide) (by omega), p0] at h3
            have := hT y (by omega) h2 h3
            unfold aN at *
            rw [pT, pA y 2 h2 (by decide) (by omega)]
            exact this)
          (by rw [hcnt, p10, uS]; omega)
        refine ⟨M4, f4, ?_, fun k2 v1 v2 => ?_, q3, q4, (z4.trans p7).trans q5, ((FX_us hx (by omega)).trans p8).trans q6⟩
        · have q7 : M1 (b + 35 + 12 + i) 7 = nI (aQ f i) := by
            rw [(z3.2.2.2.1 i hx).2.2.2.2.2.2.2.1, uA i 3 hx (by decide) (by omega)]; exact i4.1
          unfold mX1_passDay_c12
          rw [e1]
          simp (disch := omega) only [nI_lit, nI_leI, hi6, if_false, bnp_some, e10, chk_n, nI_clamp, a9, hRS.1, t5, if_true, z1, bnd_some, q7, nI_add, p1, p3]
          exact q1
        · have q3' : fA (usF f i) i 3 = nI (aQ f i) := by
            rw [uA i 3 hx (by decide) (by omega)]; exact i4.1
          unfold mX11_pass_c34 mX11_turnsOn
          simp (disch := omega) only [nI_lit, nI_leI, hi6, if_false, bnp_some, chk_n, nI_clamp, stF_f]
          rw [e2]
          simp (disch := omega) only [nI_lit, bnp_some, e10, if_false, m_ofS, t5, if_true, z2, bnd_some, q3', nI_add, p2, p4]
          exact q2 k2 v1 v2
      · exact absurd ⟨t0, t8⟩ t
    · rw [cntT_s, if_neg tt] at hs
      have hRi : RUN f i := by
        intro q0 q8
        have hA := INV0_X hI0 hx q0
        obtain ⟨i0, i1, i2, i3, i4, i5, i6, i7, i8, i9, i10, i11, i12, i13, i14, i15⟩ := id hA
        have h8 : fA f i 8 = nI 0 := by have := i10.1; rw [q8] at this; exact this
        have h1 := hW i (Nat.le_refl _) hx q0 h8
        rcases Int.lt_or_eq_of_le h1 with q | q
        · exact q
        · exfalso
          apply tt
          refine ⟨q0, h8, ?_⟩
          rw [i6, t1, ← q]; rfl
      obtain ⟨M4, f4, q1, q2, q3, q4, q5, q6⟩ := day_go hb hM hn d k (i + 1) M f (by omega) (by omega) hRS hC hI0
          (fun y hy => by
            by_cases h : y = i
            · subst h; exact hRi
            · exact hR y (by omega))
          (fun y h1 h2 h3 h4 => hW y (by omega) h2 h3 h4) (fun y h1 h2 h3 => hT y (by omega) h2 h3) (by omega)
      refine ⟨M4, f4, ?_, fun k2 v1 v2 => ?_, q3, q4, q5, q6⟩
      · unfold mX1_passDay_c12
        rcases run_0 (N := N) hRS hI0 hx with ⟨t0, t8, hA, e1, e2⟩ | ⟨t, e1, e2⟩
        · have t5 : ¬ fA f i 5 = f 0 := fun q => tt ⟨t0, t8, q⟩
          rw [e1]
          simp (disch := omega) only [nI_lit, nI_leI, hi6, if_false, bnp_some, e10, chk_n, nI_clamp, a9, hRS.1, t5, nI_add]
          exact q1
        · rw [e1]
          simp (disch := omega) only [nI_lit, nI_leI, hi6, if_false, if_true, bnp_some, e10, chk_n, nI_clamp, nI_add]
          exact q1
      · unfold mX11_pass_c34 mX11_turnsOn
        simp (disch := omega) only [nI_lit, nI_leI, hi6, if_false, bnp_some, chk_n, nI_clamp, stF_f]
        rcases run_0 (N := N) hRS hI0 hx with ⟨t0, t8, hA, e1, e2⟩ | ⟨t, e1, e2⟩
        · have t5 : ¬ fA f i 5 = f 0 := fun q => tt ⟨t0, t8, q⟩
          rw [e2]
          simp (disch := omega) only [nI_lit, bnp_some, e10, if_false, m_ofS, t5, if_true, nI_add]
          exact q2 k2 v1 v2
        · rw [e2]
          simp (disch := omega) only [nI_lit, bnp_some, if_true, nI_add]
          exact q2 k2 v1 v2
theorem RS_day {b : Nat} {M : Mem} {f : Nat → Int32} {v : Int32} (hRS : RS b M f) (hIT : IT f) : RS b (upd2 M b 4 v) (upd f 0 v) := by
  obtain ⟨q0, q1, qT, qA, e0, eE⟩ := hRS
  have eA : ∀ y w, fA (upd f 0 v) y w = fA f y w := fun y w => upd_n _ _ (by omega)
  have eE' : ∀ i w, fE (upd f 0 v) i w = fE f i w := fun y w => upd_n _ _ (by omega)
  have hsz : sz (upd f 0 v) = sz f := by unfold sz; rw [upd_n _ _ (by omega)]
  have hall : ∀ y, allS (upd f 0 v) y = allS f y := fun y => by
    unfold allS; rw [hsz]; apply sumR_congr; intro j _ _; rw [eE', eE']
  refine ⟨?_, ?_, ?_, fun y hy => ?_, ?_, fun i hi => ?_⟩
  · rw [u2s, upd_s]
  · rw [u2o _ _ (by omega), upd_n _ _ (by omega)]; exact q1
  · exact RT_congr qT hIT (fun o k g1 g2 => u2o _ _ (by omega)) (fun j g1 _ _ => upd_n _ _ (by omega))
  · have hM' : ∀ k', upd2 M b 4 v (b + 35 + 12 + y) k' = M (b + 35 + 12 + y) k' := fun k' => u2o _ _ (by omega)
    unfold RA aN aD
    simp only [hM', eA, hall]
    exact qA y hy
  · rw [u2o _ _ (by omega), upd_n _ _ (by omega)]; exact e0
  · rw [hsz] at hi
    simp (disch := omega) only [u2o, eE']
    exact eE i hi
theorem INV0_day {f : Nat → Int32} (hI : INV0 f) (h : tD f + 1 ≤ 3652) : INV0 (upd f 0 (nI (tD f + 1))) ∧ tD (upd f 0 (nI (tD f + 1))) = tD f + 1 := by
  obtain ⟨t0, t1, t2, hIT, hIA, hIE⟩ := hI
  have eA : ∀ y w, fA (upd f 0 (nI (tD f + 1))) y w = fA f y w := fun y w => upd_n _ _ (by omega)
  have eE' : ∀ i w, fE (upd f 0 (nI (tD f + 1))) i w = fE f i w := fun y w => upd_n _ _ (by omega)
  have hsz : sz (upd f 0 (nI (tD f + 1))) = sz f := by unfold sz; rw [upd_n _ _ (by omega)]
  have hcl : cL (upd f 0 (nI (tD f + 1))) = cL f := by unfold cL; rw [upd_n _ _ (by omega)]
  have hT : tD (upd f 0 (nI (tD f + 1))) = tD f + 1 := by unfold tD; rw [upd_s]; exact na_nI (by unfold tD at h; omega)
  refine ⟨?_, hT⟩
  unfold INV0
  rw [hT, hsz, hcl, upd_s, upd_n _ _ (by omega), upd_n _ _ (by omega)]
  exact ⟨⟨rfl, h⟩, t1, t2, IT_congr hIT (fun j _ _ _ => upd_n _ _ (by omega)), fun y hy => IA_congr (hIA y hy) (fun w _ => eA y w) (by rw [hT]; omega) (by rw [hsz]; exact Nat.le_refl _),
    fun i hi => IE_congr (hIE i hi) (fun w _ => eE' i w) (by rw [hsz]; exact Nat.le_refl _) (fun y hy h1 => by rw [eA]; exact h1)⟩
theorem day_1 {b n : Nat} {M N : Mem} {f : Nat → Int32} (hS : SIM b M N f) (hn : 200 ≤ n) : (mX1_canPassDay n b M = some 0 ∧ mX11_mayPass n (stF N f) = some 0) ∨
    (mX1_canPassDay n b M = some 1 ∧ mX11_mayPass n (stF N f) = some 1 ∧ ∃ M' f', mX1_passDay n b M = some M' ∧ (∀ k2 v1 v2, mX11_pass_c34 n k2 n v1 v2 (nI 0) (stF N (upd f 0 (nI (tD f + 1)))) = k2 v1 v2 (stF N f')) ∧ SIM b M' N f' ∧ FD b M M' ∧ FX f f') := by
  obtain ⟨hb, hC, hM, hRS, ⟨hI0, hRun⟩⟩ := id hS
  have t1 := hI0.1.1; have t1' := hI0.1.2
  unfold mX1_canPassDay mX11_mayPass
  simp (disch := omega) only [nI_lit, chk_n, nI_clamp, stF_f, hRS.1, t1, nI_add, nI_leI]
  by_cases hd : tD f + 1 ≤ 3652
  · rw [if_pos hd, if_pos hd]
    obtain ⟨r, r1, r2, r3⟩ := can_go (N := N) hRS hI0 hC hM hd hn 6 n 0 0 rfl (by omega) (by omega)
    rw [r1, r2]
    rcases r3 with rfl | ⟨rfl, r4, r5⟩
    · exact Or.inl ⟨rfl, rfl⟩
    · refine Or.inr ⟨rfl, rfl, ?_⟩
      obtain ⟨hI1, hT1⟩ := INV0_day hI0 hd
      have hR1 := RS_day (v := nI (tD f + 1)) hRS hI0.2.2.2.1
      have hF : FD b M (upd2 M b 4 (nI (tD f + 1))) := fun o k h => u2o _ _ (by omega)
      have eA : ∀ y w, fA (upd f 0 (nI (tD f + 1))) y w = fA f y w := fun y w => upd_n _ _ (by omega)
      have hsz : sz (upd f 0 (nI (tD f + 1))) = sz f := by unfold sz; rw [upd_n _ _ (by omega)]
      have hcnt : cntT (upd f 0 (nI (tD f + 1))) ((upd f 0 (nI (tD f + 1))) 0) 0 6 = cntT f (nI (tD f + 1)) 0 6 := by rw [upd_s]; exact cntT_congr 6 0 (fun y w _ _ _ => eA y w)
      obtain ⟨M', f', p1, p2, p3, p4, p5, p6⟩ := day_go hb hM hn 6 n 0 _ _ rfl (by omega) hR1 (CalC_FD hb hC hF) hI1 (fun y hy => absurd hy (Nat.not_lt_zero _))
        (fun y _ hy h0 h8 => by
          rw [eA] at h0 h8
          have := hRun y hy h0 (by unfold aX; rw [h8]; rfl)
          rw [hT1]
          unfold aN aD at *
          rw [eA, eA]
          omega)
        (fun y _ hy h3 => by
          unfold TO at h3
          rw [eA, eA, eA, upd_s] at h3
          have := r4 y (Nat.zero_le _) hy h3
          rw [hT1]
          unfold aN at *
          rw [eA]
          exact this)
        (by rw [hcnt, hsz]; omega)
      refine ⟨M', f', ?_, p2, ⟨hb, CalC_FD hb hC (hF.trans p5), hM, p3, p4⟩, hF.trans p5, (FX_up (by omega)).trans p6⟩
      unfold mX1_passDay
      rw [hRS.1, t1, show (1 : Int32) = nI 1 from rfl, nI_add]
      exact p1
  · rw [if_neg hd, if_neg hd]
    exact Or.inl ⟨rfl, rfl⟩
theorem pass_go {b n m : Nat} {N : Mem} (hm : m ≤ 400) (hn : 200 ≤ n) : ∀ (d k i : Nat) (M : Mem) (f : Nat → Int32), i + d = m → d < k → SIM b M N f → ∃ r M' f', mX1_passDays_c16 n k b (nI m) (nI i) M = some (r, M') ∧ mX11_pass_c2 n k (nI m) (nI i) (stF N f) = some (r, stF N f') ∧ SIM b M' N f' ∧ FD b M M' ∧ FX f f' ∧ ∃ j, j ≤ m ∧ r = nI j
  | d, 0, _, _, _, _, h, _ => absurd h (Nat.not_lt_zero _)
  | 0, k + 1, i, M, f, e, h, hS => by
    unfold mX1_passDays_c16 mX11_pass_c2
    simp (disch := omega) only [nI_leI]
    rw [if_pos (by omega), if_pos (by omega)]
    exact ⟨_, M, f, rfl, rfl, hS, FD.rfl', FX.rfl', i, by omega, rfl⟩
  | d + 1, k + 1, i, M, f, e, h, hS => by
    have t1 := hS.2.2.2.2.1.1.1; have t1' := hS.2.2.2.2.1.1.2
    unfold mX1_passDays_c16 mX11_pass_c2
    simp (disch := omega) only [nI_leI]
    rw [if_neg (by omega), if_neg (by omega)]
    rcases day_1 hS hn with ⟨e1, e2⟩ | ⟨e1, e2, M1, f1, e3, e4, e5, e6, e7⟩
    · rw [e1, e2]
      simp only [bnp_some, if_true]
      exact ⟨_, M, f, rfl, rfl, hS, FD.rfl', FX.rfl', i, by omega, rfl⟩
    · have e10 : ((1 : Int32) = 0) = False := eq_false (by decide)
      rw [e1, e2]
      simp only [bnp_some, e10, if_false]
      rw [e3]
      simp (disch := omega) only [bnp_some, nI_lit, chk_n, nI_clamp, stF_f, t1, nI_add, upd2_stF, lt_eq, e4]
      obtain ⟨r, M2, f2, r1, r2, r3, r4, r5, r6⟩ := pass_go hm hn d k (i + 1) M1 f1 (by omega) (by omega) e5
      exact ⟨r, M2, f2, r1, r2, r3, e6.trans r4, e7.trans r5, r6⟩
theorem op_days {b n : Nat} {M N : Mem} {f : Nat → Int32} (hS : SIM b M N f) (hn : 500 ≤ n) (a : Int32) : OPR b M N f (mX1_passDays n b a M) (mX11_days n a (stF N f)) := by
  unfold mX1_passDays mX11_days
  rcases in_c a 1 400 401 1 400 rfl rfl rfl (by decide) (by decide) with ⟨q, hq1, hq, rfl, g1, g2, g3, g4⟩ | ⟨g4, g1⟩
  · rw [if_neg g1, if_pos (Int32.not_lt.mp g2), g4]
    have e10 : ((1 : Int32) = 0) = False := eq_false (by decide)
    simp only [bnp_some, e10, if_false]
    unfold mX11_pass
    obtain ⟨r, M2, f2, r1, r2, r3, r4, r5, r6⟩ := pass_go (N := N) (m := q) hq (n := n) (by omega) q n 0 M f (by omega) (by omega) hS
    rw [show (0 : Int32) = nI 0 from rfl, r1, r2]
    exact ⟨r, M2, N, f2, rfl, rfl, r3, r4, NE.rfl', r5⟩
  · rw [g4]
    simp only [bnp_some, if_true]
    rcases g1 with g1 | ⟨g1, g2, g3⟩
    · rw [if_pos g1]; exact OPR_no hS _
    · rw [if_neg g1, if_neg (Int32.not_le.mpr g2)]; exact OPR_no hS _
end
section
/-! sums over ENTRIES: ALL, what covers, what is late -/
theorem sumR_s (g : Nat → Int32) (i d : Nat) : sumR g i (d + 1) = g i + sumR g (i + 1) d := rfl
theorem m_entS {N : Mem} {f : Nat → Int32} {i w : Nat} (hi : i < 400) (hw : w < 10) : mX11_entryOf (nI i) (nI w) (stF N f) = some (fE f i w) := m_entryOf hi hw
theorem m_all_go {N : Mem} {f : Nat → Int32} {x n : Nat} {g : Nat → Int32} (h1 : f 1 = nI (sz f)) (hs : sz f ≤ 400) (hg : ∀ j, g j = if fE f j 1 = nI x then fE f j 7 else 0) : ∀ (d k i : Nat) (a : Int32), i + d = sz f → d < k → mX11_allOf_c4 n k (nI x) a (nI i) (stF N f) = some (a + sumR g i d)
  | d, 0, _, _, _, h => absurd h (Nat.not_lt_zero _)
  | 0, k + 1, i, a, e, h => by
    unfold mX11_allOf_c4
    simp (disch := omega) only [nI_lit, chk_n, nI_clamp, stF_f, h1, nI_leI]
    rw [if_pos (by omega)]
    show some a = some (a + 0)
    rw [Int32.add_zero]
  | d + 1, k + 1, i, a, e, h => by
    have ih := fun a => m_all_go (N := N) (f := f) (x := x) (n := n) h1 hs hg d k (i + 1) a (by omega) (by omega)
    unfold mX11_allOf_c4
    simp (disch := omega) only [nI_lit, chk_n, nI_clamp, stF_f, h1, nI_leI, m_entS, bnp_some, nI_add]
    rw [if_neg (by omega), sumR_s, hg]
    by_cases t : fE f i 1 = nI x
    · rw [if_pos t, ih, if_pos t, Int32.add_assoc]
    · rw [if_neg t, ih, if_neg t, Int32.zero_add]
theorem m_all {N : Mem} {f : Nat → Int32} {x n : Nat} (hI : INV0 f) (hn : 500 ≤ n) : mX11_allOf n (nI x) (stF N f) = some (allS f x) := by
  have h1 := hI.2.1.1; have h2 := hI.2.1.2
  unfold mX11_allOf
  rw [show (0 : Int32) = nI 0 from rfl, m_all_go h1 h2 (fun j => rfl) (sz f) n 0 _ (by omega) (by omega)]
  unfold allS
  rw [show nI 0 = (0 : Int32) from rfl, Int32.zero_add]
theorem neg_toInt' {c : Int32} (h : -2147483647 ≤ c.toInt) : (-c).toInt = -c.toInt := by
  have h2 := Int32.toInt_lt c
  have e : -c = iI (-c.toInt) := by rw [← iI_neg, ← iI_of]
  rw [e]
  exact iI_toInt (by omega) (by omega)
theorem op_favour {b n : Nat} {M N : Mem} {f : Nat → Int32} (hS : SIM b M N f) (hn : 500 ≤ n) (a c : Int32) : OPR b M N f (mX1_grantFavour b a c M) (mX11_favour n a c (stF N f)) := by
  unfold mX1_grantFavour mX11_favour
  obtain ⟨hb, hC, hM, hRS, ⟨hI0, hRun⟩⟩ := id hS
  have h1 := hI0.2.1.1; have h1' := hI0.2.1.2
  have t1 := hI0.1.1; have t1' := hI0.1.2
  have e10 : ((1 : Int32) = 0) = False := eq_false (by decide)
  rcases beg_c hS a with ⟨x, hx, rfl, hA, e1, e3⟩ | ⟨e1, e3⟩
  · have hRA := hRS.2.2.2.1 x hx
    have a13 := hRA.2.2.2.2.2.2.2.2.2.2.2.2.2
    rw [e1, e3]
    simp only [bnp_some, e10, if_false]
    by_cases c1 : c < 1
    · rw [if_pos c1, if_pos c1]; exact OPR_no hS _
    · rw [if_neg c1, if_neg c1, m_all hI0 hn, chk_n hx (by decide), nI_clamp (by omega), a13]
      simp only [bnp_some]
      by_cases c2 : c ≤ allS f x
      · rw [if_pos c2, if_pos c2]
        have room := room_c (k := 1) hRS hI0 (by decide)
        simp (disch := omega) only [nI_lit, chk_n, nI_clamp, bnp_some, stF_f, h1, room, nI_eq, hRS.1]
        by_cases hs : sz f ≤ 399
        · rw [if_pos (show sz f + 1 ≤ 400 by omega), if_neg (by decide), if_neg (show ¬ sz f = 400 by omega)]
          obtain ⟨M', w1, w2, w3⟩ := c_write (k := 3) (fr := f 0) (to := f 0) (c := -c) hRS hI0.2.2.2.1 h1 (by omega) hx
          have c3 : 1 ≤ c.toInt := by
            have := Int32.le_iff_toInt_le.mp (Int32.not_lt.mp c1)
            exact this
          have c4 := neg_toInt' (c := c) (by omega)
          have c5 := Int32.toInt_lt c
          have hI' := INV0_wr (k := 3) (c := -c) hI0 hx hA (by omega) (by decide) t1 t1 t1' (Nat.le_refl _) (fun h => absurd h (by decide)) (by omega)
          rw [w1, m_writes h1 (by omega) hx]
          simp only [bnd_some]
          rw [m_all hI' hn, (w2.2.2.2.1 x hx).2.2.2.2.2.2.2.2.2.2.2.2.2]
          exact ⟨_, _, N, _, rfl, rfl, ⟨hb, CalC_FD hb hC w3, hM, w2, hI', fun y hy => RUN_same hI' hy (hRun y hy) wr_tD (fun u hu => wr_A hy (by omega))⟩, w3, NE.rfl', FX_wr (by omega)⟩
        · rw [if_neg (show ¬ sz f + 1 ≤ 400 by omega), if_pos rfl, if_pos (show sz f = 400 by omega)]; exact OPR_no hS _
      · rw [if_neg c2, if_neg c2]; exact OPR_no hS _
  · rw [e1, e3]; exact OPR_no hS _
/-! what covers -/
def mnC (l c : Int32) : Int32 := if c < l then c else l
theorem mnC_m {l c : Int32} : mX11_min l c = some (mnC l c) := by
  unfold mX11_min mnC
  by_cases h : c < l
  · rw [if_pos h, if_pos (Int32.le_of_lt h)]
  · rw [if_neg h]
    by_cases h2 : c ≤ l
    · rw [if_pos h2]
      have : c = l := Int32.le_antisymm h2 (Int32.not_lt.mp h)
      rw [this]
    · rw [if_neg h2]
abbrev covC (f : Nat → Int32) (x i : Nat) : Prop := fE f i 1 = nI x ∧ fE f i 7 < 0
abbrev opC (f : Nat → Int32) (x i : Nat) : Prop := fE f i 1 = nI x ∧ 0 < fE f i 7
def covS (f : Nat → Int32) (x : Nat) : Nat → Nat → Int32 → Int32
  | _, 0, a => a
  | i, d + 1, a => covS f x (i + 1) d (if covC f x i then a - fE f i 7 else a)
def LF (f : Nat → Int32) (x : Nat) : Nat → Nat → Int32 → Int32
  | _, 0, l => l
  | i, d + 1, l => LF f x (i + 1) d (if opC f x i then l - mnC l (fE f i 7) else l)
theorem covS_s (f : Nat → Int32) (x i d : Nat) (a : Int32) : covS f x i (d + 1) a = covS f x (i + 1) d (if covC f x i then a - fE f i 7 else a) := rfl
theorem LF_s (f : Nat → Int32) (x i d : Nat) (l : Int32) : LF f x i (d + 1) l = LF f x (i + 1) d (if opC f x i then l - mnC l (fE f i 7) else l) := rfl
theorem LF_last (f : Nat → Int32) (x : Nat) : ∀ (d i : Nat) (l : Int32), LF f x i (d + 1) l = (if opC f x (i + d) then LF f x i d l - mnC (LF f x i d l) (fE f (i + d) 7) else LF f x i d l)
  | 0, i, l => rfl
  | d + 1, i, l => by
    rw [LF_s, LF_last f x d (i + 1), LF_s]
    rw [show i + 1 + d = i + (d + 1) by omega]
def OPV (f : Nat → Int32) (x i : Nat) (l : Int32) : Int32 := if opC f x i then fE f i 7 - mnC l (fE f i 7) else 0
def COV (f : Nat → Int32) (x : Nat) : Int32 := covS f x 0 (sz f) (fA f x 9)
theorem c_isOf {e : Nat} {M : Mem} {f : Nat → Int32} {i : Nat} {a : Int32} (hE : RE e M f) (h1 : f 1 = nI (sz f)) (hs : sz f ≤ 400) (hi : i < sz f) : mX5_isOf e (nI i) a M = some (if fE f i 1 = a then 1 else 0) := by
  unfold mX5_isOf
  simp (disch := omega) only [nI_lit, nI_lt0, if_false, hE.1, h1, nI_leI, chk_n, nI_clamp, (hE.2 i hi).2.1]
  rw [if_neg (by omega), if_neg (by omega)]
  split <;> rfl
theorem c_cov_go {e n x : Nat} {M : Mem} {f : Nat → Int32} (hE : RE e M f) (h1 : f 1 = nI (sz f)) (hs : sz f ≤ 400) : ∀ (d k i : Nat) (a : Int32), i + d = sz f → d < k → mX5_coverOf_c5 n k e (nI x) a (nI i) M = some (covS f x i d a)
  | d, 0, _, _, _, h => absurd h (Nat.not_lt_zero _)
  | 0, k + 1, i, a, e0, h => by
    unfold mX5_coverOf_c5
    rw [hE.1, h1]
    simp (disch := omega) only [nI_leI]
    rw [if_pos (by omega)]; rfl
  | d + 1, k + 1, i, a, e0, h => by
    have ih := fun a => c_cov_go (x := x) (n := n) hE h1 hs d k (i + 1) a (by omega) (by omega)
    have hi : i < sz f := by omega
    have e10 : ((1 : Int32) = 0) = False := eq_false (by decide)
    unfold mX5_coverOf_c5
    rw [c_isOf hE h1 hs hi, hE.1, h1, if_neg (by rw [nI_leI (by omega) (by omega)]; omega), covS_s]
    simp only [bnp_some]
    by_cases t : fE f i 1 = nI x
    · simp only [t, if_true, e10, if_false]
      rw [chk_n (by omega) (by omega), chk_n (by omega) (by omega), nI_clamp (by omega), (hE.2 i hi).2.2.2.2.2.2.2.1, show (1 : Int32) = nI 1 from rfl, nI_add]
      by_cases t2 : 0 ≤ fE f i 7
      · rw [if_pos t2, if_neg (fun q => absurd q.2 (Int32.not_lt.mpr t2)), ih]
      · rw [if_neg t2, if_pos ⟨t, Int32.not_le.mp t2⟩, ih]
    · simp only [t, if_false, if_true]
      rw [show (1 : Int32) = nI 1 from rfl, nI_add, ih, if_neg (fun q => t q.1)]
theorem c_cov {e n x : Nat} {M : Mem} {f : Nat → Int32} {p : Int32} (hE : RE e M f) (hI : INV0 f) (hn : 500 ≤ n) (hp : p = fA f x 9) : mX5_coverOf n e (nI x) p M = some (COV f x) := by
  unfold mX5_coverOf
  rw [show (0 : Int32) = nI 0 from rfl, c_cov_go hE hI.2.1.1 hI.2.1.2 (sz f) n 0 p (by omega) (by have := hI.2.1.2; omega), hp]
  rfl
theorem upd2_oS (N : Mem) (g : Nat → Int32) {o : Nat} (k : Nat) (v : Int32) (h : o ≠ 209) : upd2 (stF N g) o k v = stF (upd2 N o k v) g := by
  funext a i
  unfold upd2 stF
  by_cases h1 : a = 209
  · subst h1; simp [Ne.symm h]
  · simp [h1]
theorem upd2_two (N : Mem) (o k : Nat) (v w : Int32) : upd2 (upd2 N o k v) o k w = upd2 N o k w := by
  funext a i; unfold upd2; split <;> rfl
theorem upd2_id (N : Mem) (o k : Nat) : upd2 N o k (N o k) = N := by
  funext a i; unfold upd2; split
  · next h => obtain ⟨rfl, rfl⟩ := h; rfl
  · rfl
theorem NE_217 {N : Mem} {k : Nat} {v : Int32} : NE N (upd2 N 217 k v) := fun o k' a b c => u2o _ _ a
theorem NE_21 {N : Mem} {v : Int32} : NE N (upd2 N 207 21 v) := fun o k' a b c => by
  by_cases h : o = 207
  · subst h; exact u2k _ _ (b rfl)
  · exact u2o _ _ h
theorem m_cov_go {n x : Nat} {f : Nat → Int32} (h1 : f 1 = nI (sz f)) (hs : sz f ≤ 400) : ∀ (d k i : Nat) (N : Mem), i + d = sz f → d < k → mX11_covers_c13 n k (nI x) (nI i) (stF N f) = mX11_covers_c67 n n (nI x) (nI 0) (stF (upd2 N 207 21 (covS f x i d (N 207 21))) f)
  | d, 0, _, _, _, h => absurd h (Nat.not_lt_zero _)
  | 0, k + 1, i, N, e0, h => by
    unfold mX11_covers_c13
    simp (disch := omega) only [nI_lit, chk_n, nI_clamp, stF_f, h1, nI_leI]
    rw [if_pos (by omega)]
    unfold covS
    rw [upd2_id]
  | d + 1, k + 1, i, N, e0, h => by
    have ih := fun N => m_cov_go (x := x) (n := n) h1 hs d k (i + 1) N (by omega) (by omega)
    unfold mX11_covers_c13
    simp (disch := omega) only [nI_lit, chk_n, nI_clamp, stF_f, h1, nI_leI, m_entS, bnp_some, nI_add]
    rw [if_neg (by omega), covS_s]
    by_cases t : fE f i 1 = nI x
    · rw [if_pos t]
      by_cases t2 : nI 0 ≤ fE f i 7
      · rw [if_pos t2, if_neg (fun q => absurd q.2 (Int32.not_lt.mpr t2)), ih]
      · rw [if_neg t2, if_pos ⟨t, Int32.not_le.mp t2⟩, stF_o _ _ (by decide), upd2_oS _ _ _ _ (by decide), ih, u2s, upd2_two]
    · rw [if_neg t, if_neg (fun q => t q.1), ih]
theorem m_cv67 {n x : Nat} {f : Nat → Int32} (h1 : f 1 = nI (sz f)) (hs : sz f ≤ 400) : ∀ (d k i : Nat) (N : Mem), i + d = sz f → d < k → ∃ N', mX11_covers_c67 n k (nI x) (nI i) (stF N f) = some (stF N' f) ∧ NE N N' ∧ N' 207 21 = LF f x i d (N 207 21) ∧
      (∀ j, i ≤ j → j < sz f → N' 217 j = OPV f x j (LF f x i (j - i) (N 207 21))) ∧ (∀ j, j < i → N' 217 j = N 217 j)
  | d, 0, _, _, _, h => absurd h (Nat.not_lt_zero _)
  | 0, k + 1, i, N, e0, h => by
    unfold mX11_covers_c67
    simp (disch := omega) only [nI_lit, chk_n, nI_clamp, stF_f, h1, nI_leI]
    rw [if_pos (by omega)]
    exact ⟨N, rfl, NE.rfl', rfl, fun j q1 q2 => absurd q2 (by omega), fun _ _ => rfl⟩
  | d + 1, k + 1, i, N, e0, h => by
    have ih := fun N => m_cv67 (x := x) (n := n) h1 hs d k (i + 1) N (by omega) (by omega)
    have fin : ∀ (v l : Int32) (N1 : Mem), N1 = upd2 (upd2 N 217 i v) 207 21 l → v = OPV f x i (N 207 21) → l = (if opC f x i then N 207 21 - mnC (N 207 21) (fE f i 7) else N 207 21) → ∃ N', mX11_covers_c67 n k (nI x) (nI (i + 1)) (stF N1 f) = some (stF N' f) ∧ NE N N' ∧ N' 207 21 = LF f x i (d + 1) (N 207 21) ∧
      (∀ j, i ≤ j → j < sz f → N' 217 j = OPV f x j (LF f x i (j - i) (N 207 21))) ∧ (∀ j, j < i → N' 217 j = N 217 j) := by
      intro v l N1 hN1 hv hl
      obtain ⟨N', p1, p2, p3, p4, p5⟩ := ih N1
      have l1 : N1 207 21 = l := by rw [hN1, u2s]
      have l2 : N1 217 i = v := by rw [hN1, u2o _ _ (by decide), u2s]
      refine ⟨N', p1, NE.trans (N1 := N1) ?_ p2, ?_, fun j q1 q2 => ?_, fun j q => ?_⟩
      · subst hN1; exact NE_217.trans NE_21
      · rw [p3, l1, LF_s, ← hl]
      · rcases Nat.eq_or_lt_of_le q1 with q | q
        · subst q
          rw [p5 i (by omega), l2, Nat.sub_self, hv]; rfl
        · rw [p4 j (by omega) q2, l1, show j - i = (j - (i + 1)) + 1 by omega, LF_s, ← hl]
      · rw [p5 j (by omega), hN1, u2o _ _ (by decide), u2k _ _ (by omega)]
    unfold mX11_covers_c67
    simp (disch := omega) only [nI_lit, chk_n, nI_clamp, stF_f, h1, nI_leI, upd2_oS, m_entS, bnp_some, nI_add, mnC_m, lt_eq, stF_o, upd2_two]
    rw [if_neg (by omega)]
    by_cases t : fE f i 1 = nI x
    · rw [if_pos t]
      by_cases t2 : nI 0 < fE f i 7
      · rw [if_pos t2]
        simp (disch := omega) only [u2o]
        exact fin _ _ _ rfl (by unfold OPV; rw [if_pos ⟨t, t2⟩]) (by rw [if_pos ⟨t, t2⟩])
      · rw [if_neg t2]
        refine fin 0 (N 207 21) _ ?_ (by unfold OPV; rw [if_neg (fun q => t2 q.2)]) (by rw [if_neg (fun q => t2 q.2)])
        have : N 207 21 = upd2 N 217 i (nI 0) 207 21 := (u2o _ _ (by decide)).symm
        rw [this]; exact (upd2_id _ _ _).symm
    · rw [if_neg t]
      refine fin 0 (N 207 21) _ ?_ (by unfold OPV; rw [if_neg (fun q => t q.1)]) (by rw [if_neg (fun q => t q.1)])
      have : N 207 21 = upd2 N 217 i (nI 0) 207 21 := (u2o _ _ (by decide)).symm
      rw [this]; exact (upd2_id _ _ _).symm
theorem m_covers {n x : Nat} {f : Nat → Int32} {N : Mem} (hI : INV0 f) (hx : x < 6) (hn : 500 ≤ n) : ∃ N', mX11_covers n (nI x) (stF N f) = some (stF N' f) ∧ NE N N' ∧ N' 207 21 = LF f x 0 (sz f) (COV f x) ∧ ∀ j, j < sz f → N' 217 j = OPV f x j (LF f x 0 j (COV f x)) := by
  have h1 := hI.2.1.1; have h2 := hI.2.1.2
  unfold mX11_covers
  rw [show (9 : Int32) = nI 9 from rfl, m_ofS hx (by decide)]
  simp only [bnp_some]
  rw [upd2_oS _ _ _ _ (by decide), show (0 : Int32) = nI 0 from rfl, m_cov_go h1 h2 (sz f) n 0 _ (by omega) (by omega), u2s, upd2_two]
  obtain ⟨N', p1, p2, p3, p4, p5⟩ := m_cv67 (x := x) (n := n) h1 h2 (sz f) n 0 (upd2 N 207 21 (covS f x 0 (sz f) (fA f x 9))) (by omega) (by omega)
  rw [u2s] at p3
  refine ⟨N', p1, NE_21.trans p2, p3, fun j hj => ?_⟩
  have := p4 j (Nat.zero_le _) hj
  rw [u2s] at this
  exact this
end
section
/-! what is late; remind -/
def lateG (f : Nat → Int32) (x : Nat) (day : Int32) (j : Nat) : Int32 := if fE f j 1 = nI x ∧ ¬ day ≤ fE f j 2 + nI 14 then OPV f x j (LF f x 0 j (COV f x)) else 0
def LATE (f : Nat → Int32) (x : Nat) (day : Int32) : Int32 := sumR (lateG f x day) 0 (sz f)
theorem lateG_0 {f : Nat → Int32} {x j : Nat} {day : Int32} (h : ¬ opC f x j) : lateG f x day j = 0 := by
  unfold lateG OPV
  rw [if_neg h]; split <;> rfl
theorem m_late_go {n x : Nat} {f : Nat → Int32} {N : Mem} {day : Int32} (h1 : f 1 = nI (sz f)) (hs : sz f ≤ 400) (hN : ∀ j, j < sz f → N 217 j = OPV f x j (LF f x 0 j (COV f x))) : ∀ (d k i : Nat) (a : Int32), i + d = sz f → d < k → mX11_lateOn_c10 n k (nI x) day a (nI i) (stF N f) = some (a + sumR (lateG f x day) i d, stF N f)
  | d, 0, _, _, _, h => absurd h (Nat.not_lt_zero _)
  | 0, k + 1, i, a, e, h => by
    unfold mX11_lateOn_c10
    simp (disch := omega) only [nI_lit, chk_n, nI_clamp, stF_f, h1, nI_leI]
    rw [if_pos (by omega)]
    show some (a, stF N f) = some (a + 0, stF N f)
    rw [Int32.add_zero]
  | d + 1, k + 1, i, a, e, h => by
    have ih := fun a => m_late_go (n := n) (x := x) (day := day) h1 hs hN d k (i + 1) a (by omega) (by omega)
    unfold mX11_lateOn_c10
    simp (disch := omega) only [nI_lit, chk_n, nI_clamp, stF_f, h1, nI_leI, m_entS, bnp_some, nI_add, stF_o, hN]
    rw [if_neg (by omega), sumR_s]
    by_cases t : fE f i 1 = nI x
    · rw [if_pos t]
      by_cases t2 : day ≤ fE f i 2 + nI 14
      · rw [if_pos t2, ih, show lateG f x day i = 0 from if_neg (fun q => q.2 t2), Int32.zero_add]
      · rw [if_neg t2, ih, show lateG f x day i = OPV f x i (LF f x 0 i (COV f x)) from if_pos ⟨t, t2⟩, Int32.add_assoc]
    · rw [if_neg t, ih, show lateG f x day i = 0 from if_neg (fun q => t q.1), Int32.zero_add]
theorem m_late {n x : Nat} {f : Nat → Int32} {N : Mem} (hI : INV0 f) (hx : x < 6) (hn : 500 ≤ n) (day : Int32) : ∃ N', mX11_lateOn n (nI x) day (stF N f) = some (LATE f x day, stF N' f) ∧ NE N N' := by
  have h1 := hI.2.1.1; have h2 := hI.2.1.2
  obtain ⟨N', p1, p2, p3, p4⟩ := m_covers (N := N) hI hx hn
  unfold mX11_lateOn
  rw [p1]
  simp only [bnp_some]
  rw [show (0 : Int32) = nI 0 from rfl, m_late_go h1 h2 p4 (sz f) n 0 _ (by omega) (by omega), show nI 0 = (0 : Int32) from rfl, Int32.zero_add]
  exact ⟨N', rfl, p2⟩
theorem c_late_go {e n x : Nat} {M : Mem} {f : Nat → Int32} {day : Int32} (hE : RE e M f) (h1 : f 1 = nI (sz f)) (hs : sz f ≤ 400) : ∀ (d k i : Nat) (l a : Int32), i + d = sz f → d < k → l = LF f x 0 i (COV f x) → mX5_sumLate_c14 n k e (nI x) day l a (nI i) M = some (a + sumR (lateG f x day) i d)
  | d, 0, _, _, _, _, h, _ => absurd h (Nat.not_lt_zero _)
  | 0, k + 1, i, l, a, e0, h, hl => by
    unfold mX5_sumLate_c14
    rw [hE.1, h1]
    simp (disch := omega) only [nI_leI]
    rw [if_pos (by omega)]
    show some a = some (a + 0)
    rw [Int32.add_zero]
  | d + 1, k + 1, i, l, a, e0, h, hl => by
    have ih := fun l a => c_late_go (x := x) (n := n) (day := day) hE h1 hs d k (i + 1) l a (by omega) (by omega)
    have hi : i < sz f := by omega
    have e10 : ((1 : Int32) = 0) = False := eq_false (by decide)
    have r8 := (hE.2 i hi).2.2.2.2.2.2.2.1
    have r3 := (hE.2 i hi).2.2.1
    have hL := LF_last f x i 0 (COV f x)
    rw [Nat.zero_add, ← hl] at hL
    unfold mX5_sumLate_c14
    rw [c_isOf hE h1 hs hi, hE.1, h1, if_neg (by rw [nI_leI (by omega) (by omega)]; omega), sumR_s, show (1 : Int32) = nI 1 from rfl, nI_add]
    simp (disch := omega) only [bnp_some, chk_n, nI_clamp, r8, r3]
    by_cases t : fE f i 1 = nI x
    · simp only [t, if_true]
      rw [if_neg (show ¬ nI 1 = 0 by decide)]
      by_cases t2 : fE f i 7 ≤ 0
      · have hno : ¬ opC f x i := fun q => absurd q.2 (Int32.not_lt.mpr t2)
        rw [if_neg hno] at hL
        rw [if_pos t2, ih l a hL.symm, lateG_0 hno, Int32.zero_add]
      · have hyes : opC f x i := ⟨t, Int32.not_le.mp t2⟩
        rw [if_pos hyes] at hL
        rw [if_neg t2]
        by_cases t3 : day ≤ fE f i 2 + nI 14
        · have := ih _ a hL.symm
          rw [if_pos (show day ≤ fE f i 2 + 14 from t3), show lateG f x day i = 0 from if_neg (fun q => q.2 t3), Int32.zero_add]
          exact this
        · have := ih _ (a + (fE f i 7 - mnC l (fE f i 7))) hL.symm
          have hg : lateG f x day i = fE f i 7 - mnC l (fE f i 7) := by
            unfold lateG OPV
            rw [if_pos ⟨t, t3⟩, if_pos hyes, ← hl]
          rw [if_neg (show ¬ day ≤ fE f i 2 + 14 from t3), hg, ← Int32.add_assoc]
          exact this
    · have hno : ¬ opC f x i := fun q => t q.1
      rw [if_neg hno] at hL
      simp only [t, if_false, if_true]
      rw [ih l a hL.symm, lateG_0 hno, Int32.zero_add]
theorem c_late {e n x : Nat} {M : Mem} {f : Nat → Int32} {p day : Int32} (hE : RE e M f) (hI : INV0 f) (hn : 500 ≤ n) (hp : p = fA f x 9) : mX5_sumLate n e (nI x) p day M = some (LATE f x day) := by
  have h1 := hI.2.1.1; have h2 := hI.2.1.2
  unfold mX5_sumLate
  rw [c_cov hE hI hn hp]
  simp only [bnp_some]
  have := c_late_go (x := x) (n := n) (day := day) hE h1 h2 (sz f) n 0 (COV f x) 0 (by omega) (by omega) rfl
  rw [Int32.zero_add] at this
  exact this
def feO (f : Nat → Int32) (x : Nat) (day : Int32) : Nat → Nat → Int32
  | _, 0 => 0
  | i, d + 1 => if fE f i 1 = nI x ∧ fE f i 0 = nI 5 ∧ fE f i 2 = day then 1 else feO f x day (i + 1) d
theorem feO_s (f : Nat → Int32) (x : Nat) (day : Int32) (i d : Nat) : feO f x day i (d + 1) = if fE f i 1 = nI x ∧ fE f i 0 = nI 5 ∧ fE f i 2 = day then 1 else feO f x day (i + 1) d := rfl
theorem feO_01 (f : Nat → Int32) (x : Nat) (day : Int32) : ∀ (d i : Nat), feO f x day i d = 0 ∨ feO f x day i d = 1
  | 0, _ => Or.inl rfl
  | d + 1, i => by
    rw [feO_s]
    split
    · exact Or.inr rfl
    · exact feO_01 f x day d (i + 1)
theorem m_fee_go {n x : Nat} {f : Nat → Int32} {N : Mem} (h1 : f 1 = nI (sz f)) (hs : sz f ≤ 400) : ∀ (d k i : Nat), i + d = sz f → d < k → mX11_isRemindedToday_c2 n k (nI x) (nI i) (stF N f) = some (feO f x (f 0) i d)
  | d, 0, _, _, h => absurd h (Nat.not_lt_zero _)
  | 0, k + 1, i, e, h => by
    unfold mX11_isRemindedToday_c2
    simp (disch := omega) only [nI_lit, chk_n, nI_clamp, stF_f, h1, nI_leI]
    rw [if_pos (by omega)]; rfl
  | d + 1, k + 1, i, e, h => by
    have ih := m_fee_go (n := n) (x := x) (N := N) h1 hs d k (i + 1) (by omega) (by omega)
    unfold mX11_isRemindedToday_c2
    simp (disch := omega) only [nI_lit, chk_n, nI_clamp, stF_f, h1, nI_leI, m_entS, bnp_some, nI_add, ih]
    rw [if_neg (by omega), feO_s]
    by_cases t1 : fE f i 1 = nI x
    · rw [if_pos t1]
      by_cases t2 : fE f i 0 = nI 5
      · rw [if_pos t2]
        by_cases t3 : fE f i 2 = f 0
        · rw [if_pos t3, if_pos ⟨t1, t2, t3⟩]; rfl
        · rw [if_neg t3, if_neg (fun q => t3 q.2.2)]
      · rw [if_neg t2, if_neg (fun q => t2 q.2.1)]
    · rw [if_neg t1, if_neg (fun q => t1 q.1)]
theorem c_fee_go {e n x : Nat} {M : Mem} {f : Nat → Int32} {day : Int32} (hE : RE e M f) (h1 : f 1 = nI (sz f)) (hs : sz f ≤ 400) : ∀ (d k i : Nat), i + d = sz f → d < k → mX5_haveFeeOn_c2 n k e (nI x) day (nI i) M = some (feO f x day i d)
  | d, 0, _, _, h => absurd h (Nat.not_lt_zero _)
  | 0, k + 1, i, e0, h => by
    unfold mX5_haveFeeOn_c2
    rw [hE.1, h1]
    simp (disch := omega) only [nI_leI]
    rw [if_pos (by omega)]; rfl
  | d + 1, k + 1, i, e0, h => by
    have ih := c_fee_go (x := x) (n := n) (day := day) hE h1 hs d k (i + 1) (by omega) (by omega)
    have hi : i < sz f := by omega
    have r1 := (hE.2 i hi).1
    have r3 := (hE.2 i hi).2.2.1
    unfold mX5_haveFeeOn_c2
    rw [c_isOf hE h1 hs hi, hE.1, h1, if_neg (by rw [nI_leI (by omega) (by omega)]; omega), feO_s, show (1 : Int32) = nI 1 from rfl, nI_add]
    simp (disch := omega) only [bnp_some, chk_n, nI_clamp, r1, r3, ih]
    by_cases t1 : fE f i 1 = nI x
    · simp only [t1, if_true]
      rw [if_neg (show ¬ nI 1 = 0 by decide)]
      by_cases t2 : fE f i 0 = nI 5
      · rw [if_pos (show fE f i 0 = 5 from t2)]
        by_cases t3 : fE f i 2 = day
        · rw [if_pos t3, if_pos ⟨trivial, t2, t3⟩]
        · rw [if_neg t3, if_neg (fun q => t3 q.2.2)]
      · rw [if_neg (show ¬ fE f i 0 = 5 from t2), if_neg (fun q => t2 q.2.1)]
    · have g : ¬ (fE f i 1 = nI x ∧ fE f i 0 = nI 5 ∧ fE f i 2 = day) := fun q => t1 q.1
      rw [if_neg g]
      simp only [t1, if_false, if_true]
theorem fee_q (r : Int32) {p : Nat} (hp : p ≤ 20) : ∃ z : Int, -500000000 ≤ z ∧ z ≤ 500000000 ∧ (Int32.toInt64 r * Int32.toInt64 (nI p) / (100 : Int64)).toInt = z := by
  have h1 := Int32.toInt_lt r
  have h2 := Int32.le_toInt r
  have c100 : (100 : Int64).toInt = 100 := by decide
  obtain ⟨w, hw⟩ : ∃ w, w = r.toInt * (p : Int) := ⟨_, rfl⟩
  have m1 : r.toInt * (p : Int) ≤ 2147483648 * (p : Int) := Int.mul_le_mul_of_nonneg_right (by omega) (by omega)
  have m2 : -2147483648 * (p : Int) ≤ r.toInt * (p : Int) := Int.mul_le_mul_of_nonneg_right (by omega) (by omega)
  rw [← hw] at m1 m2
  have e : (Int32.toInt64 r * Int32.toInt64 (nI p)).toInt = w := by
    rw [Int64.toInt_mul, Int32.toInt_toInt64, Int32.toInt_toInt64, nI_toInt (by omega), ← hw]
    exact Int.bmod_eq_of_le (by omega) (by omega)
  rcases Int.le_total 0 w with h | h
  · refine ⟨w / 100, by omega, by omega, ?_⟩
    rw [Int64.toInt_div_of_ne_right _ _ (by decide), e, c100, Int.tdiv_eq_ediv_of_nonneg h]
  · refine ⟨-((-w) / 100), by omega, by omega, ?_⟩
    rw [Int64.toInt_div_of_ne_right _ _ (by decide), e, c100]
    obtain ⟨v, hv⟩ : ∃ v, w = -v := ⟨-w, by omega⟩
    rw [hv, Int.neg_tdiv, Int.tdiv_eq_ediv_of_nonneg (by omega), Int.neg_neg]
theorem fee_eq (r : Int32) {p : Nat} (hp : p ≤ 20) : ∃ c : Int32, Int64.toInt32 (if (Int32.toInt64 r * Int32.toInt64 (nI p) / (100 : Int64)) < (99999 : Int64) then (Int32.toInt64 r * Int32.toInt64 (nI p) / (100 : Int64)) else (99999 : Int64)) = c ∧ mX11_min (nI 99999) (Int64.toInt32 (Int32.toInt64 r * Int32.toInt64 (nI p) / (100 : Int64))) = some c ∧ -2147483647 ≤ c.toInt := by
  obtain ⟨z, z1, z2, z3⟩ := fee_q r hp
  obtain ⟨q, hq⟩ : ∃ q, q = Int32.toInt64 r * Int32.toInt64 (nI p) / (100 : Int64) := ⟨_, rfl⟩
  rw [← hq] at z3 ⊢
  have c9 : (99999 : Int64).toInt = 99999 := by decide
  have q32 : q.toInt32.toInt = z := by rw [Int64.toInt_toInt32, z3]; exact Int.bmod_eq_of_le (by omega) (by omega)
  have n9 := nI_toInt (n := 99999) (by omega)
  unfold mX11_min
  by_cases h : q < (99999 : Int64)
  · have h' := Int64.lt_iff_toInt_lt.mp h
    rw [z3, c9] at h'
    rw [if_pos h, if_pos (by rw [Int32.le_iff_toInt_le, q32, n9]; omega)]
    exact ⟨_, rfl, rfl, by rw [q32]; omega⟩
  · have h' : ¬ z < 99999 := fun g => h (Int64.lt_iff_toInt_lt.mpr (by rw [z3, c9]; exact g))
    rw [if_neg h]
    refine ⟨nI 99999, by decide, ?_, by rw [n9]; omega⟩
    by_cases g : q.toInt32 ≤ nI 99999
    · rw [if_pos g]
      have g' := Int32.le_iff_toInt_le.mp g
      rw [q32, n9] at g'
      congr 1
      exact Int32.toInt_inj.mp (by rw [q32, n9]; omega)
    · rw [if_neg g]
theorem ck0 {α : Type} {y : Option α} : chk (0 : Int32) 12750 y = y := chk_n (i := 0) (by decide) (by decide)
theorem ck1 {α : Type} {y : Option α} : chk (1 : Int32) 12750 y = y := chk_n (i := 1) (by decide) (by decide)
theorem op_remind {b n : Nat} {M N : Mem} {f : Nat → Int32} (hS : SIM b M N f) (hn : 500 ≤ n) (a : Int32) : OPR b M N f (mX1_writeReminder n b a M) (mX11_remind n a (stF N f)) := by
  unfold mX1_writeReminder mX11_remind
  obtain ⟨hb, hC, hM, hRS, ⟨hI0, hRun⟩⟩ := id hS
  have h1 := hI0.2.1.1; have h1' := hI0.2.1.2
  have t1 := hI0.1.1; have t1' := hI0.1.2
  have e10 : ((1 : Int32) = 0) = False := eq_false (by decide)
  rcases beg_c hS a with ⟨x, hx, rfl, hA, e1, e3⟩ | ⟨e1, e3⟩
  · have hRA := hRS.2.2.2.1 x hx
    have a12 := hRA.2.2.2.2.2.2.2.2.2.2.2.2.1
    have hE := hRS.2.2.2.2
    obtain ⟨N', l1, l2⟩ := m_late (N := N) hI0 hx hn (f 0)
    have hS' : SIM b M N' f := ⟨hb, hC, CalM_NE hM l2, hRS, hI0, hRun⟩
    rw [e1, e3]
    simp only [bnp_some, e10, if_false]
    rw [chk_n hx (by decide), nI_clamp (by omega), hRS.1, a12, c_late hE hI0 hn rfl, ck0, show Int32.toNatClampNeg (0 : Int32) = 0 from rfl, stF_f, l1]
    simp only [bnp_some, bnd_some]
    by_cases L0 : LATE f x (f 0) = 0
    · rw [if_pos L0, if_pos L0]; exact ⟨_, M, N', f, rfl, rfl, hS', FD.rfl', l2, FX.rfl'⟩
    · rw [if_neg L0, if_neg L0]
      have room := room_c (k := 1) hRS hI0 (by decide)
      unfold mX5_haveFeeOn mX11_isRemindedToday
      have f5 := hI0.2.2.2.1.2.2.1
      have f51 := f5.1
      have hm := m_fee_go (n := n) (x := x) (N := N') h1 h1' (sz f) n 0 (by omega) (by omega)
      have hc := c_fee_go (n := n) (x := x) (day := f 0) hE h1 h1' (sz f) n 0 (by omega) (by omega)
      obtain ⟨c, c1, c2, c3⟩ := fee_eq (LATE f x (f 0)) f5.2
      simp (disch := omega) only [nI_lit, chk_n, nI_clamp, bnp_some, stF_f, h1, room, nI_eq, hm, hc]
      by_cases hs : sz f ≤ 399
      · rw [if_pos (show sz f + 1 ≤ 400 by omega), if_neg (by decide), if_neg (show ¬ sz f = 400 by omega)]
        rcases feO_01 f x (f 0) (sz f) 0 with q | q
        · rw [q, if_pos (show (0 : Int32) = nI 0 from rfl), if_pos (show (0 : Int32) = nI 0 from rfl), hRS.2.2.1.2.2.1, f51, c1, c2]
          obtain ⟨M', w1, w2, w3⟩ := c_write (k := 5) (fr := f 0) (to := f 0) (c := c) hRS hI0.2.2.2.1 h1 (by omega) hx
          have hI' := INV0_wr (k := 5) (c := c) hI0 hx hA (by omega) (by decide) t1 t1 t1' (Nat.le_refl _) (fun h => absurd h (by decide)) c3
          simp only [bnp_some]
          rw [w1, m_writes h1 (by omega) hx]
          exact ⟨_, _, N', _, rfl, rfl, ⟨hb, CalC_FD hb hC w3, CalM_NE hM l2, w2, hI', fun y hy => RUN_same hI' hy (hRun y hy) wr_tD (fun u hu => wr_A hy (by omega))⟩, w3, l2, FX_wr (by omega)⟩
        · rw [q, if_neg (show ¬ (1 : Int32) = nI 0 by decide), if_neg (show ¬ (1 : Int32) = nI 0 by decide)]
          exact ⟨_, M, N', f, rfl, rfl, hS', FD.rfl', l2, FX.rfl'⟩
      · rw [if_neg (show ¬ sz f + 1 ≤ 400 by omega), if_pos rfl, if_pos (show sz f = 400 by omega)]
        exact ⟨_, M, N', f, rfl, rfl, hS', FD.rfl', l2, FX.rfl'⟩
  · rw [e1, e3]; exact OPR_no hS _
end
section
/-! an ENTRY turned round -/
theorem ent_c {e : Nat} {M N : Mem} {f : Nat → Int32} (hE : RE e M f) (h1 : f 1 = nI (sz f)) (hs : sz f ≤ 400) (a : Int32) : (∃ i, i < sz f ∧ a = nI i ∧ mX5_has e a M = some 1 ∧ mX11_isEntry a (stF N f) = some 1) ∨ (mX5_has e a M = some 0 ∧ mX11_isEntry a (stF N f) = some 0) := by
  unfold mX5_has mX11_isEntry mX11_in
  rw [ck1, show Int32.toNatClampNeg (1 : Int32) = 1 from rfl, stF_f, hE.1, h1]
  by_cases h0 : a < 0
  · rw [if_pos h0, if_pos h0]; exact Or.inr ⟨rfl, rfl⟩
  · rw [if_neg h0, if_neg h0]
    have h0' := Int32.not_lt.mp h0
    have hm : a ≤ nI 2147483647 := by
      rw [Int32.le_iff_toInt_le, nI_toInt (by omega)]
      have := Int32.toInt_lt a
      omega
    obtain ⟨k, hk, rfl⟩ := of_range h0' hm (by omega)
    have e1 : (nI (sz f) ≤ nI k) = (sz f ≤ k) := propext (nI_leI (by omega) (by omega))
    have e2 : ((400 : Int32) ≤ nI k) = (400 ≤ k) := by rw [show (400 : Int32) = nI 400 from rfl]; exact propext (nI_leI (by omega) (by omega))
    have e3 : (nI (sz f) - 1 < nI k) = (sz f ≤ k) := by
      rw [show (1 : Int32) = nI 1 from rfl, nI_subI, iI_n, iI_lt (by omega) (by omega) (by omega) (by omega)]
      exact propext (by omega)
    by_cases q : sz f ≤ k
    · rw [if_pos (by rw [e1]; exact q), if_pos (by rw [e3]; exact q)]; exact Or.inr ⟨rfl, rfl⟩
    · rw [if_neg (by rw [e1]; exact q), if_neg (by rw [e2]; omega), if_neg (by rw [e3]; exact q)]
      exact Or.inl ⟨k, by omega, rfl, rfl, rfl⟩
def cpE (f : Nat → Int32) (s e k : Nat) : Nat → Int32 := fun j => if s ≤ j ∧ j < s + k then fE f e (j - s) else f j
theorem cpE_0 (f : Nat → Int32) (s e : Nat) : cpE f s e 0 = f := by
  funext j; unfold cpE; rw [if_neg (by omega)]
theorem cpE_s (f : Nat → Int32) (s e k : Nat) : upd (cpE f s e k) (s + k) (fE f e k) = cpE f s e (k + 1) := by
  funext j
  unfold upd cpE
  by_cases h : j = s + k
  · rw [if_pos h, if_pos (by omega), h, Nat.add_sub_cancel_left]
  · rw [if_neg h]
    by_cases h2 : s ≤ j ∧ j < s + k
    · rw [if_pos h2, if_pos (by omega)]
    · rw [if_neg h2, if_neg (by omega)]
theorem cpE_o {f : Nat → Int32} {s e k j : Nat} (h : j < s ∨ s + k ≤ j) : cpE f s e k j = f j := by
  unfold cpE; rw [if_neg (by omega)]
theorem cpE_i {f : Nat → Int32} {s e k w : Nat} (h : w < k) : cpE f s e k (s + w) = fE f e w := by
  unfold cpE; rw [if_pos (by omega), Nat.add_sub_cancel_left]
def tnF (f : Nat → Int32) (e : Nat) : Nat → Int32 :=
  upd (upd (upd (upd (upd (upd (cpE f (250 + 10 * sz f) e 10) (250 + 10 * sz f) (nI 4)) (250 + 10 * sz f + 2) (f 0)) (250 + 10 * sz f + 7) (-fE f e 7)) (250 + 10 * sz f + 8) (nI e)) (250 + 10 * e + 9) (nI (sz f))) 1 (nI (sz f + 1))
theorem tn_lo {f : Nat → Int32} {e j : Nat} (h : j < 250) (h1 : j ≠ 1) : tnF f e j = f j := by
  unfold tnF
  simp (disch := omega) only [upd_n, cpE_o]
theorem tn_1 {f : Nat → Int32} {e : Nat} : tnF f e 1 = nI (sz f + 1) := upd_s _ _ _
theorem tn_sz {f : Nat → Int32} {e : Nat} (hs : sz f < 400) : sz (tnF f e) = sz f + 1 := by
  show na (tnF f e 1) = _
  rw [tn_1, na, nI_clamp (by omega)]
theorem tn_E {f : Nat → Int32} {e i w : Nat} (h : i < sz f) (hw : w < 10) (hne : i ≠ e ∨ w ≠ 9) : fE (tnF f e) i w = fE f i w := by
  unfold tnF fE
  simp (disch := omega) only [upd_n, cpE_o]
theorem tn_e9 {f : Nat → Int32} {e : Nat} : fE (tnF f e) e 9 = nI (sz f) := by
  unfold tnF fE
  simp (disch := omega) only [upd_n, upd_s]
theorem tn_A {f : Nat → Int32} {e y w : Nat} (h : y < 6) (hw : w < 12) : fA (tnF f e) y w = fA f y w := tn_lo (by omega) (by omega)
theorem tn_new {f : Nat → Int32} {e : Nat} (he : e < sz f) : fE (tnF f e) (sz f) 0 = nI 4 ∧ fE (tnF f e) (sz f) 1 = fE f e 1 ∧ fE (tnF f e) (sz f) 2 = f 0 ∧ fE (tnF f e) (sz f) 3 = fE f e 3 ∧ fE (tnF f e) (sz f) 4 = fE f e 4 ∧ fE (tnF f e) (sz f) 5 = fE f e 5 ∧ fE (tnF f e) (sz f) 6 = fE f e 6 ∧ fE (tnF f e) (sz f) 7 = -fE f e 7 ∧ fE (tnF f e) (sz f) 8 = nI e ∧ fE (tnF f e) (sz f) 9 = fE f e 9 := by
  unfold tnF
  refine ⟨?_, ?_, ?_, ?_, ?_, ?_, ?_, ?_, ?_, ?_⟩
  · show upd _ _ _ (250 + 10 * sz f + 0) = _
    simp (disch := omega) only [upd_n, upd_s, Nat.add_zero]
  · show upd _ _ _ (250 + 10 * sz f + 1) = _
    simp (disch := omega) only [upd_n, cpE_i]
  · show upd _ _ _ (250 + 10 * sz f + 2) = _
    simp (disch := omega) only [upd_n, upd_s]
  · show upd _ _ _ (250 + 10 * sz f + 3) = _
    simp (disch := omega) only [upd_n, cpE_i]
  · show upd _ _ _ (250 + 10 * sz f + 4) = _
    simp (disch := omega) only [upd_n, cpE_i]
  · show upd _ _ _ (250 + 10 * sz f + 5) = _
    simp (disch := omega) only [upd_n, cpE_i]
  · show upd _ _ _ (250 + 10 * sz f + 6) = _
    simp (disch := omega) only [upd_n, cpE_i]
  · show upd _ _ _ (250 + 10 * sz f + 7) = _
    simp (disch := omega) only [upd_n, upd_s]
  · show upd _ _ _ (250 + 10 * sz f + 8) = _
    simp (disch := omega) only [upd_n, upd_s]
  · show upd _ _ _ (250 + 10 * sz f + 9) = _
    simp (disch := omega) only [upd_n, cpE_i]
theorem tn_all {f : Nat → Int32} {e y : Nat} (hs : sz f < 400) (he : e < sz f) : allS (tnF f e) y = allS f y + (if fE f e 1 = nI y then -fE f e 7 else 0) := by
  unfold allS
  rw [tn_sz hs, sumR_last]
  congr 1
  · apply sumR_congr
    intro j _ hj
    rw [tn_E (by omega) (by decide) (Or.inr (by decide)), tn_E (by omega) (by decide) (Or.inr (by decide))]
  · obtain ⟨n0, n1, n2, n3, n4, n5, n6, n7, n8, n9⟩ := tn_new he
    simp only [Nat.zero_add]
    rw [n1, n7]
theorem m_turn_go {n e : Nat} {N : Mem} {f : Nat → Int32} (hs : sz f < 400) (he : e < sz f) : ∀ (d k i : Nat), i + d = 10 → d < k → mX11_turn_c81 n k (nI e) (nI (sz f)) (nI i) (stF N (cpE f (250 + 10 * sz f) e i)) = some (nI (sz f), stF N (tnF f e))
  | d, 0, _, _, h => absurd h (Nat.not_lt_zero _)
  | 0, k + 1, i, e0, h => by
    have hi : i = 10 := by omega
    subst hi
    unfold mX11_turn_c81
    rw [if_pos (show (10 : Int32) ≤ nI 10 by decide)]
    simp (disch := omega) only [nI_lit, nI_add, pk_mul, nI_clamp, chk_n, upd2_stF, lt_eq, stF_f, m_entS, bnp_some]
    unfold fE tnF
    simp (disch := omega) only [upd_n, cpE_o]
    rfl
  | d + 1, k + 1, i, e0, h => by
    have ih := m_turn_go (n := n) (N := N) hs he d k (i + 1) (by omega) (by omega)
    unfold mX11_turn_c81
    rw [if_neg (by rw [show (10 : Int32) = nI 10 from rfl, nI_leI (by omega) (by omega)]; omega)]
    simp (disch := omega) only [nI_lit, nI_add, pk_mul, nI_clamp, chk_n, upd2_stF, m_entS, bnp_some]
    rw [show fE (cpE f (250 + 10 * sz f) e i) e i = fE f e i from cpE_o (by omega), cpE_s]
    exact ih
theorem INV0_tn {f : Nat → Int32} {e : Nat} (hI : INV0 f) (hs : sz f < 400) (he : e < sz f) (h9 : fE f e 9 = -2) : INV0 (tnF f e) := by
  obtain ⟨t0, t1, t2, hIT, hIA, hIE⟩ := hI
  have eTD : tD (tnF f e) = tD f := by unfold tD; rw [tn_lo (by decide) (by decide)]
  have eS := tn_sz (e := e) hs
  have eC : cL (tnF f e) = cL f := by unfold cL; rw [tn_lo (by decide) (by decide)]
  have hb : ∀ y, y < 6 → fA f y 0 = nI 1 → fA (tnF f e) y 0 = nI 1 := fun y hy h => by rw [tn_A hy (by decide)]; exact h
  unfold INV0
  rw [eTD, eS, eC, tn_lo (by decide) (by decide), tn_1, tn_lo (by decide) (by decide)]
  refine ⟨t0, ⟨rfl, hs⟩, t2, IT_congr hIT (fun j _ h2 _ => tn_lo (by omega) (by omega)), fun y hy => IA_congr (hIA y hy) (fun w hw => tn_A hy hw) (by rw [eTD]; exact Nat.le_refl _) (by rw [eS]; omega), fun i hi => ?_⟩
  by_cases h : i = sz f
  · subst h
    obtain ⟨n0, n1, n2, n3, n4, n5, n6, n7, n8, n9⟩ := tn_new he
    obtain ⟨i0, i1, i2, i3, i4, i5, i6, i7, i8, i9, i10, i11, i12⟩ := hIE e he
    have hO : eO (tnF f e) (sz f) = eO f e := by unfold eO; rw [n1]
    have hF : eF (tnF f e) (sz f) = eF f e := by unfold eF; rw [n4]
    have hT : eT (tnF f e) (sz f) = eT f e := by unfold eT; rw [n5]
    have hQ : eQ (tnF f e) (sz f) = eQ f e := by unfold eQ; rw [n3]
    have hP : eP (tnF f e) (sz f) = eP f e := by unfold eP; rw [n6]
    have hK : eK (tnF f e) (sz f) = 4 := by unfold eK; rw [n0]; exact na_nI (by omega)
    have ho := i1.2
    have c5 := Int32.toInt_lt (fE f e 7)
    have c4 := neg_toInt' i9
    unfold IE
    rw [hO, hF, hT, hQ, hP, hK, n0, n1, n2, n3, n4, n5, n6, n7, n8, n9, eS]
    refine ⟨⟨rfl, by decide⟩, i1, ?_, i3, i4, i5, i6, i7, fun h => absurd h (by decide), by omega, Or.inr ⟨e, by omega, rfl⟩, Or.inl h9, hb _ (by omega) i12⟩
    unfold eW; rw [n2]; exact t0
  · by_cases h2 : i = e
    · subst h2
      obtain ⟨i0, i1, i2, i3, i4, i5, i6, i7, i8, i9, i10, i11, i12⟩ := hIE i he
      have k : ∀ w, w < 9 → fE (tnF f i) i w = fE f i w := fun w hw => tn_E he (by omega) (Or.inr (by omega))
      have ho := i1.2
      have e0 : eO (tnF f i) i = eO f i := by unfold eO; rw [k 1 (by decide)]
      unfold IE
      rw [e0]
      unfold eK eW eQ eF eT eP
      rw [k 0 (by decide), k 1 (by decide), k 2 (by decide), k 3 (by decide), k 4 (by decide), k 5 (by decide), k 6 (by decide), k 7 (by decide), k 8 (by decide), tn_e9, eS]
      refine ⟨i0, i1, i2, i3, i4, i5, i6, i7, i8, i9, ?_, Or.inr ⟨sz f, by omega, rfl⟩, hb _ (by omega) i12⟩
      rcases i10 with q | ⟨k, k1, k2⟩
      · exact Or.inl q
      · exact Or.inr ⟨k, by omega, k2⟩
    · exact IE_congr (hIE i (by omega)) (fun w hw => tn_E (by omega) hw (Or.inl h2)) (by rw [eS]; omega) hb
def adM (e z : Nat) (k o d c : Int32) (M : Mem) : Mem := upd2 (upd2 (upd2 (upd2 (upd2 (upd2 (upd2 M (e + 1) z k) (e + 2) z o) (e + 3) z d) (e + 8) z c) (e + 9) z (-2)) (e + 10) z (-2)) e 0 (nI (z + 1))
def dsM (e z : Nat) (q p fr to : Int32) (M : Mem) : Mem := upd2 (upd2 (upd2 (upd2 M (e + 4) z q) (e + 7) z p) (e + 5) z fr) (e + 6) z to
theorem c_add {e z : Nat} {k o d c : Int32} {M : Mem} (h0 : M e 0 = nI z) (hz : z < 400) : mX5_add e k o d c M = some (nI z, adM e z k o d c M) := by
  unfold mX5_add adM
  rw [h0, if_neg (nI_pos (by omega)), if_pos (by rw [show (400 : Int32) = nI 400 from rfl, nI_ltI (by omega) (by omega)]; exact hz)]
  simp (disch := omega) only [chk_n, nI_clamp, lt_eq, u2o, h0]
  rw [show (1 : Int32) = nI 1 from rfl, nI_add]
theorem c_ds {e z : Nat} {q p fr to : Int32} {M : Mem} (hz : z < 400) : mX5_describe e (nI z) q p fr to M = some (dsM e z q p fr to M) := by
  unfold mX5_describe dsM
  rw [if_neg (nI_pos (by omega)), if_neg (by rw [show (400 : Int32) = nI 400 from rfl, nI_leI (by omega) (by omega)]; omega)]
  simp (disch := omega) only [chk_n, nI_clamp, lt_eq]
theorem c_has {e z i : Nat} {M : Mem} (h0 : M e 0 = nI z) (hz : z ≤ 400) (hi : i < z) : mX5_has e (nI i) M = some 1 := by
  unfold mX5_has
  rw [h0, if_neg (nI_pos (by omega)), if_neg (by rw [nI_leI (by omega) (by omega)]; omega), if_neg (by rw [show (400 : Int32) = nI 400 from rfl, nI_leI (by omega) (by omega)]; omega)]
theorem c_link {e z i j : Nat} {M : Mem} (h0 : M e 0 = nI z) (hz : z ≤ 400) (hi : i < z) (hj : j < z) : mX5_link e (nI i) (nI j) M = some (upd2 (upd2 M (e + 9) i (nI j)) (e + 10) j (nI i)) := by
  unfold mX5_link
  rw [c_has h0 hz hi, c_has h0 hz hj]
  simp only [bnp_some]
  rw [if_neg (show ¬ (1 : Int32) = 0 by decide), if_neg (show ¬ (1 : Int32) = 0 by decide)]
  simp (disch := omega) only [chk_n, nI_clamp]
def tM (b e o : Nat) (M : Mem) (f : Nat → Int32) : Mem := upd2 (upd2 (upd2 (dsM (b + 36) (sz f) (fE f e 3) (fE f e 6) (fE f e 4) (fE f e 5) (adM (b + 36) (sz f) (nI 4) (nI o) (f 0) (-fE f e 7) M)) (b + 36 + 9) (sz f) (nI e)) (b + 36 + 10) e (nI (sz f))) (b + 35 + 12 + o) 13 (M (b + 35 + 12 + o) 13 + -fE f e 7)
set_option maxHeartbeats 4000000 in
theorem RS_turn {b e o : Nat} {M : Mem} {f : Nat → Int32} (hRS : RS b M f) (hI : INV0 f) (hs : sz f < 400) (he : e < sz f) (ho : fE f e 1 = nI o) (hox : o < 6) (h9 : fE f e 9 = -2) : RS b (tM b e o M f) (tnF f e) ∧ FD b M (tM b e o M f) := by
  obtain ⟨q0, q1, qT, qA, e0, eE⟩ := hRS
  have hIT := hI.2.2.2.1
  unfold tM dsM adM
  refine ⟨⟨?_, ?_, ?_, fun y hy => ?_, ?_, fun i hi => ?_⟩, fun o' k h => ?_⟩
  · simp (disch := omega) only [u2o]; rw [q0, tn_lo (by decide) (by decide)]
  · simp (disch := omega) only [u2o]; rw [q1, tn_lo (by decide) (by decide)]
  · refine RT_congr qT hIT (fun o k g1 g2 => ?_) (fun j g1 g2 _ => tn_lo (by omega) (by omega))
    simp (disch := omega) only [u2o]
  · obtain ⟨c0, c1, c2, c3, c4, c5, c6, c7, c8, c9, c10, c11, c12, c13⟩ := qA y hy
    have hAll := tn_all (y := y) hs he
    have eN : aN (tnF f e) y = aN f y := by unfold aN; rw [tn_A hy (by decide)]
    have eD : aD (tnF f e) y = aD f y := by unfold aD; rw [tn_A hy (by decide)]
    unfold RA
    rw [hAll, eN, eD, ho]
    simp (disch := omega) only [tn_A]
    by_cases h : o = y
    · subst h
      simp (disch := omega) only [u2o, u2s, u2k, if_true]
      exact ⟨c0, c1, c2, c3, c4, c5, c6, c7, c8, c9, c10, c11, c12, by rw [c13]⟩
    · have h' : ¬ nI o = nI y := by rw [nI_eq (by omega) (by omega)]; exact h
      simp (disch := omega) only [u2o, h', if_false, Int32.add_zero]
      exact ⟨c0, c1, c2, c3, c4, c5, c6, c7, c8, c9, c10, c11, c12, c13⟩
  · simp (disch := omega) only [u2o, u2s]; rw [tn_1]
  · rw [tn_sz hs] at hi
    by_cases h : i = sz f
    · subst h
      obtain ⟨n0, n1, n2, n3, n4, n5, n6, n7, n8, n9⟩ := tn_new he
      rw [n0, n1, n2, n3, n4, n5, n6, n7, n8, n9, h9, ho]
      simp (disch := omega) only [u2o, u2s, u2k]
      exact ⟨trivial, trivial, trivial, trivial, trivial, trivial, trivial, trivial, trivial, trivial⟩
    · have hi2 : i < sz f := by omega
      have k : ∀ w, w < 9 → fE (tnF f e) i w = fE f i w := fun w hw => tn_E hi2 (by omega) (Or.inr (by omega))
      obtain ⟨d0, d1, d2, d3, d4, d5, d6, d7, d8, d9⟩ := eE i hi2
      simp (disch := omega) only [k]
      by_cases h2 : i = e
      · subst h2
        rw [tn_e9]
        simp (disch := omega) only [u2o, u2k, u2s]
        exact ⟨d0, d1, d2, d3, d4, d5, d6, d7, d8, trivial⟩
      · rw [tn_E hi2 (by decide) (Or.inl h2)]
        simp (disch := omega) only [u2o, u2k]
        exact ⟨d0, d1, d2, d3, d4, d5, d6, d7, d8, d9⟩
  · simp (disch := omega) only [u2o]
theorem op_turn {b n : Nat} {M N : Mem} {f : Nat → Int32} (hS : SIM b M N f) (hn : 500 ≤ n) (a : Int32) : OPR b M N f (mX1_turnRound b a M) (mX11_turn n a (stF N f)) := by
  unfold mX1_turnRound mX11_turn
  obtain ⟨hb, hC, hM, hRS, ⟨hI0, hRun⟩⟩ := id hS
  have h1 := hI0.2.1.1; have h1' := hI0.2.1.2
  have e10 : ((1 : Int32) = 0) = False := eq_false (by decide)
  rcases ent_c (N := N) hRS.2.2.2.2 h1 h1' a with ⟨e, he, rfl, e1, e3⟩ | ⟨e1, e3⟩
  · rw [e1, e3]
    simp only [bnp_some, e10, if_false]
    obtain ⟨d0, d1, d2, d3, d4, d5, d6, d7, d8, d9⟩ := hRS.2.2.2.2.2 e he
    obtain ⟨i0, i1, i2, i3, i4, i5, i6, i7, i8, i9, i10, i11, i12⟩ := hI0.2.2.2.2.2 e he
    have ho := i1.1; have hox := i1.2
    have room := room_c (k := 1) hRS hI0 (by decide)
    have hacc := isAcc1 (eO f e) (by omega)
    have hall := m_all (N := N) (x := eO f e) hI0 hn
    have ho13 := (hRS.2.2.2.1 (eO f e) (by omega)).2.2.2.2.2.2.2.2.2.2.2.2.2
    simp (disch := omega) only [nI_lit, chk_n, nI_clamp, bnp_some, stF_f, m_entS, d0, d1, d7, d9, ho, h1, room, hacc, hall, nI_eq, ho13]
    by_cases k4 : fE f e 0 = nI 4
    · rw [if_pos k4, if_pos k4]; exact OPR_no hS _
    · rw [if_neg k4, if_neg k4]
      rcases i11 with h9 | ⟨k, k1, h9⟩
      · rw [h9, if_pos (show (-2 : Int32) < nI 0 by decide), if_pos (show (-2 : Int32) < nI 0 by decide)]
        by_cases hs : sz f ≤ 399
        · rw [if_pos (show sz f + 1 ≤ 400 by omega), if_neg (by decide), if_neg (show ¬ sz f = 400 by omega), if_neg (by decide), Int32.sub_eq_add_neg]
          by_cases hpos : nI 0 ≤ allS f (eO f e) + -fE f e 7
          · rw [if_pos hpos, if_pos hpos]
            obtain ⟨r1, r2⟩ := RS_turn (o := eO f e) hRS hI0 (by omega) he ho (by omega) h9
            have hI' := INV0_tn hI0 (by omega) he h9
            have hm := m_turn_go (n := n) (N := N) (f := f) (by omega) he 10 n 0 rfl (by omega)
            rw [cpE_0] at hm
            rw [hm, hRS.1, c_add (hRS.2.2.2.2.1.trans h1) (by omega)]
            simp only [bnd_some]
            have g3 : adM (b + 36) (sz f) (nI 4) (nI (eO f e)) (f 0) (-fE f e 7) M (b + 36 + 4) e = fE f e 3 := by unfold adM; simp (disch := omega) only [u2o]; exact d3
            have g6 : adM (b + 36) (sz f) (nI 4) (nI (eO f e)) (f 0) (-fE f e 7) M (b + 36 + 7) e = fE f e 6 := by unfold adM; simp (disch := omega) only [u2o]; exact d6
            have g4 : adM (b + 36) (sz f) (nI 4) (nI (eO f e)) (f 0) (-fE f e 7) M (b + 36 + 5) e = fE f e 4 := by unfold adM; simp (disch := omega) only [u2o]; exact d4
            have g5 : adM (b + 36) (sz f) (nI 4) (nI (eO f e)) (f 0) (-fE f e 7) M (b + 36 + 6) e = fE f e 5 := by unfold adM; simp (disch := omega) only [u2o]; exact d5
            rw [g3, g4, g5, g6, c_ds (by omega)]
            simp only [bnp_some]
            have g0 : dsM (b + 36) (sz f) (fE f e 3) (fE f e 6) (fE f e 4) (fE f e 5) (adM (b + 36) (sz f) (nI 4) (nI (eO f e)) (f 0) (-fE f e 7) M) (b + 36) 0 = nI (sz f + 1) := by unfold dsM adM; simp (disch := omega) only [u2o, u2s]
            rw [c_link g0 (by omega) (by omega) (by omega)]
            simp only [bnp_some, lt_eq]
            have g13 : upd2 (upd2 (dsM (b + 36) (sz f) (fE f e 3) (fE f e 6) (fE f e 4) (fE f e 5) (adM (b + 36) (sz f) (nI 4) (nI (eO f e)) (f 0) (-fE f e 7) M)) (b + 36 + 9) (sz f) (nI e)) (b + 36 + 10) e (nI (sz f)) (b + 35 + 12 + eO f e) 13 = M (b + 35 + 12 + eO f e) 13 := by unfold dsM adM; simp (disch := omega) only [u2o]
            rw [g13]
            have hFX : FX f (tnF f e) := fun j hj => by unfold tnF; simp (disch := omega) only [upd_n, cpE_o]
            exact ⟨_, tM b e (eO f e) M f, N, _, rfl, rfl, ⟨hb, CalC_FD hb hC r2, hM, r1, hI', fun y hy => RUN_same hI' hy (hRun y hy) (by unfold tD; rw [tn_lo (by decide) (by decide)]) (fun u hu => tn_A hy (by omega))⟩, r2, NE.rfl', hFX⟩
          · rw [if_neg hpos, if_neg hpos]; exact OPR_no hS _
        · rw [if_neg (show ¬ sz f + 1 ≤ 400 by omega), if_pos rfl, if_pos (show sz f = 400 by omega)]; exact OPR_no hS _
      · have : ¬ nI k < nI 0 := nI_pos (by omega)
        rw [h9, if_neg this, if_neg this]; exact OPR_no hS _
  · rw [e1, e3]; exact OPR_no hS _
end
section
/-! all that is billed is copied -/
def Fr (lo hi : Nat) (M M' : Mem) : Prop := ∀ o k, (o < lo ∨ hi ≤ o) → M' o k = M o k
theorem Fr.rfl' {lo hi : Nat} {M : Mem} : Fr lo hi M M := fun _ _ _ => rfl
theorem Fr.trans {lo hi : Nat} {M M1 M2 : Mem} (h1 : Fr lo hi M M1) (h2 : Fr lo hi M1 M2) : Fr lo hi M M2 := fun o k h => (h2 o k h).trans (h1 o k h)
theorem Fr.wide {lo hi lo' hi' : Nat} {M M' : Mem} (h : Fr lo hi M M') (h1 : lo' ≤ lo) (h2 : hi ≤ hi') : Fr lo' hi' M M' := fun o k g => h o k (by omega)
theorem cpM_o (M : Mem) {a b sp dp n o i : Nat} (h : o ≠ b) : cpyM M a b sp dp n o i = M o i := by
  unfold cpyM; rw [if_neg (fun q => h q.1)]
theorem cpM_i (M : Mem) {a b n i : Nat} (h : i < n) : cpyM M a b 0 0 n b i = M a i := by
  unfold cpyM; rw [if_pos ⟨rfl, by omega, by omega⟩]; rw [Nat.zero_add, Nat.sub_zero]
theorem tn0 : Int32.toNatClampNeg (0 : Int32) = 0 := rfl
theorem tn3 : Int32.toNatClampNeg (3 : Int32) = 3 := rfl
theorem tn4 : Int32.toNatClampNeg (4 : Int32) = 4 := rfl
theorem cpc4 {α : Type} {y : Option α} : cpc (0 : Int32) (0 : Int32) (4 : Int32) 4 4 y = y := if_pos (by decide)
theorem cpc3 {α : Type} {y : Option α} : cpc (0 : Int32) (0 : Int32) (3 : Int32) 3 3 y = y := if_pos (by decide)
theorem zb_ok {α : Type} {v : Int32} {y : Option α} (h : v = 0 ∨ v = 1) : zb v y = y := if_pos h
theorem isM_01 {v : Int32} {k : Nat} (h : isM v k 1) : v = 0 ∨ v = 1 := by
  obtain ⟨h1, h2⟩ := h
  rcases (show k = 0 ∨ k = 1 by omega) with rfl | rfl
  · exact Or.inl h1
  · exact Or.inr h1
theorem c_cpP {q s p : Nat} {M : Mem} {f : Nat → Int32} (hR : RP s p M f) (hI : IP f p) (hd : q + 5 ≤ s ∨ s + 5 ≤ q) : ∃ M', mX7_copyFrom q s M = some M' ∧ RP q p M' f ∧ Fr q (q + 5) M M' := by
  obtain ⟨r0, r1, r2, r3, r4, r5, r6, r7, r8⟩ := hR
  have hz : M s 6 = 0 ∨ M s 6 = 1 := by rw [r4]; exact isM_01 hI.2.2.2.2.1
  have hT := hI.2.2.1.2
  have hK := hI.2.2.2.2.2.2.1.2
  unfold mX7_copyFrom
  simp (disch := omega) only [lt_eq, cpc4, cpc3, tn0, tn3, tn4, cpM_o, u2o]
  rw [zb_ok hz]
  refine ⟨_, rfl, ⟨?_, ?_, ?_, ?_, ?_, ?_, ?_, fun i hi => ⟨?_, ?_⟩, fun i hi => ⟨?_, ?_⟩⟩, fun o k h => ?_⟩
  · simp (disch := omega) only [cpM_o, u2o, u2k, u2s]; exact r0
  · simp (disch := omega) only [cpM_o, u2o, u2k, u2s]; exact r1
  · simp (disch := omega) only [cpM_o, u2o, u2k, u2s]; exact r2
  · simp (disch := omega) only [cpM_o, u2o, u2k, u2s]; exact r3
  · simp (disch := omega) only [cpM_o, u2o, u2k, u2s]; exact r4
  · simp (disch := omega) only [cpM_o, u2o, u2k, u2s]; exact r5
  · simp (disch := omega) only [cpM_o, u2o, u2k, u2s]; exact r6
  · simp (disch := omega) only [cpM_o, cpM_i, u2o, u2k, u2s]; exact (r7 i hi).1
  · simp (disch := omega) only [cpM_o, cpM_i, u2o, u2k, u2s]; exact (r7 i hi).2
  · simp (disch := omega) only [cpM_o, cpM_i, u2o, u2k, u2s]; exact (r8 i hi).1
  · simp (disch := omega) only [cpM_o, cpM_i, u2o, u2k, u2s]; exact (r8 i hi).2
  · simp (disch := omega) only [cpM_o, u2o]
theorem c_cpT {t s n : Nat} {f : Nat → Int32} (hI : IT f) (hd : t + 34 ≤ s ∨ s + 34 ≤ t) : ∀ (d k i : Nat) (M : Mem), i + d = 6 → d < k → RT s M f → (∀ p, p < i → RP (t + 4 + 5 * p) p M f) → ∃ M', mX9_copyFrom_c2 n k t s (nI i) M = some M' ∧ RT t M' f ∧ M' t 7 = M s 7 ∧ Fr t (t + 34) M M'
  | d, 0, _, _, _, h, _, _ => absurd h (Nat.not_lt_zero _)
  | 0, k + 1, i, M, e, h, hR, hP => by
    have hi : i = 6 := by omega
    subst hi
    obtain ⟨r0, r1, r2, r3, r4, r5⟩ := hR
    have hX := hI.2.2.2.1.2
    unfold mX9_copyFrom_c2
    rw [if_pos (show (6 : Int32) ≤ nI 6 by decide)]
    simp (disch := omega) only [lt_eq, cpc4, tn0, tn4, cpM_o, u2o]
    refine ⟨_, rfl, ⟨?_, ?_, ?_, ?_, fun i hi => ⟨?_, ?_⟩, fun p hp => ?_⟩, ?_, fun o k h => ?_⟩
    · simp (disch := omega) only [cpM_o, u2o, u2k, u2s]; exact r0
    · simp (disch := omega) only [cpM_o, u2o, u2k, u2s]; exact r1
    · simp (disch := omega) only [cpM_o, u2o, u2k, u2s]; exact r2
    · simp (disch := omega) only [cpM_o, u2o, u2k, u2s]; exact r3
    · simp (disch := omega) only [cpM_o, cpM_i, u2o, u2k, u2s]; exact (r4 i hi).1
    · simp (disch := omega) only [cpM_o, cpM_i, u2o, u2k, u2s]; exact (r4 i hi).2
    · have hIP := hI.2.2.2.2.2 p hp
      exact RP_congr (hP p hp) hIP.2.2.1.2 hIP.2.2.2.2.2.2.1.2 (fun o k g1 g2 => by simp (disch := omega) only [cpM_o, u2o]) (fun _ _ => rfl)
    · exact u2s _ _ _ _
    · simp (disch := omega) only [cpM_o, u2o]
  | d + 1, k + 1, i, M, e, h, hR, hP => by
    have hx : i < 6 := by omega
    have hIP := hI.2.2.2.2.2 i hx
    obtain ⟨M1, p1, p2, p3⟩ := c_cpP (q := t + 4 + 5 * i) (hR.2.2.2.2.2 i hx) hIP (by omega)
    obtain ⟨M2, q1, q2, q3, q4⟩ := c_cpT (t := t) (s := s) (n := n) hI hd d k (i + 1) M1 (by omega) (by omega) (RT_congr hR hI (fun o k g1 g2 => p3 o k (by omega)) (fun _ _ _ _ => rfl))
      (fun p hp => by
        rcases (show p = i ∨ p < i by omega) with rfl | g
        · exact p2
        · have hIp := hI.2.2.2.2.2 p (by omega)
          exact RP_congr (hP p g) hIp.2.2.1.2 hIp.2.2.2.2.2.2.1.2 (fun o k g1 g2 => p3 o k (by omega)) (fun _ _ => rfl))
    refine ⟨M2, ?_, q2, by rw [q3]; exact p3 s 7 (by omega), (p3.wide (by omega) (by omega)).trans q4⟩
    unfold mX9_copyFrom_c2
    rw [if_neg (by rw [show (6 : Int32) = nI 6 from rfl, nI_leI (by omega) (by omega)]; omega), chk_n hx (by decide), chk_n hx (by decide), nI_clamp (by omega), show t + 1 + 3 + 5 * i = t + 4 + 5 * i by omega, show s + 1 + 3 + 5 * i = s + 4 + 5 * i by omega, p1]
    simp only [bnp_some]
    rw [show (1 : Int32) = nI 1 from rfl, nI_add]
    exact q1
theorem c_cpA {a s x : Nat} {M : Mem} {f : Nat → Int32} (hR : RA s x M f) (hI : IA f x) (hx : M a 0 = nI x) (hd : a ≠ s) : ∃ M', mX0_copyFrom a s M = some M' ∧ RA a x M' f ∧ Fr a (a + 1) M M' := by
  obtain ⟨a0, a1, a2, a3, a4, a5, a6, a7, a8, a9, a10, a11, a12, a13⟩ := hR
  have h01 : (fA f x 0 = 0 ∨ fA f x 0 = 1) ∧ (fA f x 8 = 0 ∨ fA f x 8 = 1) ∧ (fA f x 7 = 0 ∨ fA f x 7 = 1) := by
    rcases hI with h | h
    · exact ⟨Or.inl (h 0 (by decide)), Or.inl (h 8 (by decide)), Or.inl (h 7 (by decide))⟩
    · obtain ⟨i0, i1, i2, i3, i4, i5, i6, i7, i8, i9, i10, i11⟩ := h
      exact ⟨Or.inr i0, isM_01 i10, isM_01 i9⟩
  unfold mX0_copyFrom
  simp (disch := omega) only [lt_eq, u2o]
  rw [zb_ok (by rw [a1]; exact h01.1), zb_ok (by rw [a2]; exact h01.2.1), zb_ok (by rw [a3]; exact h01.2.2)]
  refine ⟨_, rfl, ⟨?_, ?_, ?_, ?_, ?_, ?_, ?_, ?_, ?_, ?_, ?_, ?_, ?_, ?_⟩, fun o k h => ?_⟩
  · simp (disch := omega) only [u2k]; exact hx
  · simp (disch := omega) only [u2k, u2s]; exact a1
  · simp (disch := omega) only [u2k, u2s]; exact a2
  · simp (disch := omega) only [u2k, u2s]; exact a3
  · simp (disch := omega) only [u2k, u2s]; exact a4
  · simp (disch := omega) only [u2k, u2s]; exact a5
  · simp (disch := omega) only [u2k, u2s]; exact a6
  · simp (disch := omega) only [u2k, u2s]; exact a7
  · simp (disch := omega) only [u2k, u2s]; exact a8
  · simp (disch := omega) only [u2k, u2s]; exact a9
  · simp (disch := omega) only [u2k, u2s]; exact a10
  · simp (disch := omega) only [u2k, u2s]; exact a11
  · simp (disch := omega) only [u2k, u2s]; exact a12
  · simp (disch := omega) only [u2k, u2s]; exact a13
  · simp (disch := omega) only [u2o]
theorem cpcE {α : Type} {z : Nat} {y : Option α} (h : z ≤ 400) : cpc (0 : Int32) (0 : Int32) (nI z) 400 400 y = y := by
  unfold cpc
  rw [nI_clamp (by omega), tn0]
  exact if_pos ⟨by decide, by decide, nI_pos (by omega), by omega, by omega⟩
theorem c_cpE {e s : Nat} {M : Mem} {f : Nat → Int32} (hR : RE s M f) (h1 : f 1 = nI (sz f)) (hs : sz f ≤ 400) (hd : e + 11 ≤ s ∨ s + 11 ≤ e) : ∃ M', mX5_copyFrom e s M = some M' ∧ RE e M' f ∧ Fr e (e + 11) M M' := by
  obtain ⟨r0, rE⟩ := hR
  have hm : (if (0 : Int32) < (if (400 : Int32) < nI (sz f) then (400 : Int32) else nI (sz f)) then (if (400 : Int32) < nI (sz f) then (400 : Int32) else nI (sz f)) else (0 : Int32)) = nI (sz f) := by
    rw [if_neg (show ¬ (400 : Int32) < nI (sz f) by rw [show (400 : Int32) = nI 400 from rfl, nI_ltI (by omega) (by omega)]; omega)]
    by_cases h : (0 : Int32) < nI (sz f)
    · rw [if_pos h]
    · rw [if_neg h]
      have : ¬ 0 < sz f := fun q => h (by rw [show (0 : Int32) = nI 0 from rfl, nI_ltI (by omega) (by omega)]; exact q)
      have h0 : sz f = 0 := by omega
      rw [h0]; rfl
  unfold mX5_copyFrom
  rw [r0, h1, hm]
  simp (disch := omega) only [lt_eq, u2s, cpcE, tn0, cpM_o, nI_clamp]
  refine ⟨_, rfl, ⟨?_, fun i hi => ?_⟩, fun o k h => ?_⟩
  · simp (disch := omega) only [cpM_o, u2s]; exact h1.symm
  · simp (disch := omega) only [cpM_o, cpM_i, u2o]
    exact rE i hi
  · simp (disch := omega) only [cpM_o, u2o]
def IDX (b : Nat) (M : Mem) : Prop := ∀ x, x < 6 → M (b + 35 + 12 + x) 0 = nI x
theorem IDX_Fr {b lo hi : Nat} {M M' : Mem} (h : IDX b M) (hF : Fr lo hi M M') (hd : hi ≤ b + 47 ∨ b + 53 ≤ lo) : IDX b M' := fun x hx => by rw [hF _ _ (by omega)]; exact h x hx
theorem RA_congrM {a x : Nat} {M M' : Mem} {f : Nat → Int32} (h : RA a x M f) (hM : ∀ k, M' a k = M a k) : RA a x M' f := by
  unfold RA
  simp only [hM]
  exact h
theorem RE_congrM {e : Nat} {M M' : Mem} {f : Nat → Int32} (h : RE e M f) (hM : ∀ o k, e ≤ o → o < e + 11 → M' o k = M o k) : RE e M' f := by
  obtain ⟨r0, rE⟩ := h
  refine ⟨by rw [hM _ _ (by omega) (by omega)]; exact r0, fun i hi => ?_⟩
  simp (disch := omega) only [hM]
  exact rE i hi
theorem c_cpB {b s n : Nat} {f : Nat → Int32} (hI : INV0 f) (hd : b + 53 ≤ s ∨ s + 53 ≤ b) : ∀ (d k i : Nat) (M : Mem), i + d = 6 → d < k → RS s M f → IDX b M → RT (b + 1) M f → M (b + 1) 7 = M (s + 1) 7 → (∀ x, x < i → RA (b + 35 + 12 + x) x M f) → ∃ M', mX1_copyFrom_c13 n k b s (nI i) M = some M' ∧ RS b M' f ∧ Fr b (b + 53) M M'
  | d, 0, _, _, _, h, _, _, _, _, _ => absurd h (Nat.not_lt_zero _)
  | 0, k + 1, i, M, e, h, hR, hX, hT, h7, hA => by
    have hi : i = 6 := by omega
    subst hi
    obtain ⟨q0, q1, qT, qA, qE⟩ := hR
    obtain ⟨M1, p1, p2, p3⟩ := c_cpE (e := b + 36) qE hI.2.1.1 hI.2.1.2 (by omega)
    unfold mX1_copyFrom_c13
    rw [if_pos (show (6 : Int32) ≤ nI 6 by decide), p1]
    simp only [bnp_some]
    refine ⟨_, rfl, ⟨?_, ?_, ?_, fun x hx => ?_, ?_⟩, fun o k h => ?_⟩
    · rw [u2s, p3 _ _ (by omega)]; exact q0
    · rw [u2o _ _ (by omega), p3 _ _ (by omega), h7]; exact q1
    · exact RT_congr hT hI.2.2.2.1 (fun o k g1 g2 => by rw [u2o _ _ (by omega), p3 _ _ (by omega)]) (fun _ _ _ _ => rfl)
    · exact RA_congrM (hA x hx) (fun k => by rw [u2o _ _ (by omega), p3 _ _ (by omega)])
    · exact RE_congrM p2 (fun o k g1 g2 => u2o _ _ (by omega))
    · rw [u2o _ _ (by omega), p3 _ _ (by omega)]
  | d + 1, k + 1, i, M, e, h, hR, hX, hT, h7, hA => by
    have hx : i < 6 := by omega
    obtain ⟨q0, q1, qT, qA, qE⟩ := id hR
    obtain ⟨M1, p1, p2, p3⟩ := c_cpA (a := b + 35 + 12 + i) (qA i hx) (hI.2.2.2.2.1 i hx) (hX i hx) (by omega)
    have hR1 : RS s M1 f := ⟨by rw [p3 _ _ (by omega)]; exact q0, by rw [p3 _ _ (by omega)]; exact q1, RT_congr qT hI.2.2.2.1 (fun o k g1 g2 => p3 _ _ (by omega)) (fun _ _ _ _ => rfl), fun x hx => RA_congrM (qA x hx) (fun k => p3 _ _ (by omega)), RE_congrM qE (fun o k g1 g2 => p3 _ _ (by omega))⟩
    obtain ⟨M2, r1, r2, r3⟩ := c_cpB (b := b) (s := s) (n := n) hI hd d k (i + 1) M1 (by omega) (by omega) hR1
      (fun x hx' => by
        rcases (show x = i ∨ x ≠ i by omega) with rfl | g
        · exact p2.1
        · rw [p3 _ _ (by omega)]; exact hX x hx')
      (RT_congr hT hI.2.2.2.1 (fun o k g1 g2 => p3 _ _ (by omega)) (fun _ _ _ _ => rfl)) (by rw [p3 _ _ (by omega), p3 _ _ (by omega)]; exact h7)
      (fun x hx' => by
        rcases (show x = i ∨ x < i by omega) with rfl | g
        · exact p2
        · exact RA_congrM (hA x g) (fun k => p3 _ _ (by omega)))
    refine ⟨M2, ?_, r2, (p3.wide (by omega) (by omega)).trans r3⟩
    unfold mX1_copyFrom_c13
    rw [if_neg (by rw [show (6 : Int32) = nI 6 from rfl, nI_leI (by omega) (by omega)]; omega), chk_n hx (by decide), chk_n hx (by decide), nI_clamp (by omega), p1]
    simp only [bnp_some]
    rw [show (1 : Int32) = nI 1 from rfl, nI_add]
    exact r1
theorem c_copy {b s n : Nat} {M : Mem} {f : Nat → Int32} (hI : INV0 f) (hd : b + 53 ≤ s ∨ s + 53 ≤ b) (hR : RS s M f) (hX : IDX b M) (hn : 500 ≤ n) : ∃ M', mX1_copyFrom n b s M = some M' ∧ RS b M' f ∧ Fr b (b + 53) M M' := by
  obtain ⟨q0, q1, qT, qA, qE⟩ := id hR
  obtain ⟨M1, p1, p2, p3, p4⟩ := c_cpT (t := b + 1) (s := s + 1) (n := n) hI.2.2.2.1 (by omega) 6 n 0 M rfl (by omega) qT (fun p hp => absurd hp (Nat.not_lt_zero _))
  have hR1 : RS s M1 f := ⟨by rw [p4 _ _ (by omega)]; exact q0, by rw [p4 _ _ (by omega)]; exact q1, RT_congr qT hI.2.2.2.1 (fun o k g1 g2 => p4 _ _ (by omega)) (fun _ _ _ _ => rfl), fun x hx => RA_congrM (qA x hx) (fun k => p4 _ _ (by omega)), RE_congrM qE (fun o k g1 g2 => p4 _ _ (by omega))⟩
  obtain ⟨M2, r1, r2, r3⟩ := c_cpB (b := b) (s := s) (n := n) hI hd 6 n 0 M1 rfl (by omega) hR1 (IDX_Fr hX p4 (by omega)) p2 (by rw [p3, p4 _ _ (by omega)]) (fun x hx => absurd hx (Nat.not_lt_zero _))
  refine ⟨M2, ?_, r2, (p4.wide (by omega) (by omega)).trans r3⟩
  unfold mX1_copyFrom mX9_copyFrom
  rw [show (0 : Int32) = nI 0 from rfl, p1]
  exact r1
/-! the reference's copies of its row -/
def cpR (f : Nat → Int32) (p q m : Nat) : Nat → Int32 := fun j => if 4250 * q ≤ j ∧ j < 4250 * q + m then f (j - 4250 * q + 4250 * p) else f j
theorem cpR_0 (f : Nat → Int32) (p q : Nat) : cpR f p q 0 = f := by
  funext j; unfold cpR; rw [if_neg (by omega)]
theorem cpR_o {f : Nat → Int32} {p q m j : Nat} (h : j < 4250 * q ∨ 4250 * q + m ≤ j) : cpR f p q m j = f j := by
  unfold cpR; rw [if_neg (by omega)]
theorem cpR_i {f : Nat → Int32} {p q m w : Nat} (h : w < m) : cpR f p q m (4250 * q + w) = f (4250 * p + w) := by
  unfold cpR; rw [if_pos (by omega)]; congr 1; omega
theorem cpR_s {f : Nat → Int32} {p q m : Nat} (hpq : p ≠ q) (hm : m < 4250) : upd (cpR f p q m) (4250 * q + m) (cpR f p q m (4250 * p + m)) = cpR f p q (m + 1) := by
  funext j
  rw [cpR_o (j := 4250 * p + m) (by omega)]
  unfold upd cpR
  by_cases h : j = 4250 * q + m
  · rw [if_pos h, if_pos (by omega), h]; congr 1; omega
  · rw [if_neg h]
    by_cases h2 : 4250 * q ≤ j ∧ j < 4250 * q + m
    · rw [if_pos h2, if_pos (by omega)]
    · rw [if_neg h2, if_neg (by omega)]
theorem m_cp_go {p q n : Nat} {N : Mem} {f : Nat → Int32} (hp : p ≤ 2) (hq : q ≤ 2) (hpq : p ≠ q) : ∀ (d k i : Nat), i + d = 4250 → d < k → mX11_copies_c2 n k (nI p) (nI q) (nI i) (stF N (cpR f p q i)) = some (stF N (cpR f p q 4250))
  | d, 0, _, _, h => absurd h (Nat.not_lt_zero _)
  | 0, k + 1, i, e, h => by
    have hi : i = 4250 := by omega
    subst hi
    unfold mX11_copies_c2
    rw [if_pos (show (4250 : Int32) ≤ nI 4250 by decide)]
  | d + 1, k + 1, i, e, h => by
    have ih := m_cp_go (n := n) (N := N) (f := f) hp hq hpq d k (i + 1) (by omega) (by omega)
    unfold mX11_copies_c2
    rw [if_neg (by rw [show (4250 : Int32) = nI 4250 from rfl, nI_leI (by omega) (by omega)]; omega)]
    simp (disch := omega) only [nI_lit, nI_add, pk_mul, nI_clamp, chk_n, upd2_stF, lt_eq, stF_f]
    rw [cpR_s hpq (by omega)]
    exact ih
theorem m_copies {p q n : Nat} {N : Mem} {f : Nat → Int32} (hp : p ≤ 2) (hq : q ≤ 2) (hpq : p ≠ q) (hn : 5000 ≤ n) : mX11_copies n (nI p) (nI q) (stF N f) = some (stF N (cpR f p q 4250)) := by
  have := m_cp_go (n := n) (N := N) (f := f) hp hq hpq 4250 n 0 rfl (by omega)
  rw [cpR_0] at this
  exact this
/-! of the row only the first part counts -/
theorem row_A {f f' : Nat → Int32} (hf : ∀ j, j < 4250 → f' j = f j) (x w : Nat) (hx : x < 6) (hw : w < 12) : fA f' x w = fA f x w := hf _ (by omega)
theorem row_sz {f f' : Nat → Int32} (hf : ∀ j, j < 4250 → f' j = f j) : sz f' = sz f := by unfold sz; rw [hf 1 (by decide)]
theorem row_all {f f' : Nat → Int32} (hs : sz f ≤ 400) (hf : ∀ j, j < 4250 → f' j = f j) (x : Nat) : allS f' x = allS f x := by
  unfold allS
  rw [row_sz hf]
  apply sumR_congr
  intro j _ hj
  rw [show fE f' j 1 = fE f j 1 from hf _ (by omega), show fE f' j 7 = fE f j 7 from hf _ (by omega)]
theorem RS_row {b : Nat} {M : Mem} {f f' : Nat → Int32} (hR : RS b M f) (hI : INV0 f) (hf : ∀ j, j < 4250 → f' j = f j) : RS b M f' := by
  obtain ⟨q0, q1, qT, qA, e0, qE⟩ := hR
  have hs := hI.2.1.2
  have fz := row_sz hf
  refine ⟨by rw [hf 0 (by decide)]; exact q0, by rw [hf 4 (by decide)]; exact q1, RT_congr qT hI.2.2.2.1 (fun _ _ _ _ => rfl) (fun j _ h _ => hf j (by omega)), fun x hx => ?_, by rw [hf 1 (by decide)]; exact e0, fun i hi => ?_⟩
  · have := qA x hx
    unfold RA aN aD at *
    rw [row_all hs hf]
    simp (disch := omega) only [row_A hf]
    exact this
  · rw [fz] at hi
    have k : ∀ w, w < 10 → fE f' i w = fE f i w := fun w hw => hf _ (by omega)
    simp (disch := omega) only [k]
    exact qE i hi
theorem INV0_row {f f' : Nat → Int32} (hI : INV0 f) (hf : ∀ j, j < 4250 → f' j = f j) : INV0 f' := by
  obtain ⟨t0, t1, t2, hIT, hIA, hIE⟩ := hI
  have hs := t1.2
  have eT : tD f' = tD f := by unfold tD; rw [hf 0 (by decide)]
  have eS := row_sz hf
  have eC : cL f' = cL f := by unfold cL; rw [hf 4 (by decide)]
  unfold INV0
  rw [eT, eS, eC, hf 0 (by decide), hf 1 (by decide), hf 4 (by decide)]
  exact ⟨t0, t1, t2, IT_congr hIT (fun j _ h _ => hf j (by omega)), fun y hy => IA_congr (hIA y hy) (fun w hw => row_A hf y w hy hw) (Nat.le_of_eq eT.symm) (Nat.le_of_eq eS.symm),
    fun i hi => IE_congr (hIE i hi) (fun w hw => hf _ (by omega)) (Nat.le_of_eq eS.symm) (fun y hy h1 => by rw [row_A hf y 0 hy (by decide)]; exact h1)⟩
theorem INV_row {f f' : Nat → Int32} (hI : INV f) (hf : ∀ j, j < 4250 → f' j = f j) : INV f' := by
  have hI' := INV0_row hI.1 hf
  exact ⟨hI', fun y hy => RUN_same hI' hy (hI.2 y hy) (by unfold tD; rw [hf 0 (by decide)]) (fun w hw => row_A hf y w hy (by omega))⟩
end
section
/-! all of both memories; keep, undo, the tape -/
def secR (F : Nat → Int32) (q : Nat) : Nat → Int32 := fun j => F (4250 * q + j)
def TAP (M N : Mem) : Prop := ∃ T, T ≤ 400 ∧ M 0 1 = nI T ∧ N 207 4 = nI T ∧ ∀ i, i < T → M 1 i = N 210 i
def KPT (M : Mem) (f : Nat → Int32) : Prop := M 0 6 = 0 ∨ (M 0 6 = 1 ∧ RS 57 M (secR f 1) ∧ INV (secR f 1))
def TOT (M N : Mem) : Prop := SIM 4 M N (N 209) ∧ IDX 57 M ∧ IDX 110 M ∧ TAP M N ∧ M 0 6 = N 207 2 ∧ KPT M (N 209)
def RES (mc mm : Option (Int32 × Mem)) : Prop := ∃ r M' N', mc = some (r, M') ∧ mm = some (r, N') ∧ TOT M' N'
theorem RS_frame {b : Nat} {M M' : Mem} {f : Nat → Int32} (hR : RS b M f) (hI : INV0 f) (hM : ∀ o k, b ≤ o → o < b + 53 → M' o k = M o k) : RS b M' f := by
  obtain ⟨q0, q1, qT, qA, qE⟩ := hR
  exact ⟨by rw [hM _ _ (by omega) (by omega)]; exact q0, by rw [hM _ _ (by omega) (by omega)]; exact q1, RT_congr qT hI.2.2.2.1 (fun o k g1 g2 => hM _ _ (by omega) (by omega)) (fun _ _ _ _ => rfl),
    fun x hx => RA_congrM (qA x hx) (fun k => hM _ _ (by omega) (by omega)), RE_congrM qE (fun o k g1 g2 => hM _ _ (by omega) (by omega))⟩
theorem CalM_eq {N N' : Mem} (h : CalM N) (e : ∀ k, N' 208 k = N 208 k) : CalM N' := fun m hm => by rw [e]; exact h m hm
theorem CalC_eq {M M' : Mem} (h : CalC M) (e : ∀ k, M' 3 k = M 3 k) : CalC M' := fun m hm => by rw [e]; exact h m hm
/-- of a class's memory what stays while a text is read, and of the reference's -/
def FT (M M' : Mem) : Prop := ∀ o k, ((2 ≤ o ∧ o < 163) ∨ (o = 0 ∧ k ≠ 1)) → M' o k = M o k
def GT (N N' : Mem) : Prop := ∀ o k, (o = 208 ∨ o = 209 ∨ (o = 207 ∧ k = 2)) → N' o k = N o k
theorem FT.rfl' {M : Mem} : FT M M := fun _ _ _ => rfl
theorem GT.rfl' {M : Mem} : GT M M := fun _ _ _ => rfl
theorem FT.trans {M M1 M2 : Mem} (h1 : FT M M1) (h2 : FT M1 M2) : FT M M2 := fun o k h => (h2 o k h).trans (h1 o k h)
theorem GT.trans {M M1 M2 : Mem} (h1 : GT M M1) (h2 : GT M1 M2) : GT M M2 := fun o k h => (h2 o k h).trans (h1 o k h)
theorem T_tape {M N M' N' : Mem} (hT : TOT M N) (hF : FT M M') (hG : GT N N') (hA : TAP M' N') : TOT M' N' := by
  obtain ⟨⟨hb, hC, hM, hRS, hI⟩, h57, h110, -, h6, hK⟩ := hT
  have e9 : N' 209 = N 209 := funext fun k => hG 209 k (by omega)
  have e6 : M' 0 6 = M 0 6 := hF 0 6 (by omega)
  refine ⟨⟨hb, CalC_eq hC (fun k => hF 3 k (by omega)), CalM_eq hM (fun k => hG 208 k (by omega)), ?_, by rw [e9]; exact hI⟩, fun x hx => ?_, fun x hx => ?_, hA, ?_, ?_⟩
  · rw [e9]; exact RS_frame hRS hI.1 (fun o k g1 g2 => hF o k (by omega))
  · rw [hF _ _ (by omega)]; exact h57 x hx
  · rw [hF _ _ (by omega)]; exact h110 x hx
  · rw [e6, hG 207 2 (by omega)]; exact h6
  · rw [e9]
    rcases hK with q | ⟨q1, q2, q3⟩
    · exact Or.inl (e6.trans q)
    · exact Or.inr ⟨e6.trans q1, RS_frame q2 q3.1 (fun o k g1 g2 => hF o k (by omega)), q3⟩
theorem T_op {M N : Mem} {mc mm : Option (Int32 × Mem)} (hT : TOT M N) (h : OPR 4 M N (N 209) mc mm) : RES mc mm := by
  obtain ⟨r, M', N', f', e1, e2, ⟨gb, gC, gM, gRS, gI⟩, hF, hN, hX⟩ := h
  obtain ⟨⟨hb, hC, hM, hRS, hI⟩, h57, h110, ⟨T, t1, t2, t3, t4⟩, h6, hK⟩ := hT
  have e6 : M' 0 6 = M 0 6 := hF 0 6 (by omega)
  refine ⟨r, M', stF N' f', e1, e2, ⟨gb, gC, CalM_stF gM, gRS, gI⟩, fun x hx => ?_, fun x hx => ?_, ⟨T, t1, ?_, ?_, fun i hi => ?_⟩, ?_, ?_⟩
  · rw [hF _ _ (by omega)]; exact h57 x hx
  · rw [hF _ _ (by omega)]; exact h110 x hx
  · rw [hF 0 1 (by omega)]; exact t2
  · rw [stF_o _ _ (by decide), hN 207 4 (by decide) (by decide) (by decide)]; exact t3
  · rw [hF 1 i (by omega), stF_o _ _ (by decide), hN 210 i (by decide) (fun h => absurd h (by decide)) (by decide)]; exact t4 i hi
  · rw [e6, stF_o _ _ (by decide), hN 207 2 (by decide) (by decide) (by decide)]; exact h6
  · rw [stF_f]
    have es : secR f' 1 = secR (N 209) 1 := funext fun j => hX _ (by omega)
    rcases hK with q | ⟨q1, q2, q3⟩
    · exact Or.inl (e6.trans q)
    · refine Or.inr ⟨e6.trans q1, ?_, ?_⟩
      · rw [es]; exact RS_frame q2 q3.1 (fun o k g1 g2 => hF o k (by omega))
      · rw [es]; exact q3
theorem bnd_id {x : Option (Int32 × Mem)} : (bnd x fun r M => some (r, M)) = x := by
  rcases x with _ | ⟨r, M⟩ <;> rfl
theorem bnp_id {α : Type} {x : Option α} : (bnp x fun r => some r) = x := by
  cases x <;> rfl
theorem T_cp {M N : Mem} {mc mm : Option (Int32 × Mem)} (hT : TOT M N) (h : OPR 4 M (N) (N 209) mc mm) : RES mc mm := T_op hT h
/-! feed -/
theorem put_go {n : Nat} {a : Int32} : ∀ (d k T : Nat) (M N : Mem), d < k → T + d ≤ 400 → d ≤ 4 → M 0 1 = nI T → N 207 4 = nI T → (∀ i, i < T → M 1 i = N 210 i) →
    ∃ M' N', mX10_putOnTape_c3 n k a (iI (8 * (d : Int) - 8)) M = some M' ∧ mX11_types_c2 n k a (iI ((d : Int) - 1)) N = some N' ∧ M' 0 1 = nI (T + d) ∧ N' 207 4 = nI (T + d) ∧ (∀ i, i < T + d → M' 1 i = N' 210 i) ∧ FT M M' ∧ GT N N'
  | d, 0, _, _, _, h, _, _, _, _, _ => absurd h (Nat.not_lt_zero _)
  | 0, k + 1, T, M, N, h, hT, h4, hM, hN, hE => by
    unfold mX10_putOnTape_c3 mX11_types_c2
    rw [if_pos (show iI (8 * ((0 : Nat) : Int) - 8) < 0 by decide), if_pos (show iI (((0 : Nat) : Int) - 1) < 0 by decide)]
    exact ⟨M, N, rfl, rfl, hM, hN, hE, FT.rfl', GT.rfl'⟩
  | d + 1, k + 1, T, M, N, h, hT, h4, hM, hN, hE => by
    obtain ⟨v, hv⟩ : ∃ v, v = vp_nar .byte (Int8.toInt32 (Int32.toInt8 (a >>> (nI (8 * d) &&& 31)))) := ⟨_, rfl⟩
    have g1 : upd2 (upd2 M 1 T v) 0 1 (nI (T + 1)) 0 1 = nI (T + 1) := u2s _ _ _ _
    have g2 : upd2 (upd2 N 210 T v) 207 4 (nI (T + 1)) 207 4 = nI (T + 1) := u2s _ _ _ _
    have g3 : ∀ i, i < T + 1 → upd2 (upd2 M 1 T v) 0 1 (nI (T + 1)) 1 i = upd2 (upd2 N 210 T v) 207 4 (nI (T + 1)) 210 i := fun i hi => by
      rw [show upd2 (upd2 M 1 T v) 0 1 (nI (T + 1)) 1 i = upd2 M 1 T v 1 i from u2o _ _ (by decide), show upd2 (upd2 N 210 T v) 207 4 (nI (T + 1)) 210 i = upd2 N 210 T v 210 i from u2o _ _ (by decide)]
      by_cases q : i = T
      · subst q; rw [u2s, u2s]
      · rw [u2k _ _ q, u2k _ _ q]; exact hE i (by omega)
    obtain ⟨M', N', p1, p2, p3, p4, p5, p6, p7⟩ := put_go (n := n) (a := a) d k (T + 1) _ _ (by omega) (by omega) (by omega) g1 g2 g3
    refine ⟨M', N', ?_, ?_, by rw [p3]; congr 1; omega, by rw [p4]; congr 1; omega, fun i hi => p5 i (by omega), FT.trans (fun o k' g => ?_) p6, GT.trans (fun o k' g => ?_) p7⟩
    · have e1 : iI (8 * ((d + 1 : Nat) : Int) - 8) = nI (8 * d) := by rw [iI_n]; congr 1; omega
      have e2 : nI (8 * d) + -8 = iI (8 * (d : Int) - 8) := by
        rw [show (-8 : Int32) = iI (-8) from rfl, iI_n, iI_add]; congr 1
      unfold mX10_putOnTape_c3
      rw [e1, hM, if_neg (nI_pos (by omega)), if_neg (nI_pos (by omega)), if_neg (show ¬ (400 : Int32) ≤ nI T by rw [show (400 : Int32) = nI 400 from rfl, nI_leI (by omega) (by omega)]; omega), chk_n (by omega) (by omega), nI_clamp (by omega), e2, ← hv]
      simp only [lt_eq]
      rw [u2o _ _ (by decide), hM, show (1 : Int32) = nI 1 from rfl, nI_add]
      exact p1
    · have e1 : iI (((d + 1 : Nat) : Int) - 1) = nI d := by rw [iI_n]; congr 1; omega
      have e2 : nI d + -1 = iI ((d : Int) - 1) := by
        rw [show (-1 : Int32) = iI (-1) from rfl, iI_n, iI_add]; congr 1
      unfold mX11_types_c2
      rw [e1, hN, if_neg (nI_pos (by omega)), chk_n (by omega) (by omega), nI_clamp (by omega), e2, show (8 : Int32) = nI 8 from rfl, pk_mul, ← hv]
      simp only [lt_eq]
      rw [u2o _ _ (by decide), hN, show (1 : Int32) = nI 1 from rfl, nI_add]
      exact p2
    · by_cases q : o = 0
      · subst q; rw [u2k _ _ (by omega), u2o _ _ (by decide)]
      · rw [u2o _ _ q, u2o _ _ (by omega)]
    · by_cases q : o = 207
      · subst q; rw [u2k _ _ (by omega), u2o _ _ (by decide)]
      · rw [u2o _ _ q, u2o _ _ (by omega)]
section
variable {M N : Mem} {n : Nat}
theorem q_begin (hT : TOT M N) (hn : 20000 ≤ n) (a b c : Int32) : RES (mX10_begin n a b c M) (mX11_begin n a b c N) := by
  unfold mX10_begin; rw [bnd_id]
  have := op_begin (n := n) hT.1 (by omega) a b c
  rw [stF_self] at this
  exact T_op hT this
theorem q_change (hT : TOT M N) (hn : 20000 ≤ n) (a b : Int32) : RES (mX10_change n a b M) (mX11_change n a b N) := by
  unfold mX10_change; rw [bnd_id]
  have := op_change (n := n) hT.1 (by omega) a b
  rw [stF_self] at this
  exact T_op hT this
theorem q_seats (hT : TOT M N) (hn : 20000 ≤ n) (a b : Int32) : RES (mX10_seats n a b M) (mX11_seats n a b N) := by
  unfold mX10_seats; rw [bnd_id]
  have := op_seats (n := n) hT.1 (by omega) a b
  rw [stF_self] at this
  exact T_op hT this
theorem q_pause (hT : TOT M N) (hn : 20000 ≤ n) (a b : Int32) (hb : b = 0 ∨ b = 1) : RES (mX10_pause n a b M) (mX11_pause n a b N) := by
  unfold mX10_pause; rw [bnd_id]
  have := op_pause (n := n) hT.1 (by omega) a b hb
  rw [stF_self] at this
  exact T_op hT this
theorem q_giveUp (hT : TOT M N) (hn : 20000 ≤ n) (a : Int32) : RES (mX10_giveUp n a M) (mX11_giveUp n a N) := by
  unfold mX10_giveUp; rw [bnd_id]
  have := op_quit (n := n) hT.1 (by omega) a
  rw [stF_self] at this
  exact T_op hT this
theorem q_move (hT : TOT M N) (hn : 20000 ≤ n) (a b : Int32) : RES (mX10_move n a b M) (mX11_move n a b N) := by
  unfold mX10_move; rw [bnd_id]
  have := op_move (n := n) hT.1 (by omega) a b
  rw [stF_self] at this
  exact T_op hT this
theorem q_use (hT : TOT M N) (a b : Int32) : RES (mX10_use a b M) (mX11_use a b N) := by
  unfold mX10_use; rw [bnd_id]
  have := op_use hT.1 a b
  rw [stF_self] at this
  exact T_op hT this
theorem q_days (hT : TOT M N) (hn : 20000 ≤ n) (a : Int32) : RES (mX10_days n a M) (mX11_days n a N) := by
  unfold mX10_days; rw [bnd_id]
  have := op_days (n := n) hT.1 (by omega) a
  rw [stF_self] at this
  exact T_op hT this
theorem q_favour (hT : TOT M N) (hn : 20000 ≤ n) (a b : Int32) : RES (mX10_favour a b M) (mX11_favour n a b N) := by
  unfold mX10_favour; rw [bnd_id]
  have := op_favour (n := n) hT.1 (by omega) a b
  rw [stF_self] at this
  exact T_op hT this
theorem q_pay (hT : TOT M N) (a b : Int32) : RES (mX10_pay a b M) (mX11_pay a b N) := by
  unfold mX10_pay; rw [bnd_id]
  have := op_pay hT.1 a b
  rw [stF_self] at this
  exact T_op hT this
theorem q_remind (hT : TOT M N) (hn : 20000 ≤ n) (a : Int32) : RES (mX10_remind n a M) (mX11_remind n a N) := by
  unfold mX10_remind; rw [bnd_id]
  have := op_remind (n := n) hT.1 (by omega) a
  rw [stF_self] at this
  exact T_op hT this
theorem q_turn (hT : TOT M N) (hn : 20000 ≤ n) (a : Int32) : RES (mX10_turn a M) (mX11_turn n a N) := by
  unfold mX10_turn; rw [bnd_id]
  have := op_turn (n := n) hT.1 (by omega) a
  rw [stF_self] at this
  exact T_op hT this
theorem q_keep (hT : TOT M N) (hn : 20000 ≤ n) : RES (mX10_keep n M) (mX11_keep n N) := by
  obtain ⟨⟨hb, hC, hM, hRS, hI⟩, h57, h110, ⟨T, t1, t2, t3, t4⟩, h6, hK⟩ := hT
  obtain ⟨M1, p1, p2, p3⟩ := c_copy (b := 57) (s := 4) (n := n) hI.1 (by omega) hRS h57 (by omega)
  have hf : ∀ j, j < 4250 → cpR (N 209) 0 1 4250 j = N 209 j := fun j hj => cpR_o (by omega)
  have hf1 : ∀ j, j < 4250 → secR (cpR (N 209) 0 1 4250) 1 j = N 209 j := fun j hj => by
    unfold secR; rw [cpR_i hj]; congr 1; omega
  have hm := m_copies (p := 0) (q := 1) (n := n) (N := upd2 N 207 2 1) (f := N 209) (by decide) (by decide) (by decide) (by omega)
  have e0 : stF (upd2 N 207 2 1) (N 209) = upd2 N 207 2 1 := by
    have : upd2 N 207 2 1 209 = N 209 := by funext k; exact u2o _ _ (by decide)
    rw [← this]; exact stF_self _
  rw [e0] at hm
  have f1 : ∀ o k, (o < 57 ∨ 110 ≤ o) → (o ≠ 0 ∨ k ≠ 6) → upd2 M1 0 6 1 o k = M o k := fun o k h g => by
    by_cases q : o = 0
    · subst q; rw [u2k _ _ (by omega)]; exact p3 _ _ (by omega)
    · rw [u2o _ _ q]; exact p3 _ _ h
  refine ⟨N 209 1, upd2 M1 0 6 1, stF (upd2 N 207 2 1) (cpR (N 209) 0 1 4250), ?_, ?_, ⟨hb, CalC_eq hC (fun k => f1 _ _ (by omega) (by omega)), CalM_stF (CalM_eq hM (fun k => u2o _ _ (by decide))), ?_, ?_⟩, ?_, ?_, ⟨T, t1, ?_, ?_, fun i hi => ?_⟩, ?_, ?_⟩
  · unfold mX10_keep
    rw [p1]
    simp only [bnp_some]
    rw [show upd2 M1 0 6 1 40 0 = N 209 1 from (f1 _ _ (by omega) (by omega)).trans hRS.2.2.2.2.1]
  · unfold mX11_keep
    rw [show (0 : Int32) = nI 0 from rfl, show mX11_copies n (nI 0) 1 (upd2 N 207 2 1) = _ from hm]
    simp only [bnp_some]
    rw [ck1, show Int32.toNatClampNeg (1 : Int32) = 1 from rfl, stF_f, hf 1 (by decide)]
  · rw [stF_f]; exact RS_row (RS_frame hRS hI.1 (fun o k g1 g2 => f1 _ _ (by omega) (by omega))) hI.1 hf
  · rw [stF_f]; exact INV_row hI hf
  · exact fun x hx => by rw [u2o _ _ (by omega)]; exact (p2.2.2.2.1 x hx).1
  · exact fun x hx => by rw [f1 _ _ (by omega) (by omega)]; exact h110 x hx
  · rw [f1 _ _ (by omega) (by omega)]; exact t2
  · rw [stF_o _ _ (by decide), u2k _ _ (by decide)]; exact t3
  · rw [f1 _ _ (by omega) (by omega), stF_o _ _ (by decide), u2o _ _ (by decide)]; exact t4 i hi
  · rw [u2s, stF_o _ _ (by decide), u2s]
  · rw [stF_f]
    exact Or.inr ⟨u2s _ _ _ _, RS_row (RS_frame p2 hI.1 (fun o k g1 g2 => u2o _ _ (by omega))) hI.1 hf1, INV_row hI hf1⟩
theorem q_undo (hT : TOT M N) (hn : 20000 ≤ n) : RES (mX10_undo n M) (mX11_undo n N) := by
  obtain ⟨⟨hb, hC, hM, hRS, hI⟩, h57, h110, ⟨T, t1, t2, t3, t4⟩, h6, hK⟩ := id hT
  unfold mX10_undo mX11_undo
  rw [← h6]
  rcases hK with q | ⟨q1, q2, q3⟩
  · rw [if_pos q, if_pos q]
    exact ⟨_, _, _, rfl, rfl, hT⟩
  · rw [q1, if_neg (show ¬ (1 : Int32) = 0 by decide), if_neg (show ¬ (1 : Int32) = 0 by decide)]
    have hX4 : IDX 4 M := fun x hx => (hRS.2.2.2.1 x hx).1
    obtain ⟨M1, p1, p2, p3⟩ := c_copy (b := 4) (s := 57) (n := n) q3.1 (by omega) q2 hX4 (by omega)
    have hf : ∀ j, j < 4250 → cpR (N 209) 1 0 4250 j = secR (N 209) 1 j := fun j hj => by
      have := cpR_i (f := N 209) (p := 1) (q := 0) hj
      rw [show 4250 * 0 + j = j by omega] at this
      exact this
    have hf1 : secR (cpR (N 209) 1 0 4250) 1 = secR (N 209) 1 := funext fun j => cpR_o (by omega)
    have hm := m_copies (p := 1) (q := 0) (n := n) (N := N) (f := N 209) (by decide) (by decide) (by decide) (by omega)
    rw [stF_self] at hm
    refine ⟨1, M1, stF N (cpR (N 209) 1 0 4250), ?_, ?_, ⟨hb, CalC_eq hC (fun k => p3 _ _ (by omega)), CalM_stF hM, ?_, ?_⟩, ?_, ?_, ⟨T, t1, ?_, ?_, fun i hi => ?_⟩, ?_, ?_⟩
    · rw [p1]; rfl
    · rw [show (1 : Int32) = nI 1 from rfl, show mX11_copies n (nI 1) 0 N = _ from hm]; rfl
    · rw [stF_f]; exact RS_row p2 q3.1 hf
    · rw [stF_f]; exact INV_row q3 hf
    · exact fun x hx => by rw [p3 _ _ (by omega)]; exact h57 x hx
    · exact fun x hx => by rw [p3 _ _ (by omega)]; exact h110 x hx
    · rw [p3 _ _ (by omega)]; exact t2
    · rw [stF_o _ _ (by decide)]; exact t3
    · rw [p3 _ _ (by omega), stF_o _ _ (by decide)]; exact t4 i hi
    · rw [p3 _ _ (by omega), stF_o _ _ (by decide)]; exact h6
    · rw [stF_f]
      refine Or.inr ⟨by rw [p3 _ _ (by omega)]; exact q1, ?_, ?_⟩
      · rw [hf1]; exact RS_frame q2 q3.1 (fun o k g1 g2 => p3 _ _ (by omega))
      · rw [hf1]; exact q3
theorem q_count (hT : TOT M N) (a : Int32) : ∃ r, mX10_count a M = some r ∧ mX11_count a N = some r := by
  obtain ⟨⟨hb, hC, hM, hRS, hI⟩, h57, h110, ⟨T, t1, t2, t3, t4⟩, h6, hK⟩ := hT
  unfold mX10_count mX11_count
  rw [ck1, ck0, show chk (4 : Int32) 12750 (some (N 209 (Int32.toNatClampNeg (4 : Int32)))) = some (N 209 4) from chk_n (i := 4) (by decide) (by decide), show Int32.toNatClampNeg (1 : Int32) = 1 from rfl, tn0]
  rw [show M 40 0 = N 209 1 from hRS.2.2.2.2.1, show M 4 4 = N 209 0 from hRS.1, show M 5 7 = N 209 4 from hRS.2.1, t2, t3]
  split
  · exact ⟨_, rfl, rfl⟩
  · split
    · exact ⟨_, rfl, rfl⟩
    · split
      · exact ⟨_, rfl, rfl⟩
      · split
        · exact ⟨_, rfl, rfl⟩
        · exact ⟨_, rfl, rfl⟩
theorem put_1 {a : Int32} {T : Nat} {M N : Mem} (hn : 20000 ≤ n) (hT : T + 4 ≤ 400) (hM : M 0 1 = nI T) (hN : N 207 4 = nI T) (hE : ∀ i, i < T → M 1 i = N 210 i) :
    ∃ M' N', mX10_putOnTape n a M = some M' ∧ mX11_types n a N = some N' ∧ M' 0 1 = nI (T + 4) ∧ N' 207 4 = nI (T + 4) ∧ (∀ i, i < T + 4 → M' 1 i = N' 210 i) ∧ FT M M' ∧ GT N N' :=
  put_go (n := n) (a := a) 4 n T M N (by omega) hT (by decide) hM hN hE
theorem q_feed (hT : TOT M N) (hn : 20000 ≤ n) (a b c d e : Int32) : RES (mX10_feed n a b c d e M) (mX11_feed n a b c d e N) := by
  obtain ⟨hS, h57, h110, ⟨T, t1, t2, t3, t4⟩, h6, hK⟩ := id hT
  unfold mX10_feed mX11_feed
  rw [t2, t3, show (20 : Int32) = nI 20 from rfl, nI_add]
  have e : (nI (T + 20) ≤ (400 : Int32)) = (T + 20 ≤ 400) := by rw [show (400 : Int32) = nI 400 from rfl]; exact propext (nI_leI (by omega) (by omega))
  by_cases h : T + 20 ≤ 400
  · rw [if_pos (by rw [e]; exact h), if_pos (by rw [e]; exact h)]
    obtain ⟨M1, N1, a1, a2, a3, a4, a5, a6, a7⟩ := put_1 (n := n) (a := a) hn (by omega) t2 t3 t4
    rw [a1, a2]; simp only [bnp_some]
    obtain ⟨M2, N2, b1, b2, b3, b4, b5, b6, b7⟩ := put_1 (n := n) (a := b) hn (by omega) a3 a4 a5
    rw [b1, b2]; simp only [bnp_some]
    obtain ⟨M3, N3, c1, c2, c3, c4, c5, c6, c7⟩ := put_1 (n := n) (a := c) hn (by omega) b3 b4 b5
    rw [c1, c2]; simp only [bnp_some]
    obtain ⟨M4, N4, d1, d2, d3, d4, d5, d6, d7⟩ := put_1 (n := n) (a := d) hn (by omega) c3 c4 c5
    rw [d1, d2]; simp only [bnp_some]
    obtain ⟨M5, N5, f1, f2, f3, f4, f5, f6, f7⟩ := put_1 (n := n) (a := _) hn (by omega) d3 d4 d5
    rw [f1, f2]; simp only [bnp_some]
    rw [f3, f4]
    exact ⟨_, M5, N5, rfl, rfl, T_tape hT ((((a6.trans b6).trans c6).trans d6).trans f6) ((((a7.trans b7).trans c7).trans d7).trans f7) ⟨_, by omega, f3, f4, f5⟩⟩
  · rw [if_neg (by rw [e]; exact h), if_neg (by rw [e]; exact h)]
    exact ⟨_, _, _, rfl, rfl, hT⟩
end
end
section
/-! what is tried aside: ahead, when, check -/
theorem T_trial {M N M4 M7 N' : Mem} {f7 : Nat → Int32} (hT : TOT M N) (h4 : Fr 110 163 M M4) (hS : SIM 110 M7 N' f7) (hF : FD 110 M4 M7) (hN : NE N N') (hX : FX (cpR (N 209) 0 2 4250) f7) : TOT M7 (stF N' (cpR f7 2 0 4250)) := by
  obtain ⟨⟨hb, hC, hM, hRS, hI⟩, h57, h110, ⟨T, t1, t2, t3, t4⟩, h6, hK⟩ := hT
  have e7 : ∀ o k, o < 110 → M7 o k = M o k := fun o k h => (hF o k (by omega)).trans (h4 o k (by omega))
  have hf : ∀ j, j < 4250 → cpR f7 2 0 4250 j = N 209 j := fun j hj => by
    have h1 := cpR_i (f := f7) (p := 2) (q := 0) hj
    rw [show 4250 * 0 + j = j by omega] at h1
    rw [h1, hX _ (by omega), cpR_i hj]; congr 1; omega
  have hs : ∀ j, j < 4250 → secR (cpR f7 2 0 4250) 1 j = secR (N 209) 1 j := fun j hj => by
    unfold secR
    rw [cpR_o (by omega), hX _ (by omega), cpR_o (by omega)]
  refine ⟨⟨hb, CalC_eq hC (fun k => e7 _ _ (by omega)), CalM_stF (CalM_NE hM hN), ?_, ?_⟩, fun x hx => ?_, fun x hx => ?_, ⟨T, t1, ?_, ?_, fun i hi => ?_⟩, ?_, ?_⟩
  · rw [stF_f]; exact RS_row (RS_frame hRS hI.1 (fun o k g1 g2 => e7 _ _ (by omega))) hI.1 hf
  · rw [stF_f]; exact INV_row hI hf
  · rw [e7 _ _ (by omega)]; exact h57 x hx
  · exact (hS.2.2.2.1.2.2.2.1 x hx).1
  · rw [e7 _ _ (by omega)]; exact t2
  · rw [stF_o _ _ (by decide), hN 207 4 (by decide) (by decide) (by decide)]; exact t3
  · rw [e7 _ _ (by omega), stF_o _ _ (by decide), hN 210 i (by decide) (fun h => absurd h (by decide)) (by decide)]; exact t4 i hi
  · rw [e7 _ _ (by omega), stF_o _ _ (by decide), hN 207 2 (by decide) (by decide) (by decide)]; exact h6
  · rw [stF_f]
    rcases hK with q | ⟨q1, q2, q3⟩
    · exact Or.inl ((e7 _ _ (by omega)).trans q)
    · exact Or.inr ⟨(e7 _ _ (by omega)).trans q1, RS_row (RS_frame q2 q3.1 (fun o k g1 g2 => e7 _ _ (by omega))) q3.1 hs, INV_row q3 hs⟩
/-- the trial's start -/
theorem T_start {M N : Mem} {n : Nat} (hT : TOT M N) (hn : 20000 ≤ n) : ∃ M4, mX1_copyFrom n 110 4 M = some M4 ∧ Fr 110 163 M M4 ∧ mX11_copies n (0 : Int32) (2 : Int32) N = some (stF N (cpR (N 209) 0 2 4250)) ∧ SIM 110 M4 N (cpR (N 209) 0 2 4250) := by
  obtain ⟨⟨hb, hC, hM, hRS, hI⟩, h57, h110, hTap, h6, hK⟩ := hT
  obtain ⟨M4, p1, p2, p3⟩ := c_copy (b := 110) (s := 4) (n := n) hI.1 (by omega) hRS h110 (by omega)
  have hm := m_copies (p := 0) (q := 2) (n := n) (N := N) (f := N 209) (by decide) (by decide) (by decide) (by omega)
  rw [stF_self] at hm
  have hf : ∀ j, j < 4250 → cpR (N 209) 0 2 4250 j = N 209 j := fun j hj => cpR_o (by omega)
  exact ⟨M4, p1, p3, hm, by omega, CalC_eq hC (fun k => p3 _ _ (by omega)), hM, RS_row p2 hI.1 hf, INV_row hI hf⟩
theorem T_end {n : Nat} {N : Mem} {f : Nat → Int32} (hn : 20000 ≤ n) : mX11_copies n (2 : Int32) (0 : Int32) (stF N f) = some (stF N (cpR f 2 0 4250)) :=
  m_copies (p := 2) (q := 0) (n := n) (by decide) (by decide) (by decide) (by omega)
/-- both sides of begun, of the total relation -/
theorem T_beg {M N : Mem} (hT : TOT M N) (a : Int32) : (∃ x, x < 6 ∧ a = nI x ∧ IA1 (N 209) x ∧ mX1_hasBegun 4 a M = some 1 ∧ mX11_isBegun a N = some 1) ∨ (mX1_hasBegun 4 a M = some 0 ∧ mX11_isBegun a N = some 0) := by
  have := beg_c hT.1 a
  rw [stF_self] at this
  exact this
theorem RA13 {b x : Nat} {M : Mem} {f : Nat → Int32} (hR : RS b M f) (hx : x < 6) : M (b + 35 + 12 + x) 13 = allS f x := (hR.2.2.2.1 x hx).2.2.2.2.2.2.2.2.2.2.2.2.2
theorem q_ahead {M N : Mem} {n : Nat} (hT : TOT M N) (hn : 20000 ≤ n) (a c : Int32) : RES (mX10_ahead n a c M) (mX11_ahead n a c N) := by
  have e10 : ((1 : Int32) = 0) = False := eq_false (by decide)
  unfold mX10_ahead mX11_ahead
  rcases T_beg hT a with ⟨x, hx, rfl, hA, e1, e3⟩ | ⟨e1, e3⟩
  · rw [e1, e3]
    simp only [bnp_some, e10, if_false]
    rcases in_c c 0 400 401 0 400 rfl rfl rfl (by decide) (by decide) with ⟨q, hq1, hq, rfl, g1, g2, g3, g4⟩ | ⟨g4, g1⟩
    · rw [if_neg g1, if_pos (Int32.not_lt.mp g2), g4]
      obtain ⟨M4, p1, p2, p3, p4⟩ := T_start (n := n) hT hn
      simp only [bnp_some, e10, if_false]
      rw [p1, p3]
      simp only [bnp_some]
      rw [chk_n hx (by decide), nI_clamp (by omega)]
      obtain ⟨r, M7, f7, r1, r2, r3, r4, r5, r6⟩ := pass_go (N := N) (m := q) (b := 110) hq (n := n) (by omega) q n 0 M4 _ (by omega) (by omega) p4
      by_cases hq0 : nI q ≤ 0
      · have hq0' : q = 0 := by
          rw [show (0 : Int32) = nI 0 from rfl, nI_leI (by omega) (by omega)] at hq0; omega
        subst hq0'
        obtain ⟨n', rfl⟩ : ∃ n', n = n' + 1 := ⟨n - 1, by omega⟩
        rw [if_pos hq0]
        have hp : mX11_pass (n' + 1) (nI 0) (stF N (cpR (N 209) 0 2 4250)) = some (nI 0, stF N (cpR (N 209) 0 2 4250)) := by
          unfold mX11_pass mX11_pass_c2
          rw [if_pos (show nI 0 ≤ (0 : Int32) by decide)]; rfl
        rw [hp]
        simp only [bnd_some]
        rw [m_all p4.2.2.2.2.1 (by omega), T_end hn, show 145 + 12 + x = 110 + 35 + 12 + x by omega, RA13 p4.2.2.2.1 hx]
        exact ⟨_, _, _, rfl, rfl, T_trial hT p2 p4 FD.rfl' NE.rfl' FX.rfl'⟩
      · rw [if_neg hq0]
        have hq1 : ¬ nI q < 1 := fun h => hq0 (by
          rw [show (1 : Int32) = nI 1 from rfl, nI_ltI (by omega) (by omega)] at h
          rw [show (0 : Int32) = nI 0 from rfl, nI_leI (by omega) (by omega)]; omega)
        have hp : mX1_passDays n 110 (nI q) M4 = some (r, M7) := by
          unfold mX1_passDays
          rw [if_neg hq1, if_pos (Int32.not_lt.mp g2)]; exact r1
        have hp2 : mX11_pass n (nI q) (stF N (cpR (N 209) 0 2 4250)) = some (r, stF N f7) := r2
        rw [hp, hp2]
        simp only [bnd_some]
        rw [m_all r3.2.2.2.2.1 (by omega), T_end hn, chk_n hx (by decide), show 145 + 12 + x = 110 + 35 + 12 + x by omega, RA13 r3.2.2.2.1 hx]
        exact ⟨_, _, _, rfl, rfl, T_trial hT p2 r3 r4 NE.rfl' r5⟩
    · rw [g4]
      simp only [bnp_some, if_true]
      rcases g1 with g1 | ⟨g1, g2, g3⟩
      · rw [if_pos g1]; exact ⟨_, _, _, rfl, rfl, hT⟩
      · rw [if_neg g1, if_neg (Int32.not_le.mpr g2)]; exact ⟨_, _, _, rfl, rfl, hT⟩
  · rw [e1, e3]; exact ⟨_, _, _, rfl, rfl, hT⟩
/-- one day at most -/
theorem pass_1 {b n : Nat} {M N : Mem} {f : Nat → Int32} (hS : SIM b M N f) (hn : 20000 ≤ n) : (mX1_canPassDay n b M = some 0 ∧ mX11_pass n (1 : Int32) (stF N f) = some (0, stF N f)) ∨
    (mX1_canPassDay n b M = some 1 ∧ ∃ M' f', mX1_passDay n b M = some M' ∧ mX11_pass n (1 : Int32) (stF N f) = some (1, stF N f') ∧ SIM b M' N f' ∧ FD b M M' ∧ FX f f') := by
  have t1 := hS.2.2.2.2.1.1.1; have t1' := hS.2.2.2.2.1.1.2
  have e10 : ((1 : Int32) = 0) = False := eq_false (by decide)
  obtain ⟨n', rfl⟩ : ∃ n', n = n' + 1 + 1 := ⟨n - 2, by omega⟩
  rcases day_1 (n := n' + 1 + 1) hS (by omega) with ⟨e1, e2⟩ | ⟨e1, e2, M1, f1, e3, e4, e5, e6, e7⟩
  · refine Or.inl ⟨e1, ?_⟩
    unfold mX11_pass mX11_pass_c2
    rw [if_neg (show ¬ (1 : Int32) ≤ 0 by decide), e2]; rfl
  · refine Or.inr ⟨e1, M1, f1, e3, ?_, e5, e6, e7⟩
    unfold mX11_pass mX11_pass_c2
    rw [if_neg (show ¬ (1 : Int32) ≤ 0 by decide), e2]
    simp only [bnp_some, e10, if_false]
    rw [ck0, ck0, tn0, stF_f, t1, upd2_stF, show (1 : Int32) = nI 1 from rfl, nI_add]
    simp only [lt_eq]
    rw [show (0 : Int32) = nI 0 from rfl, e4]
    unfold mX11_pass_c2
    rw [if_pos (show nI 1 ≤ nI 0 + nI 1 by decide)]; rfl
theorem when_go {x n : Nat} {c : Int32} {N : Mem} (hx : x < 6) (hn : 20000 ≤ n) : ∀ (d k i : Nat) (M : Mem) (f : Nat → Int32), i + d = 400 → d + 1 < k → SIM 110 M N f → ∃ r M' f', mX10_when_c26 n k (nI x) c (nI i) M = some (r, M') ∧ mX11_when_c21 n k (nI x) c (nI i) (1 : Int32) (stF N f) = some (r, stF N (cpR f' 2 0 4250)) ∧ SIM 110 M' N f' ∧ FD 110 M M' ∧ FX f f'
  | d, 0, _, _, _, _, h, _ => absurd h (Nat.not_lt_zero _)
  | d, k + 1, i, M, f, e, h, hS => by
    have hall := m_all (N := N) (x := x) (n := n) hS.2.2.2.2.1 (by omega)
    have e10 : ((1 : Int32) = 0) = False := eq_false (by decide)
    have hi1 : ¬ (400 : Int32) < nI i := by rw [show (400 : Int32) = nI 400 from rfl, nI_ltI (by omega) (by omega)]; omega
    have fin : ∀ (f : Nat → Int32), SIM 110 M N f → mX11_when_c70 n (nI x) c (nI i) (stF N f) = if allS f x < c then some (-2, stF N (cpR f 2 0 4250)) else some (nI i, stF N (cpR f 2 0 4250)) := by
      intro f hS
      unfold mX11_when_c70
      rw [m_all hS.2.2.2.2.1 (by omega), T_end hn]
      rfl
    unfold mX10_when_c26
    rw [if_neg hi1, chk_n hx (by decide), nI_clamp (by omega), show 145 + 12 + x = 110 + 35 + 12 + x by omega, RA13 hS.2.2.2.1 hx]
    rcases Nat.eq_zero_or_pos d with hd | hd
    · have hi : i = 400 := by omega
      subst hi
      have hR : mX11_when_c21 n (k + 1) (nI x) c (nI 400) (1 : Int32) (stF N f) = mX11_when_c70 n (nI x) c (nI 400) (stF N f) := by
        unfold mX11_when_c21
        rw [if_neg (show ¬ (1 : Int32) = 0 by decide), if_pos (show (400 : Int32) ≤ nI 400 by decide)]
      rw [hR, fin f hS, if_pos (show nI 400 = (400 : Int32) from rfl)]
      by_cases q : allS f x < c
      · rw [if_pos q, if_pos q]; exact ⟨_, M, f, rfl, rfl, hS, FD.rfl', FX.rfl'⟩
      · rw [if_neg q, if_neg q]; exact ⟨_, M, f, rfl, rfl, hS, FD.rfl', FX.rfl'⟩
    · have hi2 : ¬ nI i = (400 : Int32) := by rw [show (400 : Int32) = nI 400 from rfl, nI_eq (by omega) (by omega)]; omega
      have hi3 : ¬ (400 : Int32) ≤ nI i := by rw [show (400 : Int32) = nI 400 from rfl, nI_leI (by omega) (by omega)]; omega
      rw [if_neg hi2]
      by_cases q : allS f x < c
      · rw [if_pos q]
        rcases pass_1 hS hn with ⟨e1, e2⟩ | ⟨e1, M1, f1, e3, e4, e5, e6, e7⟩
        · have hR : mX11_when_c21 n (k + 1) (nI x) c (nI i) (1 : Int32) (stF N f) = mX11_when_c70 n (nI x) c (nI i) (stF N f) := by
            obtain ⟨k', rfl⟩ : ∃ k', k = k' + 1 := ⟨k - 1, by omega⟩
            unfold mX11_when_c21
            rw [if_neg (show ¬ (1 : Int32) = 0 by decide), if_neg hi3, hall]
            simp only [bnp_some]
            rw [if_neg (Int32.not_le.mpr q), e2]
            simp only [bnd_some]
            rw [if_neg (show ¬ (0 : Int32) = 1 by decide), if_pos trivial]
            unfold mX11_when_c21
            rw [if_pos rfl]
          rw [hR, fin f hS, if_pos q, e1]
          exact ⟨_, M, f, rfl, rfl, hS, FD.rfl', FX.rfl'⟩
        · obtain ⟨r, M', f', r1, r2, r3, r4, r5⟩ := when_go (c := c) hx hn (d - 1) k (i + 1) M1 f1 (by omega) (by omega) e5
          refine ⟨r, M', f', ?_, ?_, r3, e6.trans r4, e7.trans r5⟩
          · rw [e1]
            simp only [bnp_some, e10, if_false]
            rw [e3]
            simp only [bnp_some]
            rw [show (1 : Int32) = nI 1 from rfl, nI_add]
            exact r1
          · unfold mX11_when_c21
            rw [if_neg (show ¬ (1 : Int32) = 0 by decide), if_neg hi3, hall]
            simp only [bnp_some]
            rw [if_neg (Int32.not_le.mpr q), e4]
            simp only [bnd_some]
            rw [if_pos trivial, if_neg (show ¬ (1 : Int32) = 0 by decide)]
            rw [show nI i + (1 : Int32) = nI (i + 1) from nI_add ..]
            exact r2
      · rw [if_neg q]
        have hR : mX11_when_c21 n (k + 1) (nI x) c (nI i) (1 : Int32) (stF N f) = mX11_when_c70 n (nI x) c (nI i) (stF N f) := by
          unfold mX11_when_c21
          rw [if_neg (show ¬ (1 : Int32) = 0 by decide), if_neg hi3, hall]
          simp only [bnp_some]
          rw [if_pos (Int32.not_lt.mp q)]
        rw [hR, fin f hS, if_neg q]
        exact ⟨_, M, f, rfl, rfl, hS, FD.rfl', FX.rfl'⟩
theorem q_when {M N : Mem} {n : Nat} (hT : TOT M N) (hn : 20000 ≤ n) (a c : Int32) : RES (mX10_when n a c M) (mX11_when n a c N) := by
  have e10 : ((1 : Int32) = 0) = False := eq_false (by decide)
  unfold mX10_when mX11_when
  rcases T_beg hT a with ⟨x, hx, rfl, hA, e1, e3⟩ | ⟨e1, e3⟩
  · rw [e1, e3]
    simp only [bnp_some, e10, if_false]
    obtain ⟨M4, p1, p2, p3, p4⟩ := T_start (n := n) hT hn
    rw [p1, p3]
    simp only [bnp_some]
    obtain ⟨r, M7, f7, r1, r2, r3, r4, r5⟩ := when_go (c := c) (N := N) hx hn 400 n 0 M4 _ (by omega) (by omega) p4
    exact ⟨r, M7, _, r1, r2, T_trial hT p2 r3 r4 NE.rfl' r5⟩
  · rw [e1, e3]; exact ⟨_, _, _, rfl, rfl, hT⟩
/-! check -/
def badC (f : Nat → Int32) (t : Nat → Int32) (i : Nat) : Prop := ¬ (i < sz f ∧ fE f i 7 &&& 255 = t i &&& 255)
noncomputable def fbC (f : Nat → Int32) (t : Nat → Int32) : Nat → Nat → Int32
  | _, 0 => -1
  | i, d + 1 => @ite _ (badC f t i) (Classical.propDecidable _) (nI i) (fbC f t (i + 1) d)
theorem fbC_b {f t : Nat → Int32} {i d : Nat} (h : badC f t i) : fbC f t i (d + 1) = nI i := by unfold fbC; exact if_pos h
theorem fbC_g {f t : Nat → Int32} {i d : Nat} (h : ¬ badC f t i) : fbC f t i (d + 1) = fbC f t (i + 1) d := by
  show @ite _ (badC f t i) (Classical.propDecidable _) (nI i) (fbC f t (i + 1) d) = _
  exact if_neg h
theorem has_c {e i : Nat} {M : Mem} {f : Nat → Int32} (hE : RE e M f) (h1 : f 1 = nI (sz f)) (hs : sz f ≤ 400) (hi : i < 400) : mX5_has e (nI i) M = some (if i < sz f then 1 else 0) := by
  unfold mX5_has
  rw [if_neg (nI_pos (by omega)), hE.1, h1]
  by_cases q : i < sz f
  · rw [if_neg (by rw [nI_leI (by omega) (by omega)]; omega), if_neg (by rw [show (400 : Int32) = nI 400 from rfl, nI_leI (by omega) (by omega)]; omega), if_pos q]
  · rw [if_pos (by rw [nI_leI (by omega) (by omega)]; omega), if_neg q]
theorem c_chk_go {n m : Nat} {M : Mem} {f : Nat → Int32} (hE : RE 40 M f) (h1 : f 1 = nI (sz f)) (hs : sz f ≤ 400) (hm : m ≤ 400) : ∀ (d k i : Nat), i + d = m → d < k → mX10_check_c29 n k (nI m) (nI i) M = some (fbC f (M 1) i d, M)
  | d, 0, _, _, h => absurd h (Nat.not_lt_zero _)
  | 0, k + 1, i, e, h => by
    unfold mX10_check_c29
    rw [if_pos (by rw [nI_leI (by omega) (by omega)]; omega)]; rfl
  | d + 1, k + 1, i, e, h => by
    have ih := c_chk_go (n := n) hE h1 hs hm d k (i + 1) (by omega) (by omega)
    unfold mX10_check_c29
    rw [if_neg (by rw [nI_leI (by omega) (by omega)]; omega), if_neg (by rw [show (400 : Int32) = nI 400 from rfl, nI_leI (by omega) (by omega)]; omega), has_c hE h1 hs (by omega)]
    simp only [bnp_some]
    by_cases q : i < sz f
    · rw [if_pos q, if_neg (show ¬ (1 : Int32) = 0 by decide), chk_n (by omega) (by omega), chk_n (by omega) (by omega), nI_clamp (by omega), show M 48 i = fE f i 7 from (hE.2 i q).2.2.2.2.2.2.2.1]
      by_cases q2 : fE f i 7 &&& 255 = M 1 i &&& 255
      · rw [if_pos q2, show (1 : Int32) = nI 1 from rfl, nI_add, ih, fbC_g (fun g => g ⟨q, q2⟩)]
      · rw [if_neg q2, fbC_b (fun g => q2 g.2)]
    · rw [if_neg q, if_pos rfl, fbC_b (fun g => q g.1)]
theorem m_chk_go {n m : Nat} {t : Nat → Int32} {N : Mem} {f : Nat → Int32} (hf : N 209 = f) (h1 : f 1 = nI (sz f)) (hs : sz f ≤ 400) (hm : m ≤ 400) (ht : ∀ i, i < m → N 210 i = t i) : ∀ (i k d : Nat), i + d = m → i < k → mX11_check_c28 n k (fbC f t i d) (iI ((i : Int) - 1)) N = some (fbC f t 0 m, upd2 N 207 4 0)
  | i, 0, _, _, h => absurd h (Nat.not_lt_zero _)
  | 0, k + 1, d, e, h => by
    unfold mX11_check_c28
    rw [if_pos (show iI (((0 : Nat) : Int) - 1) < 0 by decide)]
    have : d = m := by omega
    rw [this]
  | i + 1, k + 1, d, e, h => by
    have ih := m_chk_go (n := n) hf h1 hs hm ht i k (d + 1) (by omega) (by omega)
    have e1 : iI (((i + 1 : Nat) : Int) - 1) = nI i := by rw [iI_n]; congr 1; omega
    have e2 : nI i + -1 = iI ((i : Int) - 1) := by
      rw [show (-1 : Int32) = iI (-1) from rfl, iI_n, iI_add]; congr 1
    have hent : mX11_entryOf (nI i) (7 : Int32) N = some (fE f i 7) := by
      rw [← hf]; exact m_entryOf (by omega) (by decide)
    unfold mX11_check_c28
    rw [e1, if_neg (nI_pos (by omega)), ck1, show Int32.toNatClampNeg (1 : Int32) = 1 from rfl, hf, h1, e2]
    by_cases q : i < sz f
    · rw [if_neg (by rw [nI_leI (by omega) (by omega)]; omega), chk_n (by omega) (by omega), hent, nI_clamp (by omega), ht i (by omega)]
      simp only [bnp_some]
      by_cases q2 : fE f i 7 &&& 255 = t i &&& 255
      · rw [if_pos q2.symm]
        rw [fbC_g (fun g => g ⟨q, q2⟩)] at ih
        exact ih
      · rw [if_neg (fun g => q2 g.symm)]
        rw [fbC_b (fun g => q2 g.2)] at ih
        exact ih
    · rw [if_pos (by rw [nI_leI (by omega) (by omega)]; omega)]
      rw [fbC_b (fun g => q g.1)] at ih
      exact ih
theorem q_check {M N : Mem} {n : Nat} (hT : TOT M N) (hn : 20000 ≤ n) (a : Int32) : RES (mX10_check n a M) (mX11_check n a N) := by
  have e10 : ((1 : Int32) = 0) = False := eq_false (by decide)
  obtain ⟨⟨hb, hC, hM, hRS, hI⟩, h57, h110, ⟨T, t1, t2, t3, t4⟩, h6, hK⟩ := id hT
  unfold mX10_check mX11_check
  rcases in_c a 0 400 401 0 400 rfl rfl rfl (by decide) (by decide) with ⟨q, hq1, hq, rfl, g1, g2, g3, g4⟩ | ⟨g4, g1⟩
  · rw [if_neg g1, if_neg g2, g4]
    simp only [bnp_some, e10, if_false]
    rw [t2, t3]
    by_cases h : q ≤ T
    · have h' : nI q ≤ nI T := by rw [nI_leI (by omega) (by omega)]; exact h
      rw [if_pos h', if_pos h']
      have hE' : RE 40 (upd2 M 0 1 0) (N 209) := RE_congrM hRS.2.2.2.2 (fun o k g1 g2 => u2o _ _ (by omega))
      have hc := c_chk_go (n := n) hE' hI.1.2.1.1 hI.1.2.1.2 hq q n 0 (by omega) (by omega)
      have e1 : upd2 M 0 1 0 1 = M 1 := funext fun k => u2o _ _ (by decide)
      rw [e1] at hc
      have hm := m_chk_go (n := n) (t := M 1) (N := N) rfl hI.1.2.1.1 hI.1.2.1.2 hq (fun i hi => (t4 i (by omega)).symm) q n 0 (by omega) (by omega)
      have e2 : nI q - 1 = iI ((q : Int) - 1) := by
        rw [show (1 : Int32) = nI 1 from rfl, nI_subI]; congr 1
      rw [e2, show mX10_check_c29 n n (nI q) 0 (upd2 M 0 1 0) = _ from hc, show mX11_check_c28 n n (-1) (iI ((q : Int) - 1)) N = _ from hm]
      refine ⟨_, _, _, rfl, rfl, T_tape hT (fun o k g => ?_) (fun o k g => ?_) ⟨0, by omega, u2s _ _ _ _, u2s _ _ _ _, fun i hi => absurd hi (Nat.not_lt_zero _)⟩⟩
      · by_cases z : o = 0
        · subst z; exact u2k _ _ (by omega)
        · exact u2o _ _ z
      · by_cases z : o = 207
        · subst z; exact u2k _ _ (by omega)
        · exact u2o _ _ z
    · have h' : ¬ nI q ≤ nI T := by rw [nI_leI (by omega) (by omega)]; exact h
      rw [if_neg h', if_neg h']
      exact ⟨_, _, _, rfl, rfl, hT⟩
  · rw [g4]
    simp only [bnp_some, if_true]
    rcases g1 with g1 | ⟨g1, g2, g3⟩
    · rw [if_pos g1]; exact ⟨_, _, _, rfl, rfl, hT⟩
    · rw [if_neg g1, if_pos g2]; exact ⟨_, _, _, rfl, rfl, hT⟩
end
section
/-! what is asked of ENTRIES and their sums -/
def PQ (mc mm : Option Int32) : Prop := ∃ r, mc = some r ∧ mm = some r
def PX (M : Mem) (mc : Option Int32) (mm : Option (Int32 × Mem)) : Prop := ∃ r N', mc = some r ∧ mm = some (r, N') ∧ TOT M N'
theorem T_ne {M N N' : Mem} (hT : TOT M N) (h : NE N N') : TOT M (stF N' (N 209)) := by
  obtain ⟨⟨hb, hC, hM, hRS, hI⟩, h57, h110, ⟨T, t1, t2, t3, t4⟩, h6, hK⟩ := hT
  exact ⟨⟨hb, hC, CalM_stF (CalM_NE hM h), hRS, hI⟩, h57, h110, ⟨T, t1, t2, by rw [stF_o _ _ (by decide), h 207 4 (by decide) (by decide) (by decide)]; exact t3, fun i hi => by rw [stF_o _ _ (by decide), h 210 i (by decide) (fun h => absurd h (by decide)) (by decide)]; exact t4 i hi⟩,
    by rw [stF_o _ _ (by decide), h 207 2 (by decide) (by decide) (by decide)]; exact h6, hK⟩
/-- a query that is begun, of an account -/
theorem ltI {a b : Nat} (hb : b < 2 ^ 31) (ha : a < 2 ^ 31) : (nI a ≤ nI b) = (a ≤ b) := propext (nI_leI ha hb)
theorem period_go {n x : Nat} {M N : Mem} {f : Nat → Int32} {b : Int32} (hE : RE 40 M f) (h1 : f 1 = nI (sz f)) (hs : sz f ≤ 400) : ∀ (d k i : Nat) (s : Int32), i + d = sz f → d < k → PQ (mX5_sumOfPeriod_c5 n k 40 (nI x) b s (nI i) M) (mX11_period_c27 n k (nI x) b s (nI i) (stF N f))
  | d, 0, _, _, _, h => absurd h (Nat.not_lt_zero _)
  | 0, k + 1, i, s, e0, h => by
    unfold mX5_sumOfPeriod_c5 mX11_period_c27
    rw [hE.1, h1, ck1, show Int32.toNatClampNeg (1 : Int32) = 1 from rfl, stF_f, h1, if_pos (by rw [nI_leI (by omega) (by omega)]; omega), if_pos (by rw [nI_leI (by omega) (by omega)]; omega)]
    exact ⟨_, rfl, rfl⟩
  | d + 1, k + 1, i, s, e0, h => by
    have ih := fun s => period_go (n := n) (x := x) (N := N) (b := b) hE h1 hs d k (i + 1) s (by omega) (by omega)
    have hi : i < sz f := by omega
    obtain ⟨r1, r2, r3, r4, r5, r6, r7, r8, r9, r10⟩ := hE.2 i hi
    unfold mX5_sumOfPeriod_c5 mX11_period_c27
    rw [c_isOf hE h1 hs hi, hE.1, h1, if_neg (by rw [nI_leI (by omega) (by omega)]; omega)]
    simp (disch := omega) only [nI_lit, chk_n, nI_clamp, stF_f, h1, nI_leI, m_entS, bnp_some, nI_add, r4, r8]
    rw [if_neg (show ¬ sz f ≤ i by omega)]
    by_cases t : fE f i 1 = nI x
    · rw [if_pos t, if_neg (by decide), if_pos t]
      by_cases t2 : fE f i 3 = b
      · rw [if_pos t2, if_pos t2]; exact ih _
      · rw [if_neg t2, if_neg t2]; exact ih _
    · rw [if_neg t, if_pos (by decide), if_neg t]; exact ih _
theorem q_period {M N : Mem} {n : Nat} (hT : TOT M N) (hn : 20000 ≤ n) (a b : Int32) : PQ (mX10_period n a b M) (mX11_period n a b N) := by
  have e10 : ((1 : Int32) = 0) = False := eq_false (by decide)
  obtain ⟨⟨hb, hC, hM, hRS, hI⟩, -⟩ := id hT
  unfold mX10_period mX11_period mX5_sumOfPeriod
  simp only [bnp_id]
  rcases T_beg hT a with ⟨x, hx, rfl, hA, e1, e3⟩ | ⟨e1, e3⟩
  · rw [e1, e3]
    simp only [bnp_some, e10, if_false]
    rcases in_c b 0 199 200 0 199 rfl rfl rfl (by decide) (by decide) with ⟨q, hq1, hq, rfl, g1, g2, g3, g4⟩ | ⟨g4, g1⟩
    · rw [if_neg g1, if_pos (Int32.not_lt.mp g2), g4]
      simp only [bnp_some, e10, if_false]
      have := period_go (n := n) (x := x) (N := N) (b := nI q) hRS.2.2.2.2 hI.1.2.1.1 hI.1.2.1.2 (sz (N 209)) n 0 0 (by omega) (by have := hI.1.2.1.2; omega)
      rw [stF_self] at this
      exact this
    · rw [g4]
      rcases g1 with g1 | ⟨g1, g2, g3⟩
      · rw [if_pos g1]; exact ⟨_, rfl, rfl⟩
      · rw [if_neg g1, if_neg (Int32.not_le.mpr g2)]; exact ⟨_, rfl, rfl⟩
  · rw [e1, e3]; exact ⟨_, rfl, rfl⟩
theorem written_go {n : Nat} {M N : Mem} {f : Nat → Int32} {a b : Int32} (hE : RE 40 M f) (h1 : f 1 = nI (sz f)) (hs : sz f ≤ 400) : ∀ (d k i : Nat) (s : Int32), i + d = sz f → d < k → PQ (mX5_sumWritten_c5 n k 40 a b s (nI i) M) (mX11_written_c27 n k a b s (nI i) (stF N f))
  | d, 0, _, _, _, h => absurd h (Nat.not_lt_zero _)
  | 0, k + 1, i, s, e0, h => by
    unfold mX5_sumWritten_c5 mX11_written_c27
    rw [hE.1, h1, ck1, show Int32.toNatClampNeg (1 : Int32) = 1 from rfl, stF_f, h1, if_pos (by rw [nI_leI (by omega) (by omega)]; omega), if_pos (by rw [nI_leI (by omega) (by omega)]; omega)]
    exact ⟨_, rfl, rfl⟩
  | d + 1, k + 1, i, s, e0, h => by
    have ih := fun s => written_go (n := n) (N := N) (a := a) (b := b) hE h1 hs d k (i + 1) s (by omega) (by omega)
    have hi : i < sz f := by omega
    obtain ⟨r1, r2, r3, r4, r5, r6, r7, r8, r9, r10⟩ := hE.2 i hi
    unfold mX5_sumWritten_c5 mX11_written_c27 mX11_in
    rw [hE.1, h1, if_neg (by rw [nI_leI (by omega) (by omega)]; omega), if_neg (by rw [show (400 : Int32) = nI 400 from rfl, nI_leI (by omega) (by omega)]; omega)]
    simp (disch := omega) only [nI_lit, chk_n, nI_clamp, stF_f, h1, nI_leI, m_entS, bnp_some, nI_add, r3, r8]
    rw [if_neg (show ¬ sz f ≤ i by omega)]
    by_cases t : fE f i 2 < a
    · rw [if_pos t, if_pos t]
      simp only [bnp_some, if_true]; exact ih _
    · rw [if_neg t, if_neg t]
      by_cases t2 : b < fE f i 2
      · rw [if_pos t2, if_pos t2]
        simp only [bnp_some, if_true]; exact ih _
      · rw [if_neg t2, if_neg t2]
        simp only [bnp_some]
        rw [if_neg (show ¬ nI 1 = nI 0 by decide)]; exact ih _
theorem q_written {M N : Mem} {n : Nat} (hT : TOT M N) (hn : 20000 ≤ n) (a b : Int32) : PQ (mX10_written n a b M) (mX11_written n a b N) := by
  have e10 : ((1 : Int32) = 0) = False := eq_false (by decide)
  obtain ⟨⟨hb, hC, hM, hRS, hI⟩, -⟩ := id hT
  have main := written_go (n := n) (N := N) (a := a) (b := b) hRS.2.2.2.2 hI.1.2.1.1 hI.1.2.1.2 (sz (N 209)) n 0 0 (by omega) (by have := hI.1.2.1.2; omega)
  rw [stF_self] at main
  unfold mX10_written mX11_written mX5_sumWritten mX11_isDay
  simp only [bnp_id]
  rcases in_c a 0 3652 3653 0 3652 (nI_lit 0) (nI_lit 3652) (nI_lit 3653) (by decide) (by decide) with ⟨p, hp1, hp, rfl, g1, g2, g3, g4⟩ | ⟨g4, g1⟩
  · rw [if_neg g1, g4]
    simp only [bnp_some, e10, if_false]
    rcases in_c b 0 3652 3653 0 3652 (nI_lit 0) (nI_lit 3652) (nI_lit 3653) (by decide) (by decide) with ⟨q, hq1, hq, rfl, k1, k2, k3, k4⟩ | ⟨k4, k1⟩
    · rw [if_pos (Int32.not_lt.mp k2), k4]
      simp only [bnp_some, e10, if_false]
      by_cases h : nI q < nI p
      · rw [if_pos h, if_neg (Int32.not_le.mpr h)]; exact ⟨_, rfl, rfl⟩
      · rw [if_neg h, if_pos (Int32.not_lt.mp h)]; exact main
    · rw [k4]
      simp only [bnp_some, if_true]
      by_cases h : b < nI p
      · rw [if_pos h]; exact ⟨_, rfl, rfl⟩
      · rw [if_neg h]
        rcases k1 with k1 | ⟨k1, k2, k3⟩
        · exact absurd (Int32.lt_of_lt_of_le k1 (Int32.not_lt.mp g1)) h
        · rw [if_neg (Int32.not_le.mpr k2)]; exact ⟨_, rfl, rfl⟩
  · rw [g4]
    simp only [bnp_some, if_true]
    rcases g1 with g1 | ⟨g1, g2, g3⟩
    · rw [if_pos g1]; exact ⟨_, rfl, rfl⟩
    · rw [if_neg g1]
      by_cases h : b < a
      · rw [if_pos h]; exact ⟨_, rfl, rfl⟩
      · rw [if_neg h, if_neg (Int32.not_le.mpr (Int32.lt_of_lt_of_le g2 (Int32.not_lt.mp h)))]; exact ⟨_, rfl, rfl⟩
/-! earned -/
theorem gone_c {F T dd : Nat} (hF : F < T) (hT : T ≤ 3652) (hd : dd ≤ 3653) : (if (0 : Int32) < (if nI dd - nI F < nI T - nI F then nI dd - nI F else nI T - nI F) then (if nI dd - nI F < nI T - nI F then nI dd - nI F else nI T - nI F) else (0 : Int32)) = nI (min (T - F) (dd - F)) := by
  have e1 : nI T - nI F = nI (T - F) := pk_sub (by omega)
  have e2 : (nI dd - nI F < nI (T - F)) = ((dd : Int) - F < ((T - F : Nat) : Int)) := by rw [nI_subI, iI_n, iI_lt (by omega) (by omega) (by omega) (by omega)]
  rw [e1]
  by_cases h : dd < T
  · have p : nI dd - nI F < nI (T - F) := by rw [e2]; omega
    rw [if_pos p]
    by_cases h2 : F < dd
    · have e3 : nI dd - nI F = nI (dd - F) := pk_sub (by omega)
      have p2 : (0 : Int32) < nI (dd - F) := by rw [show (0 : Int32) = nI 0 from rfl, nI_ltI (by omega) (by omega)]; omega
      rw [e3, if_pos p2]
      congr 1; omega
    · have p2 : ¬ (0 : Int32) < iI ((dd : Int) - F) := by rw [show (0 : Int32) = iI 0 from rfl, iI_lt (by omega) (by omega) (by omega) (by omega)]; omega
      rw [nI_subI, if_neg p2, show min (T - F) (dd - F) = 0 by omega]; rfl
  · have p : ¬ nI dd - nI F < nI (T - F) := by rw [e2]; omega
    have p2 : (0 : Int32) < nI (T - F) := by rw [show (0 : Int32) = nI 0 from rfl, nI_ltI (by omega) (by omega)]; omega
    rw [if_neg p, if_pos p2]
    congr 1; omega
theorem gone_m {F T dd : Nat} (hF : F < T) (hT : T ≤ 3652) (hd : dd ≤ 3653) : ∃ r7, mX11_min (nI T - nI F) (nI dd - nI F) = some r7 ∧ mX11_max (0 : Int32) r7 = some (nI (min (T - F) (dd - F))) := by
  have e1 : nI T - nI F = nI (T - F) := pk_sub (by omega)
  have e2 : (nI dd - nI F ≤ nI (T - F)) = ((dd : Int) - F ≤ ((T - F : Nat) : Int)) := by rw [nI_subI, iI_n, iI_le (by omega) (by omega) (by omega) (by omega)]
  unfold mX11_min mX11_max
  rw [e1]
  by_cases h : dd ≤ T
  · rw [if_pos (by rw [e2]; omega)]
    refine ⟨_, rfl, ?_⟩
    by_cases h2 : F ≤ dd
    · have e3 : nI dd - nI F = nI (dd - F) := pk_sub (by omega)
      rw [e3, if_pos (by rw [show (0 : Int32) = nI 0 from rfl, nI_leI (by omega) (by omega)]; omega)]
      congr 2; omega
    · rw [nI_subI, if_neg (by rw [show (0 : Int32) = iI 0 from rfl, iI_le (by omega) (by omega) (by omega) (by omega)]; omega), show min (T - F) (dd - F) = 0 by omega]; rfl
  · rw [if_neg (by rw [e2]; omega)]
    refine ⟨_, rfl, ?_⟩
    rw [if_pos (by rw [show (0 : Int32) = nI 0 from rfl, nI_leI (by omega) (by omega)]; omega)]
    congr 2; omega
theorem muldiv {c : Int32} {g L : Nat} (h1 : -899991 ≤ c.toInt) (h2 : c.toInt ≤ 899991) (hg : g ≤ 31) (hL : 0 < L) (hL2 : L ≤ 31) : Int64.toInt32 ((Int32.toInt64 c * Int32.toInt64 (nI g)) / Int32.toInt64 (nI L)) = c * nI g / nI L := by
  obtain ⟨w, hw⟩ : ∃ w, w = c.toInt * (g : Int) := ⟨_, rfl⟩
  have m1 : c.toInt * (g : Int) ≤ 899991 * (g : Int) := Int.mul_le_mul_of_nonneg_right (by omega) (by omega)
  have m2 : -899991 * (g : Int) ≤ c.toInt * (g : Int) := Int.mul_le_mul_of_nonneg_right (by omega) (by omega)
  rw [← hw] at m1 m2
  have eL := nI_toInt (n := L) (by omega)
  have e64 : (Int32.toInt64 c * Int32.toInt64 (nI g)).toInt = w := by
    rw [Int64.toInt_mul, Int32.toInt_toInt64, Int32.toInt_toInt64, nI_toInt (by omega), ← hw]
    exact Int.bmod_eq_of_le (by omega) (by omega)
  have e32 : (c * nI g).toInt = w := by
    rw [Int32.toInt_mul, nI_toInt (by omega), ← hw]
    exact Int.bmod_eq_of_le (by omega) (by omega)
  have eL64 : (Int32.toInt64 (nI L)).toInt = (L : Int) := by rw [Int32.toInt_toInt64, eL]
  have n64 : Int32.toInt64 (nI L) ≠ -1 := by
    intro h
    have := congrArg Int64.toInt h
    rw [eL64] at this
    have e : (-1 : Int64).toInt = -1 := by decide
    rw [e] at this; omega
  have n32 : nI L ≠ -1 := by
    intro h
    have := congrArg Int32.toInt h
    rw [eL] at this
    have e : (-1 : Int32).toInt = -1 := by decide
    rw [e] at this; omega
  have b : -2147483648 ≤ w.tdiv (L : Int) ∧ w.tdiv (L : Int) < 2147483648 := by
    rcases Int.le_total 0 w with h | h
    · rw [Int.tdiv_eq_ediv_of_nonneg h]
      have d1 : w / (L : Int) ≤ w := Int.ediv_le_self _ h
      have d2 : 0 ≤ w / (L : Int) := Int.ediv_nonneg h (by omega)
      omega
    · obtain ⟨v, hv⟩ : ∃ v, w = -v := ⟨-w, by omega⟩
      rw [hv, Int.neg_tdiv, Int.tdiv_eq_ediv_of_nonneg (by omega)]
      have d1 : v / (L : Int) ≤ v := Int.ediv_le_self _ (by omega)
      have d2 : 0 ≤ v / (L : Int) := Int.ediv_nonneg (by omega) (by omega)
      omega
  apply Int32.toInt_inj.mp
  rw [Int64.toInt_toInt32, Int64.toInt_div_of_ne_right _ _ n64, e64, eL64, Int32.toInt_div_of_ne_right _ _ n32, e32, eL]
  exact Int.bmod_eq_of_le (by omega) (by omega)
theorem earn_eq {i dd : Nat} {M N : Mem} {f : Nat → Int32} (hE : RE 40 M f) (hI : INV0 f) (hi : i < sz f) (hd : dd ≤ 3653) : PQ (mX5_earnedOf 40 (nI i) (nI dd) M) (mX11_earnedOf (nI i) (nI dd) (stF N f)) := by
  have h1 := hI.2.1.1; have hs := hI.2.1.2
  obtain ⟨r1, r2, r3, r4, r5, r6, r7, r8, r9, r10⟩ := hE.2 i hi
  obtain ⟨i0, i1, i2, i3, i4, i5, i6, i7, i8, i9, i10, i11, i12⟩ := hI.2.2.2.2.2 i hi
  have k1 := i0.1; have k2 := i0.2; have F1 := i4.1; have F2 := i4.2; have T1 := i5.1; have T2 := i5.2
  unfold mX5_earnedOf mX11_earnedOf
  rw [has_c hE h1 hs (by omega), if_pos hi]
  simp only [bnp_some]
  rw [if_neg (show ¬ (1 : Int32) = 0 by decide)]
  rw [chk_n (show i < 400 by omega) (by decide), chk_n (show i < 400 by omega) (by decide), chk_n (show i < 400 by omega) (by decide), nI_clamp (by omega), r1, r3, r5, r6, r8, show (4 : Int32) = nI 4 from rfl, show (5 : Int32) = nI 5 from rfl, show (0 : Int32) = nI 0 from rfl, show (2 : Int32) = nI 2 from rfl, show (7 : Int32) = nI 7 from rfl, m_entS (by omega) (by decide), m_entS (by omega) (by decide), m_entS (by omega) (by decide), m_entS (by omega) (by decide), m_entS (by omega) (by decide)]
  simp only [bnp_some]
  rw [chk_n (show i < 400 by omega) (by decide), chk_n (show i < 400 by omega) (by decide)]
  have eW : ∀ (g : Option Int32), (if nI dd ≤ fE f i 2 then some (nI 0) else some (fE f i 7)) = g → PQ g (if nI dd ≤ fE f i 2 then some (nI 0) else some (fE f i 7)) := fun g hg => by
    subst hg
    by_cases q : nI dd ≤ fE f i 2
    · rw [if_pos q]; exact ⟨_, rfl, rfl⟩
    · rw [if_neg q]; exact ⟨_, rfl, rfl⟩
  by_cases hk : (1 : Int32) < fE f i 0
  · rw [if_pos hk, if_pos hk]; exact eW _ rfl
  · rw [if_neg hk, if_neg hk]
    have hk2 : eK f i ≤ 1 := by
      rw [k1, show (1 : Int32) = nI 1 from rfl, nI_ltI (by omega) (by omega)] at hk; omega
    obtain ⟨j1, j2, j3⟩ := i8 hk2
    by_cases hL : eF f i < eT f i
    · have e1 : nI (eT f i) - nI (eF f i) = nI (eT f i - eF f i) := pk_sub (by omega)
      have c1 : (1 : Int32) ≤ fE f i 5 - fE f i 4 := by
        rw [T1, F1, e1, show (1 : Int32) = nI 1 from rfl, nI_leI (by omega) (by omega)]; omega
      have c2 : ¬ fE f i 5 - fE f i 4 = nI 0 := by
        rw [T1, F1, e1, nI_eq (by omega) (by omega)]; omega
      have g1 := gone_c hL T2 hd
      obtain ⟨r7', g2, g3⟩ := gone_m hL T2 hd
      rw [if_pos c1, if_neg c2, T1, F1]
      rw [show nI 0 = (0 : Int32) from rfl, g1, g2]
      simp only [bnp_some]
      rw [g3]
      simp only [bnp_some]
      have hd0 : ¬ Int32.toInt64 (nI (eT f i) - nI (eF f i)) = 0 := by
        intro h
        have := congrArg Int64.toInt h
        rw [Int32.toInt_toInt64, e1, nI_toInt (by omega)] at this
        have e : (0 : Int64).toInt = 0 := by decide
        rw [e] at this; omega
      rw [chk_n (show i < 400 by omega) (by decide), chk_n (show i < 400 by omega) (by decide), e1, dvi_n (by omega) (by omega)]
      unfold dvl
      rw [e1] at hd0
      rw [if_neg hd0, muldiv j2 j3 (by omega) (by omega) (by omega)]
      exact ⟨_, rfl, rfl⟩
    · have e0 : eT f i = eF f i := by omega
      have c0 : fE f i 5 - fE f i 4 = nI 0 := by rw [T1, F1, e0, pk_sub (Nat.le_refl _), Nat.sub_self]
      rw [c0, if_neg (show ¬ (1 : Int32) ≤ nI 0 by decide), if_pos rfl]
      exact eW _ rfl
theorem earned_go {n x dd : Nat} {M N : Mem} {f : Nat → Int32} (hE : RE 40 M f) (hI : INV0 f) (hd : dd ≤ 3653) : ∀ (d k i : Nat) (s : Int32), i + d = sz f → d < k → PQ (mX5_sumEarned_c5 n k 40 (nI x) (nI dd) s (nI i) M) (mX11_earned_c27 n k (nI x) (nI dd) s (nI i) (stF N f))
  | d, 0, _, _, _, h => absurd h (Nat.not_lt_zero _)
  | 0, k + 1, i, s, e0, h => by
    have h1 := hI.2.1.1; have hs := hI.2.1.2
    unfold mX5_sumEarned_c5 mX11_earned_c27
    rw [hE.1, h1, ck1, show Int32.toNatClampNeg (1 : Int32) = 1 from rfl, stF_f, h1, if_pos (by rw [nI_leI (by omega) (by omega)]; omega), if_pos (by rw [nI_leI (by omega) (by omega)]; omega)]
    exact ⟨_, rfl, rfl⟩
  | d + 1, k + 1, i, s, e0, h => by
    have h1 := hI.2.1.1; have hs := hI.2.1.2
    have ih := fun s => earned_go (n := n) (x := x) (N := N) hE hI hd d k (i + 1) s (by omega) (by omega)
    have hi : i < sz f := by omega
    obtain ⟨v, v1, v2⟩ := earn_eq (N := N) hE hI hi hd
    unfold mX5_sumEarned_c5 mX11_earned_c27
    rw [c_isOf hE h1 hs hi, hE.1, h1, if_neg (by rw [nI_leI (by omega) (by omega)]; omega)]
    simp (disch := omega) only [nI_lit, chk_n, nI_clamp, stF_f, h1, nI_leI, m_entS, bnp_some, nI_add, v1, v2]
    rw [if_neg (show ¬ sz f ≤ i by omega)]
    by_cases t : fE f i 1 = nI x
    · rw [if_pos t, if_neg (by decide), if_pos t]; exact ih _
    · rw [if_neg t, if_pos (by decide), if_neg t]; exact ih _
theorem q_earned {M N : Mem} {n : Nat} (hT : TOT M N) (hn : 20000 ≤ n) (a b : Int32) : PQ (mX10_earned n a b M) (mX11_earned n a b N) := by
  have e10 : ((1 : Int32) = 0) = False := eq_false (by decide)
  obtain ⟨⟨hb, hC, hM, hRS, hI⟩, -⟩ := id hT
  unfold mX10_earned mX11_earned mX5_sumEarned
  simp only [bnp_id]
  rcases T_beg hT a with ⟨x, hx, rfl, hA, e1, e3⟩ | ⟨e1, e3⟩
  · rw [e1, e3]
    simp only [bnp_some, e10, if_false]
    rcases in_c b 0 3653 3654 0 3653 (nI_lit 0) (nI_lit 3653) (nI_lit 3654) (by decide) (by decide) with ⟨q, hq1, hq, rfl, g1, g2, g3, g4⟩ | ⟨g4, g1⟩
    · rw [if_neg g1, if_pos (Int32.not_lt.mp g2), g4]
      simp only [bnp_some, e10, if_false]
      have := earned_go (n := n) (x := x) (N := N) hRS.2.2.2.2 hI.1 hq (sz (N 209)) n 0 0 (by omega) (by have := hI.1.2.1.2; omega)
      rw [stF_self] at this
      exact this
    · rw [g4]
      rcases g1 with g1 | ⟨g1, g2, g3⟩
      · rw [if_pos g1]; exact ⟨_, rfl, rfl⟩
      · rw [if_neg g1, if_neg (Int32.not_le.mpr g2)]; exact ⟨_, rfl, rfl⟩
  · rw [e1, e3]; exact ⟨_, rfl, rfl⟩
end
section
/-! late, open, owes; taxes -/
theorem T_ne2 {M N N' : Mem} {r : Int32} {mc : Option Int32} {mm : Option (Int32 × Mem)} (hT : TOT M N) (h1 : mc = some r) (h2 : mm = some (r, stF N' (N 209))) (h : NE N N') : PX M mc mm := ⟨r, _, h1, h2, T_ne hT h⟩
theorem q_late {M N : Mem} {n : Nat} (hT : TOT M N) (hn : 20000 ≤ n) (a b : Int32) : PX M (mX10_late n a b M) (mX11_late n a b N) := by
  have e10 : ((1 : Int32) = 0) = False := eq_false (by decide)
  obtain ⟨⟨hb, hC, hM, hRS, hI⟩, -⟩ := id hT
  have t1 := hI.1.1.1; have t2 := hI.1.1.2
  unfold mX10_late mX11_late
  rcases T_beg hT a with ⟨x, hx, rfl, hA, e1, e3⟩ | ⟨e1, e3⟩
  · have hRA := hRS.2.2.2.1 x hx
    have a12 := hRA.2.2.2.2.2.2.2.2.2.2.2.2.1
    rw [e1, e3]
    simp only [bnp_some, e10, if_false]
    rw [ck0, tn0, hRS.1, t1]
    rcases in_c b (nI (tD (N 209))) 3652 3653 (tD (N 209)) 3652 rfl (nI_lit 3652) (nI_lit 3653) t2 (by decide) with ⟨q, hq1, hq, rfl, g1, g2, g3, g4⟩ | ⟨g4, g1⟩
    · rw [if_neg g1, if_pos (Int32.not_lt.mp g2), g4]
      simp only [bnp_some, e10, if_false]
      rw [chk_n hx (by decide), nI_clamp (by omega), show 39 + 12 + x = 4 + 35 + 12 + x by omega, a12, c_late hRS.2.2.2.2 hI.1 (by omega) rfl]
      obtain ⟨N', l1, l2⟩ := m_late (N := N) (n := n) hI.1 hx (by omega) (nI q)
      rw [stF_self] at l1
      rw [l1]
      exact T_ne2 hT rfl rfl l2
    · rw [g4]
      rcases g1 with g1 | ⟨g1, g2, g3⟩
      · rw [if_pos g1]; exact ⟨_, _, rfl, rfl, hT⟩
      · rw [if_neg g1, if_neg (Int32.not_le.mpr g2)]; exact ⟨_, _, rfl, rfl, hT⟩
  · rw [e1, e3]; exact ⟨_, _, rfl, rfl, hT⟩
theorem c_open_go {n e x : Nat} {M : Mem} {f : Nat → Int32} (hE : RE 40 M f) (h1 : f 1 = nI (sz f)) (hs : sz f ≤ 400) (he : e < sz f) (hx : fE f e 1 = nI x) : ∀ (d k i : Nat) (l : Int32), i + d = e → d < k → l = LF f x 0 i (COV f x) → mX5_openOf_c34 n k 40 (nI e) l (nI i) M = some (fE f e 7 - mnC (LF f x 0 e (COV f x)) (fE f e 7))
  | d, 0, _, _, _, h, _ => absurd h (Nat.not_lt_zero _)
  | 0, k + 1, i, l, e0, h, hl => by
    have hi : i = e := by omega
    subst hi
    have r8 := (hE.2 i he).2.2.2.2.2.2.2.1
    unfold mX5_openOf_c34
    rw [if_pos (by rw [nI_leI (by omega) (by omega)]; omega), chk_n (show i < 400 by omega) (by decide), chk_n (show i < 400 by omega) (by decide), nI_clamp (by omega), r8, hl]
    rfl
  | d + 1, k + 1, i, l, e0, h, hl => by
    have ih := fun l => c_open_go (n := n) hE h1 hs he hx d k (i + 1) l (by omega) (by omega)
    have hi : i < sz f := by omega
    have r8 := (hE.2 i hi).2.2.2.2.2.2.2.1
    have r2 := (hE.2 e he).2.1
    have hL := LF_last f x i 0 (COV f x)
    rw [Nat.zero_add, ← hl] at hL
    unfold mX5_openOf_c34
    rw [if_neg (by rw [nI_leI (by omega) (by omega)]; omega), chk_n (show e < 400 by omega) (by decide), show (Int32.toNatClampNeg (nI e)) = e from nI_clamp (by omega), show M (40 + 2) e = nI x from r2.trans hx, c_isOf hE h1 hs hi]
    simp (disch := omega) only [bnp_some, chk_n, nI_clamp, r8]
    rw [show nI i + (1 : Int32) = nI (i + 1) from nI_add ..]
    by_cases t : fE f i 1 = nI x
    · simp only [t, if_true]
      rw [if_neg (show ¬ (1 : Int32) = 0 by decide)]
      by_cases t2 : fE f i 7 ≤ 0
      · have hno : ¬ opC f x i := fun q => absurd q.2 (Int32.not_lt.mpr t2)
        rw [if_neg hno] at hL
        rw [if_pos t2, ih l hL.symm]
      · have hyes : opC f x i := ⟨t, Int32.not_le.mp t2⟩
        rw [if_pos hyes] at hL
        rw [if_neg t2]
        exact ih _ hL.symm
    · have hno : ¬ opC f x i := fun q => t q.1
      rw [if_neg hno] at hL
      simp only [t, if_false, if_true]
      rw [ih l hL.symm]
theorem c_openOf {n e x : Nat} {M : Mem} {f : Nat → Int32} {p : Int32} (hE : RE 40 M f) (hI : INV0 f) (he : e < sz f) (hx : fE f e 1 = nI x) (hp : p = fA f x 9) (hn : 20000 ≤ n) : mX5_openOf n 40 (nI e) p M = some (OPV f x e (LF f x 0 e (COV f x))) := by
  have h1 := hI.2.1.1; have hs := hI.2.1.2
  have r8 := (hE.2 e he).2.2.2.2.2.2.2.1
  have r2 := (hE.2 e he).2.1
  unfold mX5_openOf
  rw [has_c hE h1 hs (by omega), if_pos he]
  simp only [bnp_some]
  rw [if_neg (show ¬ (1 : Int32) = 0 by decide), chk_n (show e < 400 by omega) (by decide), chk_n (show e < 400 by omega) (by decide), show (Int32.toNatClampNeg (nI e)) = e from nI_clamp (by omega), show M (40 + 8) e = fE f e 7 from r8, show M (40 + 2) e = nI x from r2.trans hx, c_cov hE hI (by omega) hp]
  simp only [bnp_some]
  unfold OPV
  by_cases t : 0 < fE f e 7
  · rw [if_pos t, if_pos ⟨hx, t⟩]
    exact c_open_go (n := n) hE h1 hs he hx e n 0 _ (by omega) (by omega) rfl
  · rw [if_neg t, if_neg (fun q => t q.2)]
theorem q_open {M N : Mem} {n : Nat} (hT : TOT M N) (hn : 20000 ≤ n) (a : Int32) : PX M (mX10_open n a M) (mX11_open n a N) := by
  have e10 : ((1 : Int32) = 0) = False := eq_false (by decide)
  obtain ⟨⟨hb, hC, hM, hRS, hI⟩, -⟩ := id hT
  have h1 := hI.1.2.1.1; have hs := hI.1.2.1.2
  have hE : RE 40 M (N 209) := hRS.2.2.2.2
  unfold mX10_open mX11_open
  have := ent_c (N := N) hE h1 hs a
  rw [stF_self] at this
  rcases this with ⟨e, he, rfl, e1, e3⟩ | ⟨e1, e3⟩
  · rw [e1, e3]
    simp only [bnp_some, e10, if_false]
    obtain ⟨i0, i1, i2⟩ := hI.1.2.2.2.2.2 e he
    have ho := i1.1; have hox := i1.2
    have r2 : M 42 e = nI (eO (N 209) e) := ((hE.2 e he).2.1).trans ho
    have a12 := (hRS.2.2.2.1 (eO (N 209) e) (by omega)).2.2.2.2.2.2.2.2.2.2.2.2.1
    have hent : mX11_entryOf (nI e) (1 : Int32) N = some (nI (eO (N 209) e)) := by
      rw [← ho]; exact m_entryOf (by omega) (by decide)
    obtain ⟨N', p1, p2, p3, p4⟩ := m_covers (N := N) (n := n) hI.1 (show eO (N 209) e < 6 by omega) (by omega)
    rw [stF_self] at p1
    rw [hent, chk_n (show e < 400 by omega) (by decide), show (Int32.toNatClampNeg (nI e)) = e from nI_clamp (by omega), r2, isAcc1 _ (by omega)]
    simp only [bnp_some, e10, if_false]
    rw [p1, chk_n (show eO (N 209) e < 6 by omega) (by decide), nI_clamp (by omega), show 39 + 12 + eO (N 209) e = 4 + 35 + 12 + eO (N 209) e by omega, a12, c_openOf hE hI.1 he ho rfl hn]
    simp only [bnp_some]
    rw [chk_n (show e < 400 by omega) (by decide), stF_o _ _ (by decide), p4 e he]
    exact T_ne2 hT rfl rfl p2
  · rw [e1, e3]; exact ⟨_, _, rfl, rfl, hT⟩
theorem owes_go {n x : Nat} {M N : Mem} {f : Nat → Int32} {w : Int32} (hE : RE 40 M f) (h1 : f 1 = nI (sz f)) (hs : sz f ≤ 400) (h21 : N 207 21 = LF f x 0 (sz f) (COV f x)) (hN : ∀ j, j < sz f → N 217 j = OPV f x j (LF f x 0 j (COV f x))) :
    ∀ (d k i m : Nat) (l q s : Int32), i + d = sz f → d < k → l = LF f x 0 i (COV f x) → m ≤ i → ((m = 0 ∧ q = -2) ∨ (0 < m ∧ ∃ j, j < 400 ∧ q = nI j)) → ∃ r, mX5_tellOpen_c21 n k 40 (nI x) w l (nI m) q s (nI i) M = some r ∧ mX11_owes_c36 n k w (nI m) q s (nI i) (stF N f) = some (r, stF N f)
  | d, 0, _, _, _, _, _, _, h, _, _, _ => absurd h (Nat.not_lt_zero _)
  | 0, k + 1, i, m, l, q, s, e0, h, hl, hm, hq => by
    have hi : i = sz f := by omega
    have hp : nI (sz f) ≤ nI i := by rw [nI_leI (by omega) (by omega)]; omega
    unfold mX5_tellOpen_c21 mX11_owes_c36
    rw [hE.1, h1, ck1, show Int32.toNatClampNeg (1 : Int32) = 1 from rfl, stF_f, h1, if_pos hp, if_pos hp, show stF N f 207 = N 207 from stF_o _ _ (by decide), h21, hl, hi]
    by_cases c0 : w = 0
    · rw [if_pos c0, if_pos c0]; exact ⟨_, rfl, rfl⟩
    · rw [if_neg c0, if_neg c0]
      by_cases c1 : w = 1
      · rw [if_pos c1, if_pos c1]; exact ⟨_, rfl, rfl⟩
      · rw [if_neg c1, if_neg c1]
        by_cases c2 : w = 2
        · rw [if_pos c2, if_pos c2]; exact ⟨_, rfl, rfl⟩
        · rw [if_neg c2, if_neg c2]; exact ⟨_, rfl, rfl⟩
  | d + 1, k + 1, i, m, l, q, s, e0, h, hl, hm, hq => by
    have ih := fun m l q s => owes_go (n := n) (w := w) hE h1 hs h21 hN d k (i + 1) m l q s (by omega) (by omega)
    have hi : i < sz f := by omega
    have r8 : M (40 + 8) i = fE f i 7 := (hE.2 i hi).2.2.2.2.2.2.2.1
    have hL := LF_last f x i 0 (COV f x)
    rw [Nat.zero_add, ← hl] at hL
    have hNi := hN i hi
    rw [← hl] at hNi
    have hp : ¬ nI (sz f) ≤ nI i := by rw [nI_leI (by omega) (by omega)]; omega
    unfold mX5_tellOpen_c21 mX11_owes_c36
    rw [c_isOf hE h1 hs hi, hE.1, h1, ck1, show Int32.toNatClampNeg (1 : Int32) = 1 from rfl, stF_f, h1, if_neg hp, if_neg hp, show stF N f 217 = N 217 from stF_o _ _ (by decide)]
    simp (disch := omega) only [bnp_some, chk_n, nI_clamp, r8, hNi]
    rw [show nI i + (1 : Int32) = nI (i + 1) from nI_add .., show nI m + (1 : Int32) = nI (m + 1) from nI_add ..]
    by_cases hyes : opC f x i
    · have hO : OPV f x i l = fE f i 7 - mnC l (fE f i 7) := if_pos hyes
      rw [if_pos hyes] at hL
      rw [hO, if_pos hyes.1, if_neg (show ¬ (1 : Int32) = 0 by decide), if_neg (Int32.not_le.mpr hyes.2)]
      show ∃ r, (if fE f i 7 ≤ mnC l (fE f i 7) then mX5_tellOpen_c21 n k 40 (nI x) w (l - mnC l (fE f i 7)) (nI m) q s (nI (i + 1)) M else if nI m = 0 then mX5_tellOpen_c21 n k 40 (nI x) w (l - mnC l (fE f i 7)) (nI (m + 1)) (nI i) (s + (fE f i 7 - mnC l (fE f i 7))) (nI (i + 1)) M else mX5_tellOpen_c21 n k 40 (nI x) w (l - mnC l (fE f i 7)) (nI (m + 1)) q (s + (fE f i 7 - mnC l (fE f i 7))) (nI (i + 1)) M) = some r ∧ _
      have hle : mnC l (fE f i 7) ≤ fE f i 7 := by
        unfold mnC
        by_cases z : fE f i 7 < l
        · rw [if_pos z]; exact Int32.le_refl _
        · rw [if_neg z]; exact Int32.not_lt.mp z
      by_cases t : fE f i 7 ≤ mnC l (fE f i 7)
      · have eq : mnC l (fE f i 7) = fE f i 7 := Int32.le_antisymm hle t
        rw [if_pos t]
        have z0 : fE f i 7 - mnC l (fE f i 7) = 0 := by rw [eq, Int32.sub_self]
        rw [if_pos z0]
        exact ih m _ q s hL.symm (by omega) hq
      · rw [if_neg t]
        have z0 : ¬ fE f i 7 - mnC l (fE f i 7) = 0 := by
          intro z
          have : fE f i 7 = mnC l (fE f i 7) := by
            have := congrArg (· + mnC l (fE f i 7)) z
            simp only [Int32.sub_add_cancel, Int32.zero_add] at this
            exact this
          exact t (by rw [← this]; exact Int32.le_refl _)
        rw [if_neg z0]
        rcases hq with ⟨q1, q2⟩ | ⟨q1, j, j1, j2⟩
        · have c1 : nI m = 0 := by rw [q1]; rfl
          have c2 : ¬ (0 : Int32) ≤ q := by rw [q2]; decide
          rw [if_pos c1, if_neg c2]
          exact ih (m + 1) _ (nI i) _ hL.symm (by omega) (Or.inr ⟨by omega, i, by omega, rfl⟩)
        · have c1 : ¬ nI m = 0 := by rw [show (0 : Int32) = nI 0 from rfl, nI_eq (by omega) (by omega)]; omega
          have c2 : (0 : Int32) ≤ q := by rw [j2, show (0 : Int32) = nI 0 from rfl, nI_leI (by omega) (by omega)]; omega
          rw [if_neg c1, if_pos c2]
          exact ih (m + 1) _ q _ hL.symm (by omega) (Or.inr ⟨by omega, j, j1, j2⟩)
    · have hO : OPV f x i l = 0 := if_neg hyes
      rw [if_neg hyes] at hL
      rw [hO, if_pos rfl]
      by_cases t : fE f i 1 = nI x
      · have t2 : fE f i 7 ≤ 0 := Int32.not_lt.mp (fun z => hyes ⟨t, z⟩)
        rw [if_pos t, if_neg (show ¬ (1 : Int32) = 0 by decide), if_pos t2]
        exact ih m _ q s hL.symm (by omega) hq
      · rw [if_neg t, if_pos rfl]
        exact ih m _ q s hL.symm (by omega) hq
theorem q_owes {M N : Mem} {n : Nat} (hT : TOT M N) (hn : 20000 ≤ n) (a b : Int32) : PX M (mX10_owes n a b M) (mX11_owes n a b N) := by
  have e10 : ((1 : Int32) = 0) = False := eq_false (by decide)
  obtain ⟨⟨hb, hC, hM, hRS, hI⟩, -⟩ := id hT
  have h1 := hI.1.2.1.1; have hs := hI.1.2.1.2
  unfold mX10_owes mX11_owes
  rcases T_beg hT a with ⟨x, hx, rfl, hA, e1, e3⟩ | ⟨e1, e3⟩
  · have a12 := (hRS.2.2.2.1 x hx).2.2.2.2.2.2.2.2.2.2.2.2.1
    rw [e1, e3]
    simp only [bnp_some, e10, if_false]
    rcases in_c b 0 3 4 0 3 rfl rfl rfl (by decide) (by decide) with ⟨q, hq1, hq, rfl, g1, g2, g3, g4⟩ | ⟨g4, g1⟩
    · rw [if_neg g1, if_pos (Int32.not_lt.mp g2), g4]
      simp only [bnp_some, e10, if_false]
      obtain ⟨N', p1, p2, p3, p4⟩ := m_covers (N := N) (n := n) hI.1 hx (by omega)
      rw [stF_self] at p1
      obtain ⟨r, o1, o2⟩ := owes_go (n := n) (w := nI q) hRS.2.2.2.2 h1 hs p3 p4 (sz (N 209)) n 0 0 (COV (N 209) x) (-2) 0 (by omega) (by omega) rfl (Nat.le_refl _) (Or.inl ⟨rfl, rfl⟩)
      rw [p1, chk_n hx (by decide), nI_clamp (by omega), show 39 + 12 + x = 4 + 35 + 12 + x by omega, a12]
      unfold mX5_tellOpen
      rw [c_cov hRS.2.2.2.2 hI.1 (by omega) rfl]
      simp only [bnp_some, bnp_id]
      exact T_ne2 hT o1 o2 p2
    · rw [g4]
      rcases g1 with g1 | ⟨g1, g2, g3⟩
      · rw [if_pos g1]; exact ⟨_, _, rfl, rfl, hT⟩
      · rw [if_neg g1, if_neg (Int32.not_le.mpr g2)]; exact ⟨_, _, rfl, rfl, hT⟩
  · rw [e1, e3]; exact ⟨_, _, rfl, rfl, hT⟩
/-! taxes -/
def rtF (f : Nat → Int32) (day : Int32) : Nat → Nat → Int32 → Int32
  | _, 0, r => r
  | i, d + 1, r => rtF f day (i + 1) d (if day < f (7 + i) then r else f (11 + i))
def RATE (f : Nat → Int32) (day : Int32) : Int32 := rtF f day 0 (nX f) 0
theorem rtF_s (f : Nat → Int32) (day : Int32) (i d : Nat) (r : Int32) : rtF f day i (d + 1) r = rtF f day (i + 1) d (if day < f (7 + i) then r else f (11 + i)) := rfl
theorem c_rate_go {n t : Nat} {M : Mem} {f : Nat → Int32} {day : Int32} (hT : RT t M f) (hI : IT f) : ∀ (d k i : Nat) (r : Int32), i + d = nX f → d < k → mX9_rateOn_c4 n k t day r (nI i) M = some (rtF f day i d r)
  | d, 0, _, _, _, h => absurd h (Nat.not_lt_zero _)
  | 0, k + 1, i, r, e, h => by
    have h6 := hI.2.2.2.1.1; have h6' := hI.2.2.2.1.2
    unfold mX9_rateOn_c4
    rw [hT.2.2.2.1, h6, if_pos (by rw [nI_leI (by omega) (by omega)]; omega)]; rfl
  | d + 1, k + 1, i, r, e, h => by
    have h6 := hI.2.2.2.1.1; have h6' := hI.2.2.2.1.2
    have ih := fun r => c_rate_go (n := n) (day := day) hT hI d k (i + 1) r (by omega) (by omega)
    obtain ⟨r1, r2⟩ := hT.2.2.2.2.1 i (by omega)
    unfold mX9_rateOn_c4
    rw [hT.2.2.2.1, h6, if_neg (by rw [nI_leI (by omega) (by omega)]; omega), if_neg (by rw [show (4 : Int32) = nI 4 from rfl, nI_leI (by omega) (by omega)]; omega), chk_n (show i < 4 by omega) (by decide), chk_n (show i < 4 by omega) (by decide), nI_clamp (by omega), r1, r2, show nI i + (1 : Int32) = nI (i + 1) from nI_add .., rtF_s]
    by_cases q : day < f (7 + i)
    · rw [if_pos q, if_pos q, ih]
    · rw [if_neg q, if_neg q, ih]
theorem m_rate_go {n : Nat} {N : Mem} {f : Nat → Int32} {day : Int32} (hI : IT f) : ∀ (d k i : Nat) (r : Int32), i + d = nX f → d < k → mX11_rateOn_c4 n k day r (nI i) (stF N f) = some (rtF f day i d r)
  | d, 0, _, _, _, h => absurd h (Nat.not_lt_zero _)
  | 0, k + 1, i, r, e, h => by
    have h6 := hI.2.2.2.1.1; have h6' := hI.2.2.2.1.2
    unfold mX11_rateOn_c4
    simp (disch := omega) only [nI_lit, chk_n, nI_clamp, stF_f, h6]
    rw [if_pos (by rw [nI_leI (by omega) (by omega)]; omega)]; rfl
  | d + 1, k + 1, i, r, e, h => by
    have h6 := hI.2.2.2.1.1; have h6' := hI.2.2.2.1.2
    have ih := fun r => m_rate_go (n := n) (N := N) (day := day) hI d k (i + 1) r (by omega) (by omega)
    unfold mX11_rateOn_c4
    simp (disch := omega) only [nI_lit, chk_n, nI_clamp, stF_f, h6, nI_add]
    rw [if_neg (by rw [nI_leI (by omega) (by omega)]; omega), rtF_s]
    by_cases q : day < f (7 + i)
    · rw [if_pos q, if_pos q, ih]
    · rw [if_neg q, if_neg q, ih]
theorem c_rate {n t : Nat} {M : Mem} {f : Nat → Int32} (day : Int32) (hT : RT t M f) (hI : IT f) (hn : 500 ≤ n) : mX9_rateOn n t day M = some (RATE f day) :=
  c_rate_go (n := n) hT hI (nX f) n 0 0 (by omega) (by have := hI.2.2.2.1.2; omega)
theorem m_rate {n : Nat} {N : Mem} {f : Nat → Int32} (day : Int32) (hI : IT f) (hn : 500 ≤ n) : mX11_rateOn n day (stF N f) = some (RATE f day) :=
  m_rate_go (n := n) hI (nX f) n 0 0 (by omega) (by have := hI.2.2.2.1.2; omega)
abbrev txC (f : Nat → Int32) (a rt : Int32) (i : Nat) : Prop := fE f i 1 = a ∧ RATE f (fE f i 2) = rt
def SX (f : Nat → Int32) (a rt : Int32) : Nat → Nat → Int64 → Int64
  | _, 0, s => s
  | i, d + 1, s => SX f a rt (i + 1) d (if txC f a rt i then s + Int32.toInt64 (fE f i 7) else s)
theorem SX_s (f : Nat → Int32) (a rt : Int32) (i d : Nat) (s : Int64) : SX f a rt i (d + 1) s = SX f a rt (i + 1) d (if txC f a rt i then s + Int32.toInt64 (fE f i 7) else s) := rfl
theorem SX_last (f : Nat → Int32) (a rt : Int32) : ∀ (d i : Nat) (s : Int64), SX f a rt i (d + 1) s = (if txC f a rt (i + d) then SX f a rt i d s + Int32.toInt64 (fE f (i + d) 7) else SX f a rt i d s)
  | 0, i, s => rfl
  | d + 1, i, s => by
    rw [SX_s, SX_last f a rt d (i + 1), SX_s]
    rw [show i + 1 + d = i + (d + 1) by omega]
theorem c_hasRate {n b i : Nat} {M : Mem} {f : Nat → Int32} {a rt : Int32} (hRS : RS b M f) (hI : INV0 f) (hi : i < sz f) (hn : 500 ≤ n) : mX1_hasRate n b (nI i) a rt M = some (if txC f a rt i then 1 else 0) := by
  have h1 := hI.2.1.1; have hs := hI.2.1.2
  have r3 := (hRS.2.2.2.2.2 i hi).2.2.1
  unfold mX1_hasRate
  rw [c_isOf hRS.2.2.2.2 h1 hs hi, chk_n (show i < 400 by omega) (by decide), nI_clamp (by omega), r3, c_rate _ hRS.2.2.1 hI.2.2.2.1 hn]
  simp only [bnp_some]
  by_cases t : fE f i 1 = a
  · rw [if_pos t, if_neg (show ¬ (1 : Int32) = 0 by decide)]
    by_cases t2 : RATE f (fE f i 2) = rt
    · rw [if_pos t2, if_pos ⟨t, t2⟩]
    · rw [if_neg t2, if_neg (fun q => t2 q.2)]
  · rw [if_neg t, if_pos rfl, if_neg (fun q => t q.1)]
theorem c_taxes_go {n : Nat} {M : Mem} {f : Nat → Int32} {a rt : Int32} (hRS : RS 4 M f) (hI : INV0 f) (hn : 500 ≤ n) : ∀ (d k i : Nat) (s : Int64), i + d = sz f → d < k → mX1_taxesOf_c5 n k 4 a rt s (nI i) M = some (Int64.toInt32 ((SX f a rt i d s * Int32.toInt64 rt) / (100 : Int64)))
  | d, 0, _, _, _, h => absurd h (Nat.not_lt_zero _)
  | 0, k + 1, i, s, e, h => by
    have h1 := hI.2.1.1; have hs := hI.2.1.2
    unfold mX1_taxesOf_c5
    rw [hRS.2.2.2.2.1, h1, if_pos (by rw [nI_leI (by omega) (by omega)]; omega)]; rfl
  | d + 1, k + 1, i, s, e, h => by
    have h1 := hI.2.1.1; have hs := hI.2.1.2
    have ih := fun s => c_taxes_go (n := n) (a := a) (rt := rt) hRS hI hn d k (i + 1) s (by omega) (by omega)
    have hi : i < sz f := by omega
    have r8 := (hRS.2.2.2.2.2 i hi).2.2.2.2.2.2.2.1
    unfold mX1_taxesOf_c5
    rw [hRS.2.2.2.2.1, h1, if_neg (by rw [nI_leI (by omega) (by omega)]; omega), c_hasRate hRS hI hi hn, chk_n (show i < 400 by omega) (by decide), nI_clamp (by omega), r8, show nI i + (1 : Int32) = nI (i + 1) from nI_add .., SX_s]
    simp only [bnp_some]
    by_cases t : txC f a rt i
    · rw [if_pos t, if_neg (show ¬ (1 : Int32) = 0 by decide), if_pos t, ih]
    · rw [if_neg t, if_pos rfl, if_neg t, ih]
theorem m_taxes_go {n m : Nat} {N : Mem} {f : Nat → Int32} {a rt : Int32} (hI : INV0 f) (hm : m ≤ sz f) (hn : 500 ≤ n) : ∀ (d k i : Nat) (s : Int64), i + d = m → d < k → mX11_taxAhead_c6 n k a rt (nI m) s (nI i) (stF N f) = some (Int64.toInt32 ((SX f a rt i d s * Int32.toInt64 rt) / (100 : Int64)))
  | d, 0, _, _, _, h => absurd h (Nat.not_lt_zero _)
  | 0, k + 1, i, s, e, h => by
    have h1 := hI.2.1.1; have hs := hI.2.1.2
    unfold mX11_taxAhead_c6
    rw [if_pos (by rw [nI_leI (by omega) (by omega)]; omega)]; rfl
  | d + 1, k + 1, i, s, e, h => by
    have h1 := hI.2.1.1; have hs := hI.2.1.2
    have ih := fun s => m_taxes_go (n := n) (N := N) (a := a) (rt := rt) hI hm hn d k (i + 1) s (by omega) (by omega)
    have hi : i < sz f := by omega
    unfold mX11_taxAhead_c6
    rw [if_neg (by rw [nI_leI (by omega) (by omega)]; omega), show (1 : Int32) = nI 1 from rfl, show (2 : Int32) = nI 2 from rfl, show (7 : Int32) = nI 7 from rfl, m_entS (by omega) (by decide), m_entS (by omega) (by decide), m_entS (by omega) (by decide), nI_add, SX_s]
    simp only [bnp_some]
    rw [m_rate _ hI.2.2.2.1 hn]
    simp only [bnp_some]
    by_cases t : fE f i 1 = a
    · rw [if_pos t]
      by_cases t2 : RATE f (fE f i 2) = rt
      · rw [if_pos t2, if_pos ⟨t, t2⟩, ih]
      · rw [if_neg t2, if_neg (fun q => t2 q.2), ih]
    · rw [if_neg t, if_neg (fun q => t q.1), ih]
theorem q_taxes {M N : Mem} {n : Nat} (hT : TOT M N) (hn : 20000 ≤ n) (a b : Int32) : PQ (mX10_taxes n a b M) (mX11_taxes n a b N) := by
  have e10 : ((1 : Int32) = 0) = False := eq_false (by decide)
  obtain ⟨⟨hb, hC, hM, hRS, hI⟩, -⟩ := id hT
  have h1 := hI.1.2.1.1; have hs := hI.1.2.1.2
  unfold mX10_taxes mX11_taxes mX1_taxesOf mX11_taxAhead
  simp only [bnp_id]
  rcases T_beg hT a with ⟨x, hx, rfl, hA, e1, e3⟩ | ⟨e1, e3⟩
  · rw [e1, e3]
    simp only [bnp_some, e10, if_false]
    rcases in_c b 0 100 101 0 100 rfl rfl rfl (by decide) (by decide) with ⟨q, hq1, hq, rfl, g1, g2, g3, g4⟩ | ⟨g4, g1⟩
    · rw [if_neg g1, if_pos (Int32.not_lt.mp g2), g4]
      simp only [bnp_some, e10, if_false]
      have c := c_taxes_go (n := n) (a := nI x) (rt := nI q) hRS hI.1 (by omega) (sz (N 209)) n 0 0 (by omega) (by omega)
      have m := m_taxes_go (n := n) (N := N) (a := nI x) (rt := nI q) hI.1 (Nat.le_refl _) (by omega) (sz (N 209)) n 0 0 (by omega) (by omega)
      rw [stF_self] at m
      rw [ck1, show Int32.toNatClampNeg (1 : Int32) = 1 from rfl, h1]
      exact ⟨_, c, m⟩
    · rw [g4]
      rcases g1 with g1 | ⟨g1, g2, g3⟩
      · rw [if_pos g1]; exact ⟨_, rfl, rfl⟩
      · rw [if_neg g1, if_neg (Int32.not_le.mpr g2)]; exact ⟨_, rfl, rfl⟩
  · rw [e1, e3]; exact ⟨_, rfl, rfl⟩
theorem c_tax_go {n e : Nat} {M : Mem} {f : Nat → Int32} {a rt : Int32} (hRS : RS 4 M f) (hI : INV0 f) (he : e < sz f) (hn : 500 ≤ n) : ∀ (d k i : Nat) (s : Int64), i + d = e → d < k → mX1_taxOf_c47 n k 4 (nI e) a rt s (nI i) M = some (Int64.toInt32 (((SX f a rt i d s + Int32.toInt64 (fE f e 7)) * Int32.toInt64 rt) / (100 : Int64) - (SX f a rt i d s * Int32.toInt64 rt) / (100 : Int64)))
  | d, 0, _, _, _, h => absurd h (Nat.not_lt_zero _)
  | 0, k + 1, i, s, e0, h => by
    have h1 := hI.2.1.1; have hs := hI.2.1.2
    have r8 := (hRS.2.2.2.2.2 e he).2.2.2.2.2.2.2.1
    unfold mX1_taxOf_c47
    rw [if_pos (by rw [nI_leI (by omega) (by omega)]; omega), chk_n (show e < 400 by omega) (by decide), nI_clamp (by omega), r8]; rfl
  | d + 1, k + 1, i, s, e0, h => by
    have h1 := hI.2.1.1; have hs := hI.2.1.2
    have ih := fun s => c_tax_go (n := n) (a := a) (rt := rt) hRS hI he hn d k (i + 1) s (by omega) (by omega)
    have hi : i < sz f := by omega
    have r8 := (hRS.2.2.2.2.2 i hi).2.2.2.2.2.2.2.1
    unfold mX1_taxOf_c47
    rw [if_neg (by rw [nI_leI (by omega) (by omega)]; omega), c_hasRate hRS hI hi hn, chk_n (show i < 400 by omega) (by decide), show Int32.toNatClampNeg (nI i) = i from nI_clamp (by omega), r8, show nI i + (1 : Int32) = nI (i + 1) from nI_add .., SX_s]
    simp only [bnp_some]
    by_cases t : txC f a rt i
    · rw [if_pos t, if_neg (show ¬ (1 : Int32) = 0 by decide), if_pos t, ih]
    · rw [if_neg t, if_pos rfl, if_neg t, ih]
theorem q_tax {M N : Mem} {n : Nat} (hT : TOT M N) (hn : 20000 ≤ n) (a : Int32) : PQ (mX10_tax n a M) (mX11_tax n a N) := by
  have e10 : ((1 : Int32) = 0) = False := eq_false (by decide)
  obtain ⟨⟨hb, hC, hM, hRS, hI⟩, -⟩ := id hT
  have h1 := hI.1.2.1.1; have hs := hI.1.2.1.2
  have hE : RE 40 M (N 209) := hRS.2.2.2.2
  have hIT := hI.1.2.2.2.1
  unfold mX10_tax mX11_tax mX1_taxOf mX11_taxAhead
  simp only [bnp_id]
  have := ent_c (N := N) hE h1 hs a
  rw [stF_self] at this
  rcases this with ⟨e, he, rfl, e1, e3⟩ | ⟨e1, e3⟩
  · rw [show (4 + 36) = 40 from rfl, e1, e3]
    simp only [bnp_some, e10, if_false]
    obtain ⟨r1, r2, r3, r4, r5, r6, r7, r8, r9, r10⟩ := hE.2 e he
    have hent : ∀ w, w < 10 → mX11_entryOf (nI e) (nI w) N = some (fE (N 209) e w) := fun w hw => m_entryOf (by omega) hw
    have mr : ∀ day, mX11_rateOn n day N = some (RATE (N 209) day) := fun day => by
      have := m_rate (n := n) (N := N) day hIT (by omega)
      rw [stF_self] at this
      exact this
    have mt : ∀ (a rt : Int32) (m : Nat), m ≤ sz (N 209) → mX11_taxAhead_c6 n n a rt (nI m) 0 0 N = some (Int64.toInt32 ((SX (N 209) a rt 0 m 0 * Int32.toInt64 rt) / (100 : Int64))) := fun a rt m hm => by
      have := m_taxes_go (n := n) (N := N) (a := a) (rt := rt) hI.1 hm (by omega) m n 0 0 (by omega) (by omega)
      rw [stF_self] at this
      exact this
    rw [show mX11_entryOf (nI e) 1 N = _ from hent 1 (by decide), show mX11_entryOf (nI e) 2 N = _ from hent 2 (by decide), chk_n (show e < 400 by omega) (by decide), chk_n (show e < 400 by omega) (by decide), nI_clamp (by omega), show M (40 + 3) e = _ from r3, show M (40 + 2) e = _ from r2, show (4 + 1) = 5 from rfl, c_rate _ hRS.2.2.1 hIT (by omega)]
    simp only [bnp_some]
    rw [mr]
    simp only [bnp_some]
    rw [show nI e + (1 : Int32) = nI (e + 1) from nI_add .., mt _ _ _ (by omega), mt _ _ _ (by omega)]
    simp only [bnp_some]
    have c := c_tax_go (n := n) (a := fE (N 209) e 1) (rt := RATE (N 209) (fE (N 209) e 2)) hRS hI.1 he (by omega) e n 0 0 (by omega) (by omega)
    have hL := SX_last (N 209) (fE (N 209) e 1) (RATE (N 209) (fE (N 209) e 2)) e 0 0
    rw [Nat.zero_add, if_pos ⟨rfl, rfl⟩] at hL
    refine ⟨_, c, ?_⟩
    rw [hL, Int64.toInt32_sub]
  · rw [show (4 + 36) = 40 from rfl, e1, e3]; exact ⟨_, rfl, rfl⟩
end
section
/-! quote, best; what is asked of accounts, of THE BOOK, of days -/
def QV (f : Nat → Int32) (x p : Nat) (dy : Int32) : Int32 := PTE (WO f x p) (aN f x) (aD f x) dy - PTE (WO f x (aB f x)) (aN f x) (aD f x) dy
theorem c_qu {n x p : Nat} {M : Mem} {f : Nat → Int32} (dy : Int32) (hRS : RS 4 M f) (hI : INV0 f) (hx : x < 6) (hA : IA1 f x) (hp : p < 6) (hn : 500 ≤ n) : mX1_quoteOn n 4 (4 + 35 + 12 + x) (nI p) dy M = some (QV f x p dy) := by
  obtain ⟨i0, i1, i2, i3, i4, i5, i6, i7, i8, i9, i10, i11, i12, i13, i14, i15⟩ := id hA
  have hRA := hRS.2.2.2.1 x hx
  have hb : aB f x < 6 := by have := i1.2; omega
  unfold mX1_quoteOn
  rw [show (4 + 1) = 5 from rfl, c_worth hRS.2.2.1 hI.2.2.2.1 hRA hp i9 (by omega)]
  simp only [bnp_some]
  rw [c_part hRA hA, hRA.2.2.2.2.1, i1.1]
  simp only [bnp_some]
  rw [c_worth hRS.2.2.1 hI.2.2.2.1 hRA hb i9 (by omega)]
  simp only [bnp_some]
  rw [c_part hRA hA]; rfl
theorem m_qu {n x p dy : Nat} {N : Mem} {f : Nat → Int32} (hM : CalM N) (hI : INV0 f) (hx : x < 6) (hA : IA1 f x) (hp : p < 6) (hd : dy ≤ 3652) (h1 : aD f x ≤ dy) (h2 : (dy : Int) < NT (aN f x) (aD f x)) (hn : 500 ≤ n) : mX11_quoteOf n (nI x) (nI p) (nI dy) (stF N f) = some (QV f x p (nI dy)) := by
  obtain ⟨i0, i1, i2, i3, i4, i5, i6, i7, i8, i9, i10, i11, i12, i13, i14, i15⟩ := id hA
  have hb : aB f x < 6 := by have := i1.2; omega
  have l := fun q (hq : q < 6) => m_left (n := n) hM hx hq (hI.2.2.2.1.2.2.2.2.2 q hq) hA hd h1 h2 (by omega)
  unfold mX11_quoteOf
  rw [show (1 : Int32) = nI 1 from rfl, m_ofS hx (by decide), i1.1]
  simp only [bnp_some]
  by_cases q : p = aB f x
  · rw [if_pos (by rw [q])]
    unfold QV
    rw [q, Int32.sub_self]
  · rw [if_neg (by rw [nI_eq (by omega) (by omega)]; exact q), l p hp, l _ hb]
    rfl
/-- both sides of running, of the total relation -/
theorem T_run {M N : Mem} (hT : TOT M N) (a : Int32) : (∃ x, x < 6 ∧ a = nI x ∧ IA1 (N 209) x ∧ (tD (N 209) : Int) < NT (aN (N 209) x) (aD (N 209) x) ∧ mX1_isRunning 4 a M = some 1 ∧ mX11_isOn a N = some 1) ∨ (mX1_isRunning 4 a M = some 0 ∧ mX11_isOn a N = some 0) := by
  have h := run_c hT.1 a
  rw [stF_self] at h
  rcases h with ⟨x, hx, rfl, hA, h0, hr, e1, e2, e3, e4⟩ | ⟨x, hx, rfl, hA, h0, e1, e2, e3, e4⟩ | ⟨e1, e2, e3, e4⟩
  · exact Or.inl ⟨x, hx, rfl, hA, hr, e2, e4⟩
  · exact Or.inr ⟨e2, e4⟩
  · exact Or.inr ⟨e2, e4⟩
theorem q_quote {M N : Mem} {n : Nat} (hT : TOT M N) (hn : 20000 ≤ n) (a b c : Int32) : PQ (mX10_quote n a b c M) (mX11_quote n a b c N) := by
  have e10 : ((1 : Int32) = 0) = False := eq_false (by decide)
  obtain ⟨⟨hb, hC, hM, hRS, hI⟩, -⟩ := id hT
  have t1 := hI.1.1.1; have t2 := hI.1.1.2
  unfold mX10_quote mX11_quote
  simp only [bnp_id]
  rcases T_run hT a with ⟨x, hx, rfl, hA, hr, e1, e3⟩ | ⟨e1, e3⟩
  · rw [e1, e3]
    simp only [bnp_some, e10, if_false]
    rcases isPlan_c b with ⟨p, -, hp, rfl, g1, g2⟩ | ⟨g1, g2⟩
    · rw [g1, g2]
      simp only [bnp_some, e10, if_false]
      obtain ⟨T, hT1, eT, hT2, hT3⟩ := NT_nI hA hr
      have a9 := (hRS.2.2.2.1 x hx).2.2.2.2.2.2.2.2.2.1
      have hof : mX11_of (nI x) (5 : Int32) N = some (nI T) := by rw [← eT]; exact m_of hx (by decide)
      rw [ck0, tn0, hRS.1, t1, hof, chk_n hx (by decide), nI_clamp (by omega), show 39 + 12 + x = 4 + 35 + 12 + x by omega, a9, eT]
      simp only [bnp_some]
      have eT1 : nI T - 1 = nI (T - 1) := by rw [show (1 : Int32) = nI 1 from rfl]; exact pk_sub (by omega)
      rw [eT1]
      rcases in_c c (nI (tD (N 209))) (nI (T - 1)) (nI (T - 1 + 1)) (tD (N 209)) (T - 1) rfl rfl rfl (by omega) (by omega) with ⟨q, hq1, hq, rfl, g1, g2, g3, g4⟩ | ⟨g4, g1⟩
      · have c1 : nI q < nI T := by rw [nI_ltI (by omega) (by omega)]; omega
        rw [if_neg g1, if_pos c1, g4]
        simp only [bnp_some, e10, if_false]
        have m := m_qu (n := n) (p := p) (dy := q) hM hI.1 hx hA (by omega) (by omega) (by have := hA.2.2.2.2.2.2.2.2.2.2.2.2.2.2.1; omega) (by have := hA.2.2.2.2.2.2.1; rw [eT] at this; have l := LT_NT hA.2.2.2.1 hA.2.2.2.2.2.1.2; have z := congrArg Int32.toInt this; rw [nI_toInt (by omega), iI_toInt (by omega) (by omega)] at z; omega) (by omega)
        rw [stF_self] at m
        exact ⟨_, c_qu (n := n) (nI q) hRS hI.1 hx hA (by omega) (by omega), m⟩
      · rw [g4]
        simp only [bnp_some, if_true]
        rcases g1 with g1 | ⟨g1, g2, g3⟩
        · rw [if_pos g1]; exact ⟨_, rfl, rfl⟩
        · have c1 : ¬ c < nI T := by
            rw [show T - 1 + 1 = T by omega] at g3
            exact Int32.not_lt.mpr g3
          rw [if_neg g1, if_neg c1]; exact ⟨_, rfl, rfl⟩
    · rw [g1, g2]; exact ⟨_, rfl, rfl⟩
  · rw [e1, e3]; exact ⟨_, rfl, rfl⟩
/-! best -/
def bD (f : Nat → Int32) (x p : Nat) : Nat → Nat → Nat → Nat
  | _, 0, best => best
  | i, d + 1, best => bD f x p (i + 1) d (if QV f x p (nI best) ≤ QV f x p (nI i) then best else i)
def bP (f : Nat → Int32) (x : Nat) : Nat → Nat → Nat → Nat
  | _, 0, best => best
  | i, d + 1, best => bP f x (i + 1) d (if QV f x best (f 0) ≤ QV f x i (f 0) then best else i)
theorem bD_s (f : Nat → Int32) (x p i d best : Nat) : bD f x p i (d + 1) best = bD f x p (i + 1) d (if QV f x p (nI best) ≤ QV f x p (nI i) then best else i) := rfl
theorem bP_s (f : Nat → Int32) (x i d best : Nat) : bP f x i (d + 1) best = bP f x (i + 1) d (if QV f x best (f 0) ≤ QV f x i (f 0) then best else i) := rfl
theorem bD_le {f : Nat → Int32} {x p lo T : Nat} : ∀ (d i best : Nat), i + d ≤ T → lo ≤ best → lo ≤ i → best < T → lo ≤ bD f x p i d best ∧ bD f x p i d best < T
  | 0, i, best, _, h1, _, h2 => ⟨h1, h2⟩
  | d + 1, i, best, h, h1, h2, h3 => by
    rw [bD_s]
    split
    · exact bD_le d (i + 1) best (by omega) h1 (by omega) h3
    · exact bD_le d (i + 1) i (by omega) h2 (by omega) (by omega)
theorem bP_le {f : Nat → Int32} {x : Nat} : ∀ (d i best : Nat), i + d ≤ 6 → best < 6 → bP f x i d best < 6
  | 0, i, best, _, h => h
  | d + 1, i, best, h, h1 => by
    rw [bP_s]
    split
    · exact bP_le d (i + 1) best (by omega) h1
    · exact bP_le d (i + 1) i (by omega) (by omega)
theorem c_day_go {n x p T : Nat} {M : Mem} {f : Nat → Int32} (hRS : RS 4 M f) (hI : INV0 f) (hx : x < 6) (hA : IA1 f x) (hp : p < 6) (hn : 500 ≤ n) (hT : fA f x 5 = nI T) (hT2 : T ≤ 3652) : ∀ (d k i best : Nat), i + d = T → d < k → mX1_cheapestDay_c25 n k 4 (4 + 35 + 12 + x) (nI p) (nI best) (QV f x p (nI best)) (nI i) M = some (nI (bD f x p i d best))
  | d, 0, _, _, _, h => absurd h (Nat.not_lt_zero _)
  | 0, k + 1, i, best, e, h => by
    have a9 := (hRS.2.2.2.1 x hx).2.2.2.2.2.2.2.2.2.1
    unfold mX1_cheapestDay_c25
    rw [a9, hT, if_pos (by rw [nI_leI (by omega) (by omega)]; omega)]; rfl
  | d + 1, k + 1, i, best, e, h => by
    have a9 := (hRS.2.2.2.1 x hx).2.2.2.2.2.2.2.2.2.1
    have ih := fun best => c_day_go (n := n) hRS hI hx hA hp hn hT hT2 d k (i + 1) best (by omega) (by omega)
    unfold mX1_cheapestDay_c25
    rw [a9, hT, if_neg (by rw [nI_leI (by omega) (by omega)]; omega), c_qu _ hRS hI hx hA hp hn, show nI i + (1 : Int32) = nI (i + 1) from nI_add .., bD_s]
    simp only [bnp_some]
    by_cases q : QV f x p (nI best) ≤ QV f x p (nI i)
    · rw [if_pos q, if_pos q, ih]
    · rw [if_neg q, if_neg q, ih]
theorem c_chg_go {n x : Nat} {M : Mem} {f : Nat → Int32} (hRS : RS 4 M f) (hI : INV0 f) (hx : x < 6) (hA : IA1 f x) (hn : 500 ≤ n) : ∀ (d k i best : Nat), i + d = 6 → d < k → best < 6 → mX1_cheapestChange_c16 n k 4 (4 + 35 + 12 + x) (nI best) (QV f x best (f 0)) (nI i) M = some (nI (bP f x i d best))
  | d, 0, _, _, _, h, _ => absurd h (Nat.not_lt_zero _)
  | 0, k + 1, i, best, e, h, _ => by
    have hi : i = 6 := by omega
    subst hi
    unfold mX1_cheapestChange_c16
    rw [if_pos (show (6 : Int32) ≤ nI 6 by decide)]; rfl
  | d + 1, k + 1, i, best, e, h, hb => by
    have ih := fun best hb => c_chg_go (n := n) hRS hI hx hA hn d k (i + 1) best (by omega) (by omega) hb
    unfold mX1_cheapestChange_c16
    rw [if_neg (by rw [show (6 : Int32) = nI 6 from rfl, nI_leI (by omega) (by omega)]; omega), hRS.1, c_qu _ hRS hI hx hA (show i < 6 by omega) hn, show nI i + (1 : Int32) = nI (i + 1) from nI_add .., bP_s]
    simp only [bnp_some]
    by_cases q : QV f x best (f 0) ≤ QV f x i (f 0)
    · rw [if_pos q, if_pos q, ih _ hb]
    · rw [if_neg q, if_neg q, ih _ (by omega)]
theorem m_chg_go {n x p D : Nat} {N : Mem} {f : Nat → Int32} {w : Int32} (hM : CalM N) (hI : INV0 f) (hx : x < 6) (hA : IA1 f x) (hr : (tD f : Int) < NT (aN f x) (aD f x)) (hp : p < 6) (hD : D ≤ 3652) (h1 : aD f x ≤ D) (h2 : (D : Int) < NT (aN f x) (aD f x)) (hn : 500 ≤ n) : ∀ (d k i best : Nat), i + d = 6 → d < k → best < 6 → mX11_best_c87 n k (nI x) (nI p) w (nI D) (nI best) (nI i) (stF N f) = (if w = 0 then some (nI D) else if w = 1 then some (QV f x p (nI D)) else some (nI (bP f x i d best)))
  | d, 0, _, _, _, h, _ => absurd h (Nat.not_lt_zero _)
  | 0, k + 1, i, best, e, h, _ => by
    have hi : i = 6 := by omega
    subst hi
    unfold mX11_best_c87
    rw [if_pos (show (6 : Int32) ≤ nI 6 by decide), m_qu hM hI hx hA hp hD h1 h2 hn]; rfl
  | d + 1, k + 1, i, best, e, h, hb => by
    have t1 := hI.1.1
    have i14 := hA.2.2.2.2.2.2.2.2.2.2.2.2.2.2.1
    have ih := fun best hb => m_chg_go (n := n) (N := N) (w := w) hM hI hx hA hr hp hD h1 h2 hn d k (i + 1) best (by omega) (by omega) hb
    unfold mX11_best_c87
    rw [if_neg (by rw [show (6 : Int32) = nI 6 from rfl, nI_leI (by omega) (by omega)]; omega), ck0, tn0, stF_f, bP_s, t1, m_qu hM hI hx hA (show i < 6 by omega) hI.1.2 i14 hr hn, m_qu hM hI hx hA hb hI.1.2 i14 hr hn, show nI i + (1 : Int32) = nI (i + 1) from nI_add ..]
    simp only [bnp_some]
    rw [ck0]
    by_cases q : QV f x best (nI (tD f)) ≤ QV f x i (nI (tD f))
    · rw [if_pos q, if_pos q, ih _ hb]
    · rw [if_neg q, if_neg q, ih _ (by omega)]
theorem m_day_go {n x p T : Nat} {N : Mem} {f : Nat → Int32} {w : Int32} (hM : CalM N) (hI : INV0 f) (hx : x < 6) (hA : IA1 f x) (hr : (tD f : Int) < NT (aN f x) (aD f x)) (hp : p < 6) (hn : 500 ≤ n) (hT : fA f x 5 = nI T) (hT2 : T ≤ 3652) (hT3 : (T : Int) = NT (aN f x) (aD f x)) : ∀ (d k i best : Nat), i + d = T → d < k → aD f x ≤ i → aD f x ≤ best → best < T → mX11_best_c41 n k (nI x) (nI p) w (nI best) (nI i) (stF N f) = mX11_best_c87 n n (nI x) (nI p) w (nI (bD f x p i d best)) 0 1 (stF N f)
  | d, 0, _, _, _, h, _, _, _ => absurd h (Nat.not_lt_zero _)
  | 0, k + 1, i, best, e, h, h1, h2, h3 => by
    unfold mX11_best_c41
    rw [show (5 : Int32) = nI 5 from rfl, m_ofS hx (by decide), hT]
    simp only [bnp_some]
    rw [if_pos (by rw [nI_leI (by omega) (by omega)]; omega)]; rfl
  | d + 1, k + 1, i, best, e, h, h1, h2, h3 => by
    have ih := fun best => m_day_go (n := n) (N := N) (w := w) hM hI hx hA hr hp hn hT hT2 hT3 d k (i + 1) best (by omega) (by omega) (by omega)
    unfold mX11_best_c41
    rw [show (5 : Int32) = nI 5 from rfl, m_ofS hx (by decide), hT]
    simp only [bnp_some]
    rw [if_neg (by rw [nI_leI (by omega) (by omega)]; omega), m_qu hM hI hx hA hp (by omega) h1 (by omega) hn, m_qu hM hI hx hA hp (by omega) h2 (by omega) hn, show nI i + (1 : Int32) = nI (i + 1) from nI_add .., bD_s]
    simp only [bnp_some]
    by_cases q : QV f x p (nI best) ≤ QV f x p (nI i)
    · rw [if_pos q, if_pos q, ih _ h2 h3]
    · rw [if_neg q, if_neg q, ih _ h1 (by omega)]
theorem q_best {M N : Mem} {n : Nat} (hT : TOT M N) (hn : 20000 ≤ n) (a b c : Int32) : PQ (mX10_best n a b c M) (mX11_best n a b c N) := by
  have e10 : ((1 : Int32) = 0) = False := eq_false (by decide)
  obtain ⟨⟨hb, hC, hM, hRS, hI⟩, -⟩ := id hT
  have t1 := hI.1.1.1; have t2 := hI.1.1.2
  unfold mX10_best mX11_best
  simp only [bnp_id]
  rcases T_run hT a with ⟨x, hx, rfl, hA, hr, e1, e3⟩ | ⟨e1, e3⟩
  · rw [e1, e3]
    simp only [bnp_some, e10, if_false]
    rcases isPlan_c b with ⟨p, -, hp, rfl, g1, g2⟩ | ⟨g1, g2⟩
    · rw [g1, g2]
      simp only [bnp_some, e10, if_false]
      obtain ⟨T, hT1, eT, hT2, hT3⟩ := NT_nI hA hr
      have i14 := hA.2.2.2.2.2.2.2.2.2.2.2.2.2.2.1
      have eNT : (T : Int) = NT (aN (N 209) x) (aD (N 209) x) := by
        have := hA.2.2.2.2.2.2.1
        rw [eT] at this
        have l := LT_NT hA.2.2.2.1 hA.2.2.2.2.2.1.2
        have z := congrArg Int32.toInt this
        rw [nI_toInt (by omega), iI_toInt (by omega) (by omega)] at z
        exact z
      have hday : mX1_cheapestDay n 4 (4 + 35 + 12 + x) (nI p) M = some (nI (bD (N 209) x p (tD (N 209) + 1) (T - (tD (N 209) + 1)) (tD (N 209)))) := by
        unfold mX1_cheapestDay
        rw [hRS.1, t1, c_qu _ hRS hI.1 hx hA (show p < 6 by omega) (by omega), show nI (tD (N 209)) + (1 : Int32) = nI (tD (N 209) + 1) from nI_add ..]
        simp only [bnp_some]
        exact c_day_go (n := n) hRS hI.1 hx hA (by omega) (by omega) eT hT1 _ n _ _ (by omega) (by omega)
      have hchg : mX1_cheapestChange n 4 (4 + 35 + 12 + x) M = some (nI (bP (N 209) x 1 5 0)) := by
        unfold mX1_cheapestChange
        rw [hRS.1, show (0 : Int32) = nI 0 from rfl, c_qu _ hRS hI.1 hx hA (show 0 < 6 by decide) (by omega)]
        simp only [bnp_some]
        exact c_chg_go (n := n) hRS hI.1 hx hA (by omega) 5 n 1 0 rfl (by omega) (by decide)
      have hbd := bD_le (f := N 209) (x := x) (p := p) (lo := tD (N 209)) (T := T) (T - (tD (N 209) + 1)) (tD (N 209) + 1) (tD (N 209)) (by omega) (Nat.le_refl _) (by omega) (by omega)
      have m1 := m_day_go (n := n) (N := N) (w := c) hM hI.1 hx hA hr (show p < 6 by omega) (by omega) eT hT1 eNT (T - (tD (N 209) + 1)) n (tD (N 209) + 1) (tD (N 209)) (by omega) (by omega) (by omega) i14 (by omega)
      have m2 := m_chg_go (n := n) (N := N) (w := c) hM hI.1 hx hA hr (show p < 6 by omega) (D := bD (N 209) x p (tD (N 209) + 1) (T - (tD (N 209) + 1)) (tD (N 209))) (by omega) (by omega) (by omega) (by omega) 5 n 1 0 rfl (by omega) (by decide)
      rw [show nI 0 = (0 : Int32) from rfl, show nI 1 = (1 : Int32) from rfl] at m2
      rw [m2, stF_self] at m1
      rw [chk_n hx (by decide), nI_clamp (by omega), show 39 + 12 + x = 4 + 35 + 12 + x by omega, ck0, tn0, t1, show nI (tD (N 209)) + (1 : Int32) = nI (tD (N 209) + 1) from nI_add .., hday, hchg]
      simp only [bnp_some]
      rw [c_qu _ hRS hI.1 hx hA (show p < 6 by omega) (by omega)]
      rcases in_c c 0 2 3 0 2 rfl rfl rfl (by decide) (by decide) with ⟨q, hq1, hq, rfl, g1, g2, g3, g4⟩ | ⟨g4, g1⟩
      · rw [g4]
        simp only [bnp_some, e10, if_false]
        rw [m1]
        rcases (show q = 0 ∨ q = 1 ∨ q = 2 by omega) with rfl | rfl | rfl
        · exact ⟨_, rfl, rfl⟩
        · exact ⟨_, rfl, rfl⟩
        · exact ⟨_, rfl, rfl⟩
      · rw [g4]
        simp only [bnp_some, if_true]
        have c0 : ¬ c = 0 := by rintro rfl; revert g1; decide
        have c1 : ¬ c = 1 := by rintro rfl; revert g1; decide
        have c2 : ¬ c = 2 := by rintro rfl; revert g1; decide
        rw [if_neg c0, if_neg c1, if_neg c2]; exact ⟨_, rfl, rfl⟩
    · rw [g1, g2]; exact ⟨_, rfl, rfl⟩
  · rw [e1, e3]; exact ⟨_, rfl, rfl⟩
theorem q_entry {M N : Mem} (hT : TOT M N) (a b : Int32) : PQ (mX10_entry a b M) (mX11_entry a b N) := by
  have e10 : ((1 : Int32) = 0) = False := eq_false (by decide)
  obtain ⟨⟨hb, hC, hM, hRS, hI⟩, -⟩ := id hT
  have h1 := hI.1.2.1.1; have hs := hI.1.2.1.2
  have hE : RE 40 M (N 209) := hRS.2.2.2.2
  unfold mX10_entry mX11_entry mX5_tell
  simp only [bnp_id]
  have := ent_c (N := N) hE h1 hs a
  rw [stF_self] at this
  rcases this with ⟨e, he, rfl, e1, e3⟩ | ⟨e1, e3⟩
  · rw [e1, e3]
    simp only [bnp_some, e10, if_false]
    obtain ⟨r1, r2, r3, r4, r5, r6, r7, r8, r9, r10⟩ := hE.2 e he
    have hent : ∀ w, w < 10 → mX11_entryOf (nI e) (nI w) N = some (fE (N 209) e w) := fun w hw => m_entryOf (by omega) hw
    have ck : ∀ (y : Option Int32), chk (nI e) 400 y = y := fun y => chk_n (by omega) (by decide)
    simp only [ck]
    rw [nI_clamp (by omega), r1, r2, r3, r4, r5, r6, r7, r8, r9, r10]
    rcases in_c b 0 9 10 0 9 rfl rfl rfl (by decide) (by decide) with ⟨q, hq1, hq, rfl, g1, g2, g3, g4⟩ | ⟨g4, g1⟩
    · rw [g4]
      simp only [bnp_some, e10, if_false]
      rw [hent q (by omega)]
      rcases (show q = 0 ∨ q = 1 ∨ q = 2 ∨ q = 3 ∨ q = 4 ∨ q = 5 ∨ q = 6 ∨ q = 7 ∨ q = 8 ∨ q = 9 by omega) with rfl | rfl | rfl | rfl | rfl | rfl | rfl | rfl | rfl | rfl <;> exact ⟨_, rfl, rfl⟩
    · rw [g4]
      simp only [bnp_some, if_true]
      have c0 : ¬ b = 0 := by rintro rfl; revert g1; decide
      have c1 : ¬ b = 1 := by rintro rfl; revert g1; decide
      have c2 : ¬ b = 2 := by rintro rfl; revert g1; decide
      have c3 : ¬ b = 3 := by rintro rfl; revert g1; decide
      have c4 : ¬ b = 4 := by rintro rfl; revert g1; decide
      have c5 : ¬ b = 5 := by rintro rfl; revert g1; decide
      have c6 : ¬ b = 6 := by rintro rfl; revert g1; decide
      have c7 : ¬ b = 7 := by rintro rfl; revert g1; decide
      have c8 : ¬ b = 8 := by rintro rfl; revert g1; decide
      have c9 : ¬ b = 9 := by rintro rfl; revert g1; decide
      rw [if_neg c0, if_neg c1, if_neg c2, if_neg c3, if_neg c4, if_neg c5, if_neg c6, if_neg c7, if_neg c8, if_neg c9]
      exact ⟨_, rfl, rfl⟩
  · rw [e1, e3]; exact ⟨_, rfl, rfl⟩
end
section
/-! accountIs, billIs, date, day, part -/
theorem kind_go {n x q : Nat} {M N : Mem} {f : Nat → Int32} (hE : RE 40 M f) (h1 : f 1 = nI (sz f)) (hs : sz f ≤ 400) (hq : q ≤ 5) : ∀ (d k i : Nat) (s : Int32), i + d = sz f → d < k → PQ (mX5_sumOfKind_c5 n k 40 (nI x) (nI q) s (nI i) M) (mX11_sumOf_c5 n k (nI x) (nI q) s (nI i) (stF N f))
  | d, 0, _, _, _, h => absurd h (Nat.not_lt_zero _)
  | 0, k + 1, i, s, e0, h => by
    unfold mX5_sumOfKind_c5 mX11_sumOf_c5
    rw [hE.1, h1, ck1, show Int32.toNatClampNeg (1 : Int32) = 1 from rfl, stF_f, h1, if_pos (by rw [nI_leI (by omega) (by omega)]; omega), if_pos (by rw [nI_leI (by omega) (by omega)]; omega)]
    exact ⟨_, rfl, rfl⟩
  | d + 1, k + 1, i, s, e0, h => by
    have ih := fun s => kind_go (n := n) (x := x) (N := N) hE h1 hs hq d k (i + 1) s (by omega) (by omega)
    have hi : i < sz f := by omega
    obtain ⟨r1, r2, r3, r4, r5, r6, r7, r8, r9, r10⟩ := hE.2 i hi
    have hq1 : ¬ nI q = (-1 : Int32) := by
      rw [show (-1 : Int32) = iI (-1) from rfl, iI_n, iI_eq (by omega) (by omega) (by omega) (by omega)]; omega
    unfold mX5_sumOfKind_c5 mX11_sumOf_c5 mX11_sumOf_c43
    rw [c_isOf hE h1 hs hi, hE.1, h1, if_neg (by rw [nI_leI (by omega) (by omega)]; omega), if_neg hq1, if_neg hq1]
    simp (disch := omega) only [nI_lit, chk_n, nI_clamp, stF_f, h1, nI_leI, m_entS, bnp_some, nI_add, r1, r8]
    rw [if_neg (show ¬ sz f ≤ i by omega)]
    by_cases t : fE f i 1 = nI x
    · rw [if_pos t, if_neg (by decide), if_pos t]
      by_cases t2 : fE f i 0 = nI q
      · rw [if_pos t2, if_pos t2]; exact ih _
      · rw [if_neg t2, if_neg t2]; exact ih _
    · rw [if_neg t, if_pos (by decide), if_neg t]; exact ih _
theorem many_go {n x : Nat} {M N : Mem} {f : Nat → Int32} (hE : RE 40 M f) (h1 : f 1 = nI (sz f)) (hs : sz f ≤ 400) : ∀ (d k i : Nat) (s : Int32), i + d = sz f → d < k → PQ (mX5_howManyOf_c4 n k 40 (nI x) s (nI i) M) (mX11_sumOf_c5 n k (nI x) (-1 : Int32) s (nI i) (stF N f))
  | d, 0, _, _, _, h => absurd h (Nat.not_lt_zero _)
  | 0, k + 1, i, s, e0, h => by
    unfold mX5_howManyOf_c4 mX11_sumOf_c5
    rw [hE.1, h1, ck1, show Int32.toNatClampNeg (1 : Int32) = 1 from rfl, stF_f, h1, if_pos (by rw [nI_leI (by omega) (by omega)]; omega), if_pos (by rw [nI_leI (by omega) (by omega)]; omega)]
    exact ⟨_, rfl, rfl⟩
  | d + 1, k + 1, i, s, e0, h => by
    have ih := fun s => many_go (n := n) (x := x) (N := N) hE h1 hs d k (i + 1) s (by omega) (by omega)
    have hi : i < sz f := by omega
    have hp : ¬ nI (sz f) ≤ nI i := by rw [nI_leI (by omega) (by omega)]; omega
    unfold mX5_howManyOf_c4 mX11_sumOf_c5 mX11_sumOf_c43
    rw [c_isOf hE h1 hs hi, hE.1, h1, if_neg hp, if_pos rfl, if_pos rfl, ck1, show Int32.toNatClampNeg (1 : Int32) = 1 from rfl, stF_f, h1, if_neg hp, show nI i + (1 : Int32) = nI (i + 1) from nI_add .., show mX11_entryOf (nI i) (1 : Int32) (stF N f) = _ from m_entS (w := 1) (by omega) (by decide)]
    simp only [bnp_some]
    by_cases t : fE f i 1 = nI x
    · rw [if_pos t, if_neg (by decide), if_pos t]; exact ih _
    · rw [if_neg t, if_pos rfl, if_neg t]; exact ih _
theorem q_accountIs {M N : Mem} {n : Nat} (hT : TOT M N) (hn : 20000 ≤ n) (a b : Int32) : PQ (mX10_accountIs n a b M) (mX11_accountIs n a b N) := by
  have e10 : ((1 : Int32) = 0) = False := eq_false (by decide)
  obtain ⟨⟨hb, hC, hM, hRS, hI⟩, -⟩ := id hT
  have h1 := hI.1.2.1.1; have hs := hI.1.2.1.2
  have hE : RE 40 M (N 209) := hRS.2.2.2.2
  unfold mX10_accountIs mX11_accountIs mX10_accountIs_c52
  simp only [bnp_id]
  rcases T_beg hT a with ⟨x, hx, rfl, hA, e1, e3⟩ | ⟨e1, e3⟩
  · rw [e1, e3]
    simp only [bnp_some, e10, if_false]
    obtain ⟨a0, a1, a2, a3, a4, a5, a6, a7, a8, a9, a10, a11, a12, a13⟩ := id (hRS.2.2.2.1 x hx)
    obtain ⟨i0, i1, i2, i3, i4, i5, i6, i7, i8, i9, i10, i11, i12, i13, i14, i15⟩ := id hA
    have of : ∀ w, w < 12 → mX11_of (nI x) (nI w) N = some (fA (N 209) x w) := fun w hw => m_of hx hw
    rw [chk_n hx (by decide), nI_clamp (by omega), show 39 + 12 + x = 4 + 35 + 12 + x by omega]
    rcases in_c b 0 19 20 0 19 rfl rfl rfl (by decide) (by decide) with ⟨q, hq1, hq, rfl, g1, g2, g3, g4⟩ | ⟨g4, g1⟩
    · rw [g4]
      simp only [bnp_some, e10, if_false]
      have sum : ∀ q, q ≤ 5 → PQ (mX5_sumOfKind n 40 (nI x) (nI q) M) (mX11_sumOf n (nI x) (nI q) N) := fun q hq => by
        have := kind_go (n := n) (x := x) (N := N) hE h1 hs hq (sz (N 209)) n 0 0 (by omega) (by omega)
        rw [stF_self] at this
        exact this
      rcases (show q = 0 ∨ q = 1 ∨ q = 2 ∨ q = 3 ∨ q = 4 ∨ q = 5 ∨ q = 6 ∨ q = 7 ∨ q = 8 ∨ q = 9 ∨ q = 10 ∨ q = 11 ∨ q = 12 ∨ q = 13 ∨ q = 14 ∨ q = 15 ∨ q = 16 ∨ q = 17 ∨ q = 18 ∨ q = 19 by omega) with rfl | rfl | rfl | rfl | rfl | rfl | rfl | rfl | rfl | rfl | rfl | rfl | rfl | rfl | rfl | rfl | rfl | rfl | rfl | rfl
      · refine ⟨fA (N 209) x 1, ?_, of 1 (by decide)⟩
        show some (M (4 + 35 + 12 + x) 4) = _
        rw [a4]
      · refine ⟨fA (N 209) x 2, ?_, of 2 (by decide)⟩
        show some (M (4 + 35 + 12 + x) 5) = _
        rw [a5]
      · refine ⟨fA (N 209) x 3, ?_, of 3 (by decide)⟩
        show some (M (4 + 35 + 12 + x) 7) = _
        rw [a7]
      · refine ⟨fA (N 209) x 4, ?_, of 4 (by decide)⟩
        show some (M (4 + 35 + 12 + x) 8) = _
        rw [a8]
      · refine ⟨fA (N 209) x 5, ?_, of 5 (by decide)⟩
        show some (M (4 + 35 + 12 + x) 9) = _
        rw [a9]
      · refine ⟨fA (N 209) x 5 - iI (LT (aN (N 209) x) (aD (N 209) x)), ?_, ?_⟩
        · show some (M (4 + 35 + 12 + x) 9 - M (4 + 35 + 12 + x) 10) = _
          rw [a9, a10 i0]
        · show (bnp (mX11_of (nI x) (nI 5) N) fun r15 => (bnp (mX11_of (nI x) (nI 2) N) fun r16 => (bnp (mX11_of (nI x) (nI 4) N) fun r17 => (bnp (mX11_lastTurn n r16 r17 N) fun r18 => (some (r15 - r18)))))) = _
          rw [of 5 (by decide), of 2 (by decide), of 4 (by decide), i2.1, i5.1]
          simp only [bnp_some]
          rw [mod_lt hM i3 i2.2 i5.2 (by omega)]; rfl
      · refine ⟨WO (N 209) x (aB (N 209) x), ?_, ?_⟩
        · show mX9_worth n 5 (M (4 + 35 + 12 + x) 4) (4 + 35 + 12 + x) M = _
          rw [a4, i1.1]
          exact c_worth hRS.2.2.1 hI.1.2.2.2.1 (hRS.2.2.2.1 x hx) (by have := i1.2; omega) i9 (by omega)
        · show (bnp (mX11_of (nI x) (nI 1) N) fun r1 => (bnp (mX11_worthBy n (nI x) r1 N) fun r2 => (some r2))) = _
          rw [of 1 (by decide), i1.1]
          simp only [bnp_some, bnp_id]
          have := m_worth (N := N) (n := n) hx (show aB (N 209) x < 6 by have := i1.2; omega) (hI.1.2.2.2.1.2.2.2.2.2 (aB (N 209) x) (by have := i1.2; omega)) (by omega)
          rw [stF_self] at this
          exact this
      · refine ⟨fA (N 209) x 6, ?_, of 6 (by decide)⟩
        show some (M (4 + 35 + 12 + x) 11) = _
        rw [a11]
      · refine ⟨allS (N 209) x, ?_, ?_⟩
        · show some (M (4 + 35 + 12 + x) 13) = _
          rw [a13]
        · have := m_all (N := N) (x := x) (n := n) hI.1 (by omega)
          rw [stF_self] at this
          exact this
      · refine ⟨fA (N 209) x 7, ?_, of 7 (by decide)⟩
        show (if M (4 + 35 + 12 + x) 3 = 0 then some 0 else some 1) = _
        rw [a3]
        rcases isM_01 i9 with z | z
        · rw [z]; rfl
        · rw [z]; rfl
      · refine ⟨fA (N 209) x 8, ?_, of 8 (by decide)⟩
        show (if M (4 + 35 + 12 + x) 2 = 0 then some 0 else some 1) = _
        rw [a2]
        rcases isM_01 i10 with z | z
        · rw [z]; rfl
        · rw [z]; rfl
      · have := many_go (n := n) (x := x) (N := N) hE h1 hs (sz (N 209)) n 0 0 (by omega) (by omega)
        rw [stF_self] at this
        exact this
      · exact sum 0 (by decide)
      · exact sum 1 (by decide)
      · exact sum 2 (by decide)
      · exact sum 3 (by decide)
      · exact sum 4 (by decide)
      · exact sum 5 (by decide)
      · refine ⟨fA (N 209) x 9, ?_, of 9 (by decide)⟩
        show some (M (4 + 35 + 12 + x) 12) = _
        rw [a12]
      · refine ⟨fA (N 209) x 10, ?_, of 10 (by decide)⟩
        show some (M (4 + 35 + 12 + x) 6) = _
        rw [a6]
    · rw [g4]
      simp only [bnp_some, if_true]
      have c : ∀ j, j ≤ 19 → ¬ b = nI j := by
        rintro j hj rfl
        rcases g1 with g1 | ⟨g1, g2, g3⟩
        · exact nI_pos (by omega) g1
        · rw [show (19 : Int32) = nI 19 from rfl, nI_ltI (by omega) (by omega)] at g2; omega
      have d : ∀ (u v : Option Int32), (if b < (12 : Int32) then u else if (17 : Int32) < b then u else v) = u := fun u v => by
        by_cases z : b < (12 : Int32)
        · rw [if_pos z]
        · rw [if_neg z]
          rcases g1 with g1 | ⟨g1, g2, g3⟩
          · exact absurd (Int32.lt_trans g1 (by decide)) z
          · rw [if_pos (Int32.lt_trans (by decide) g2)]
      rw [d]
      unfold mX0_tell
      rw [if_neg (show ¬ b = 6 from c 6 (by decide)), if_neg (show ¬ b = 11 from c 11 (by decide)), if_neg (show ¬ b = 0 from c 0 (by decide)), if_neg (show ¬ b = 1 from c 1 (by decide)), if_neg (show ¬ b = 2 from c 2 (by decide)), if_neg (show ¬ b = 3 from c 3 (by decide)), if_neg (show ¬ b = 4 from c 4 (by decide)), if_neg (show ¬ b = 5 from c 5 (by decide)), if_neg (show ¬ b = 6 from c 6 (by decide)), if_neg (show ¬ b = 7 from c 7 (by decide)), if_neg (show ¬ b = 8 from c 8 (by decide)), if_neg (show ¬ b = 9 from c 9 (by decide)), if_neg (show ¬ b = 10 from c 10 (by decide)), if_neg (show ¬ b = 11 from c 11 (by decide)), if_neg (show ¬ b = 12 from c 12 (by decide)), if_neg (show ¬ b = 13 from c 13 (by decide)), if_neg (show ¬ b = 14 from c 14 (by decide)), if_neg (show ¬ b = 15 from c 15 (by decide)), if_neg (show ¬ b = 16 from c 16 (by decide)), if_neg (show ¬ b = 17 from c 17 (by decide)), if_neg (show ¬ b = 18 from c 18 (by decide)), if_neg (show ¬ b = 19 from c 19 (by decide))]
      exact ⟨_, rfl, rfl⟩
  · rw [e1, e3]; exact ⟨_, rfl, rfl⟩
/-! billIs -/
theorem or_0 (v : Int32) : v ||| 0 = v := by
  apply Int32.toBitVec_inj.mp
  show v.toBitVec ||| 0 = v.toBitVec
  simp
theorem bits_val {M : Mem} {f : Nat → Int32} (hRS : RS 4 M f) (hI : INV0 f) {i : Nat} (hi : i < 6) : (fA f i 0 = nI 0 ∧ fA f i 8 = nI 0 ∧ fA f i 7 = nI 0) ∨ (fA f i 0 = nI 1 ∧ (fA f i 8 = nI 0 ∨ fA f i 8 = nI 1) ∧ (fA f i 7 = nI 0 ∨ fA f i 7 = nI 1)) := by
  rcases hI.2.2.2.2.1 i hi with h | h
  · exact Or.inl ⟨h 0 (by decide), h 8 (by decide), h 7 (by decide)⟩
  · obtain ⟨i0, i1, i2, i3, i4, i5, i6, i7, i8, i9, i10, i11⟩ := h
    exact Or.inr ⟨i0, isM_01 i10, isM_01 i9⟩
theorem bits_go {n w kk : Nat} {M N : Mem} {f : Nat → Int32} (hRS : RS 4 M f) (hI : INV0 f) (hw : (w = 0 ∧ kk = 1) ∨ (w = 8 ∧ kk = 2) ∨ (w = 7 ∧ kk = 3)) (c4 : Nat → Nat → Int32 → Int32 → Mem → Option Int32)
    (h0 : ∀ k v, c4 (k + 1) 4 v (nI 6) M = some v)
    (hs : ∀ k v i, i < 6 → c4 (k + 1) 4 v (nI i) M = if M (4 + 35 + 12 + i) kk = 0 then c4 k 4 (v ||| 0) (nI i + 1) M else c4 k 4 (v ||| ((1 : Int32) <<< (nI i &&& 31))) (nI i + 1) M) : ∀ (d k i : Nat) (v : Int32), i + d = 6 → d < k → PQ (c4 k 4 v (nI i) M) (mX11_bitsOf_c4 n k (nI w) v (nI i) (stF N f))
  | d, 0, _, _, _, h => absurd h (Nat.not_lt_zero _)
  | 0, k + 1, i, v, e, h => by
    have hi : i = 6 := by omega
    subst hi
    unfold mX11_bitsOf_c4
    rw [h0, if_pos (show (6 : Int32) ≤ nI 6 by decide)]
    exact ⟨_, rfl, rfl⟩
  | d + 1, k + 1, i, v, e, h => by
    have hi : i < 6 := by omega
    have ih := fun v => bits_go (n := n) (N := N) hRS hI hw c4 h0 hs d k (i + 1) v (by omega) (by omega)
    obtain ⟨a0, a1, a2, a3, a4, a5, a6, a7, a8, a9, a10, a11, a12, a13⟩ := hRS.2.2.2.1 i hi
    have hM : M (4 + 35 + 12 + i) kk = fA f i w := by
      rcases hw with ⟨rfl, rfl⟩ | ⟨rfl, rfl⟩ | ⟨rfl, rfl⟩
      · exact a1
      · exact a2
      · exact a3
    have h6 : ¬ (6 : Int32) ≤ nI i := by rw [show (6 : Int32) = nI 6 from rfl, nI_leI (by omega) (by omega)]; omega
    unfold mX11_bitsOf_c4
    rw [hs k v i hi, hM, if_neg h6, show (0 : Int32) = nI 0 from rfl, m_ofS hi (by decide), m_ofS hi (by omega), show nI i + (1 : Int32) = nI (i + 1) from nI_add .., show nI 0 = (0 : Int32) from rfl, or_0]
    simp only [bnp_some]
    have main : (fA f i 0 = nI 0 ∧ fA f i w = nI 0) ∨ (fA f i 0 = nI 1 ∧ (fA f i w = nI 0 ∨ fA f i w = nI 1)) := by
      rcases bits_val hRS hI hi with ⟨z0, z8, z7⟩ | ⟨z0, z8, z7⟩
      · rcases hw with ⟨rfl, rfl⟩ | ⟨rfl, rfl⟩ | ⟨rfl, rfl⟩
        · exact Or.inl ⟨z0, z0⟩
        · exact Or.inl ⟨z0, z8⟩
        · exact Or.inl ⟨z0, z7⟩
      · rcases hw with ⟨rfl, rfl⟩ | ⟨rfl, rfl⟩ | ⟨rfl, rfl⟩
        · exact Or.inr ⟨z0, Or.inr z0⟩
        · exact Or.inr ⟨z0, z8⟩
        · exact Or.inr ⟨z0, z7⟩
    rcases main with ⟨z0, zw⟩ | ⟨z0, zw | zw⟩
    · rw [zw, z0, if_pos (show nI 0 = (0 : Int32) from rfl), if_neg (show ¬ nI 0 = (1 : Int32) by decide)]; exact ih _
    · rw [zw, z0, if_pos (show nI 0 = (0 : Int32) from rfl), if_pos (show nI 1 = (1 : Int32) from rfl), if_neg (show ¬ nI 0 = (1 : Int32) by decide)]; exact ih _
    · rw [zw, z0, if_neg (show ¬ nI 1 = (0 : Int32) by decide), if_pos (show nI 1 = (1 : Int32) from rfl), if_pos (show nI 1 = (1 : Int32) from rfl)]; exact ih _
theorem GS_tx : GS.2.1 7 = 4 ∧ GS.2.1 8 = 4 := by decide +kernel
theorem q_billIs {M N : Mem} {n : Nat} (hT : TOT M N) (hn : 20000 ≤ n) (b : Int32) : PQ (mX10_billIs n b M) (mX11_billIs n b N) := by
  have e10 : ((1 : Int32) = 0) = False := eq_false (by decide)
  obtain ⟨⟨hb, hC, hM, hRS, hI⟩, -⟩ := id hT
  have h1 := hI.1.2.1.1; have hs := hI.1.2.1.2
  obtain ⟨r1, r2, r3, r4, r5, r6⟩ := hRS.2.2.1
  obtain ⟨j1, j2, j3, j4, j5, j6⟩ := hI.1.2.2.2.1
  have x1 := j4.1; have x2 := j4.2
  have b0 : PQ (mX1_begunBits n 4 M) (mX11_bitsOf n (nI 0) N) := by
    have := bits_go (n := n) (w := 0) (kk := 1) (N := N) hRS hI.1 (by omega) (mX1_begunBits_c4 n) (fun k v => by unfold mX1_begunBits_c4; rw [if_pos (show (6 : Int32) ≤ nI 6 by decide)])
      (fun k v i hi => by
        rw [mX1_begunBits_c4, if_neg (show ¬ (6 : Int32) ≤ nI i by rw [show (6 : Int32) = nI 6 from rfl, nI_leI (by omega) (by omega)]; omega), chk_n hi (by decide), nI_clamp (by omega)]) 6 n 0 0 rfl (by omega)
    rw [stF_self] at this
    exact this
  have b8 : PQ (mX1_endedBits n 4 M) (mX11_bitsOf n (nI 8) N) := by
    have := bits_go (n := n) (w := 8) (kk := 2) (N := N) hRS hI.1 (by omega) (mX1_endedBits_c4 n) (fun k v => by unfold mX1_endedBits_c4; rw [if_pos (show (6 : Int32) ≤ nI 6 by decide)])
      (fun k v i hi => by
        rw [mX1_endedBits_c4, if_neg (show ¬ (6 : Int32) ≤ nI i by rw [show (6 : Int32) = nI 6 from rfl, nI_leI (by omega) (by omega)]; omega), chk_n hi (by decide), nI_clamp (by omega)]) 6 n 0 0 rfl (by omega)
    rw [stF_self] at this
    exact this
  have b7 : PQ (mX1_pausedBits n 4 M) (mX11_bitsOf n (nI 7) N) := by
    have := bits_go (n := n) (w := 7) (kk := 3) (N := N) hRS hI.1 (by omega) (mX1_pausedBits_c4 n) (fun k v => by unfold mX1_pausedBits_c4; rw [if_pos (show (6 : Int32) ≤ nI 6 by decide)])
      (fun k v i hi => by
        rw [mX1_pausedBits_c4, if_neg (show ¬ (6 : Int32) ≤ nI i by rw [show (6 : Int32) = nI 6 from rfl, nI_leI (by omega) (by omega)]; omega), chk_n hi (by decide), nI_clamp (by omega)]) 6 n 0 0 rfl (by omega)
    rw [stF_self] at this
    exact this
  have td : ∀ j, j < 4 → mX10_tellOf 7 (nI (nX (N 209))) (nI j) M = some (if j < nX (N 209) then N 209 (7 + j) else -2) := by
    intro j hj
    rw [c_tellOf GS_tx.1 x2 (by omega) (by omega)]
    by_cases z : j < nX (N 209)
    · rw [if_pos z, if_pos z, show M 7 j = _ from (r5 j z).1]
    · rw [if_neg z, if_neg z]
  have tr : ∀ j, j < 4 → mX10_tellOf 8 (nI (nX (N 209))) (nI j) M = some (if j < nX (N 209) then N 209 (11 + j) else -2) := by
    intro j hj
    rw [c_tellOf GS_tx.2 x2 (by omega) (by omega)]
    by_cases z : j < nX (N 209)
    · rw [if_pos z, if_pos z, show M 8 j = _ from (r5 j z).2]
    · rw [if_neg z, if_neg z]
  have cc : ∀ j q (w : Nat), j < 4 → (nI q - nI q / (10 : Int32) * (10 : Int32)) = nI j → ((20 : Int32) ≤ nI q ∧ w = 11 ∨ ¬ (20 : Int32) ≤ nI q ∧ w = 7) → mX11_billIs_c22 n (nI q) N = some (if j < nX (N 209) then N 209 (w + j) else -2) := by
    intro j q w hj e h
    unfold mX11_billIs_c22
    rw [e]
    simp (disch := omega) only [chk_n, nI_clamp, show (6 : Int32) = nI 6 from rfl, show (11 : Int32) = nI 11 from rfl, show (7 : Int32) = nI 7 from rfl, nI_add, x1]
    by_cases z : j < nX (N 209)
    · rw [if_pos (by rw [nI_ltI (by omega) (by omega)]; exact z), if_pos z]
      rcases h with ⟨h, rfl⟩ | ⟨h, rfl⟩
      · rw [if_pos h]
      · rw [if_neg h]
    · rw [if_neg (by rw [nI_ltI (by omega) (by omega)]; exact z), if_neg z]
  unfold mX10_billIs mX11_billIs
  simp only [bnp_id]
  rcases rng_c b 0 23 24 0 23 rfl rfl rfl (by decide) (by decide) with ⟨q, -, hq, rfl, c3, c4, c5⟩ | g1
  · rcases (show q = 0 ∨ q = 1 ∨ q = 2 ∨ q = 3 ∨ q = 4 ∨ q = 5 ∨ q = 6 ∨ q = 7 ∨ q = 8 ∨ q = 9 ∨ q = 10 ∨ q = 11 ∨ q = 12 ∨ q = 13 ∨ q = 14 ∨ q = 15 ∨ q = 16 ∨ q = 17 ∨ q = 18 ∨ q = 19 ∨ q = 20 ∨ q = 21 ∨ q = 22 ∨ q = 23 by omega) with rfl | rfl | rfl | rfl | rfl | rfl | rfl | rfl | rfl | rfl | rfl | rfl | rfl | rfl | rfl | rfl | rfl | rfl | rfl | rfl | rfl | rfl | rfl | rfl
    · exact ⟨N 209 2, congrArg some r1, rfl⟩
    · exact ⟨N 209 3, congrArg some r2, rfl⟩
    · exact ⟨N 209 0, congrArg some hRS.1, rfl⟩
    · exact ⟨N 209 1, congrArg some hRS.2.2.2.2.1, rfl⟩
    · exact b0
    · exact b8
    · exact b7
    · exact ⟨N 209 5, congrArg some r3, rfl⟩
    · exact ⟨-1, rfl, rfl⟩
    · exact ⟨-1, rfl, rfl⟩
    · refine ⟨_, ?_, cc 0 10 7 (by decide) (by decide) (Or.inr ⟨by decide, rfl⟩)⟩
      show (bnp (mX10_tellOf 7 (M 5 4) (nI 0) M) fun r11 => some r11) = _
      rw [show M 5 4 = _ from r4, x1, td 0 (by decide)]; rfl
    · refine ⟨_, ?_, cc 1 11 7 (by decide) (by decide) (Or.inr ⟨by decide, rfl⟩)⟩
      show (bnp (mX10_tellOf 7 (M 5 4) (nI 1) M) fun r11 => some r11) = _
      rw [show M 5 4 = _ from r4, x1, td 1 (by decide)]; rfl
    · refine ⟨_, ?_, cc 2 12 7 (by decide) (by decide) (Or.inr ⟨by decide, rfl⟩)⟩
      show (bnp (mX10_tellOf 7 (M 5 4) (nI 2) M) fun r11 => some r11) = _
      rw [show M 5 4 = _ from r4, x1, td 2 (by decide)]; rfl
    · refine ⟨_, ?_, cc 3 13 7 (by decide) (by decide) (Or.inr ⟨by decide, rfl⟩)⟩
      show (bnp (mX10_tellOf 7 (M 5 4) (nI 3) M) fun r11 => some r11) = _
      rw [show M 5 4 = _ from r4, x1, td 3 (by decide)]; rfl
    · exact ⟨-1, rfl, rfl⟩
    · exact ⟨-1, rfl, rfl⟩
    · exact ⟨-1, rfl, rfl⟩
    · exact ⟨-1, rfl, rfl⟩
    · exact ⟨-1, rfl, rfl⟩
    · exact ⟨-1, rfl, rfl⟩
    · refine ⟨_, ?_, cc 0 20 11 (by decide) (by decide) (Or.inl ⟨by decide, rfl⟩)⟩
      show (bnp (mX10_tellOf 8 (M 5 4) (nI 0) M) fun r11 => some r11) = _
      rw [show M 5 4 = _ from r4, x1, tr 0 (by decide)]; rfl
    · refine ⟨_, ?_, cc 1 21 11 (by decide) (by decide) (Or.inl ⟨by decide, rfl⟩)⟩
      show (bnp (mX10_tellOf 8 (M 5 4) (nI 1) M) fun r11 => some r11) = _
      rw [show M 5 4 = _ from r4, x1, tr 1 (by decide)]; rfl
    · refine ⟨_, ?_, cc 2 22 11 (by decide) (by decide) (Or.inl ⟨by decide, rfl⟩)⟩
      show (bnp (mX10_tellOf 8 (M 5 4) (nI 2) M) fun r11 => some r11) = _
      rw [show M 5 4 = _ from r4, x1, tr 2 (by decide)]; rfl
    · refine ⟨_, ?_, cc 3 23 11 (by decide) (by decide) (Or.inl ⟨by decide, rfl⟩)⟩
      show (bnp (mX10_tellOf 8 (M 5 4) (nI 3) M) fun r11 => some r11) = _
      rw [show M 5 4 = _ from r4, x1, tr 3 (by decide)]; rfl
  · have c : ∀ j, j ≤ 23 → ¬ b = nI j := by
      rintro j hj rfl
      rcases g1 with g1 | ⟨g1, g2, g3⟩
      · exact nI_pos (by omega) g1
      · rw [show (23 : Int32) = nI 23 from rfl, nI_ltI (by omega) (by omega)] at g2; omega
    have n1 : mX11_in b (10 : Int32) (13 : Int32) = some 0 := by
      unfold mX11_in
      rcases g1 with g1 | ⟨g1, g2, g3⟩
      · rw [if_pos (Int32.lt_trans g1 (by decide))]
      · rw [if_neg (Int32.not_lt.mpr (Int32.le_of_lt (Int32.lt_trans (by decide) g2))), if_pos (Int32.lt_trans (by decide) g2)]
    have n2 : mX11_in b (20 : Int32) (23 : Int32) = some 0 := by
      unfold mX11_in
      rcases g1 with g1 | ⟨g1, g2, g3⟩
      · rw [if_pos (Int32.lt_trans g1 (by decide))]
      · rw [if_neg (Int32.not_lt.mpr (Int32.le_of_lt (Int32.lt_trans (by decide) g2))), if_pos g2]
    rw [n1, n2]
    simp only [bnp_some, if_true]
    unfold mX9_tell
    rw [if_neg (show ¬ b = 2 from c 2 (by decide)), if_neg (show ¬ b = 3 from c 3 (by decide)), if_neg (show ¬ b = 4 from c 4 (by decide)), if_neg (show ¬ b = 5 from c 5 (by decide)), if_neg (show ¬ b = 6 from c 6 (by decide)), if_neg (show ¬ b = 0 from c 0 (by decide)), if_neg (show ¬ b = 1 from c 1 (by decide)), if_neg (show ¬ b = 2 from c 2 (by decide)), if_neg (show ¬ b = 3 from c 3 (by decide)), if_neg (show ¬ b = 4 from c 4 (by decide)), if_neg (show ¬ b = 5 from c 5 (by decide)), if_neg (show ¬ b = 6 from c 6 (by decide)), if_neg (show ¬ b = 7 from c 7 (by decide)), if_neg (show ¬ b = 8 from c 8 (by decide)), if_neg (show ¬ b = 9 from c 9 (by decide)), if_neg (show ¬ b = 10 from c 10 (by decide)), if_neg (show ¬ b = 11 from c 11 (by decide)), if_neg (show ¬ b = 12 from c 12 (by decide)), if_neg (show ¬ b = 13 from c 13 (by decide)), if_neg (show ¬ b = 14 from c 14 (by decide)), if_neg (show ¬ b = 15 from c 15 (by decide)), if_neg (show ¬ b = 16 from c 16 (by decide)), if_neg (show ¬ b = 17 from c 17 (by decide)), if_neg (show ¬ b = 18 from c 18 (by decide)), if_neg (show ¬ b = 19 from c 19 (by decide)), if_neg (show ¬ b = 20 from c 20 (by decide)), if_neg (show ¬ b = 21 from c 21 (by decide)), if_neg (show ¬ b = 22 from c 22 (by decide)), if_neg (show ¬ b = 23 from c 23 (by decide)), if_neg (show ¬ b = 0 from c 0 (by decide)), if_neg (show ¬ b = 1 from c 1 (by decide)), if_neg (show ¬ b = 2 from c 2 (by decide)), if_neg (show ¬ b = 3 from c 3 (by decide)), if_neg (show ¬ b = 4 from c 4 (by decide)), if_neg (show ¬ b = 5 from c 5 (by decide)), if_neg (show ¬ b = 6 from c 6 (by decide)), if_neg (show ¬ b = 7 from c 7 (by decide))]
    exact ⟨_, rfl, rfl⟩
end
section
/-! what is asked of days; all queries under the total relation -/
theorem len_tab : ∀ m, m < 121 → 1 ≤ m → mX11_lengthOf (nI m) = some (iI (ms (m + 1) - ms m)) := by decide +kernel
theorem q_date {M N : Mem} {n : Nat} (hT : TOT M N) (hn : 20000 ≤ n) (a b : Int32) : PQ (mX10_date n a b M) (mX11_date n a b N) := by
  have e10 : ((1 : Int32) = 0) = False := eq_false (by decide)
  obtain ⟨⟨hb, hC, hM, hRS, hI⟩, -⟩ := id hT
  unfold mX10_date mX11_date mX11_dateOf mX3_yearOf mX3_monthOf mX3_dayOfMonth mX11_yearOf
  simp only [bnp_id]
  rcases isDay_c a with ⟨d, d1, d2, rfl, f1, f2⟩ | ⟨f1, f2⟩
  · obtain ⟨s1, s2, s3, s4⟩ := mo_spec d2
    rw [f1, f2, cal_mw hC d2 (by omega), cal_mo hM d2 (by omega)]
    simp only [bnp_some, e10, if_false]
    rw [chk_n (show mo d < 123 by omega) (by decide), nI_clamp (by omega), hC _ (by omega), chk_n (show mo d < 127 by omega) (by decide), hM _ (by omega)]
    rcases in_c b 0 2 3 0 2 rfl rfl rfl (by decide) (by decide) with ⟨q, hq1, hq, rfl, g1, g2, g3, g4⟩ | ⟨g4, g1⟩
    · rw [g4]
      simp only [bnp_some, e10, if_false]
      rcases (show q = 0 ∨ q = 1 ∨ q = 2 by omega) with rfl | rfl | rfl
      · exact ⟨_, rfl, rfl⟩
      · exact ⟨_, rfl, rfl⟩
      · exact ⟨_, rfl, rfl⟩
    · rw [g4]
      simp only [bnp_some, if_true]
      have c0 : ¬ b = 0 := by rintro rfl; revert g1; decide
      have c1 : ¬ b = 1 := by rintro rfl; revert g1; decide
      have c2 : ¬ b = 2 := by rintro rfl; revert g1; decide
      rw [if_neg c0, if_neg c1, if_neg c2]
      exact ⟨_, rfl, rfl⟩
  · rw [f1, f2]; exact ⟨_, rfl, rfl⟩
theorem q_day {M N : Mem} (hT : TOT M N) (a b c : Int32) : PQ (mX10_day a b c M) (mX11_day a b c N) := by
  have e10 : ((1 : Int32) = 0) = False := eq_false (by decide)
  obtain ⟨⟨hb, hC, hM, hRS, hI⟩, -⟩ := id hT
  unfold mX10_day mX11_day mX3_dayOf
  simp only [bnp_id]
  rcases in_c a 2024 2033 2034 2024 2033 (nI_lit 2024) (nI_lit 2033) (nI_lit 2034) (by decide) (by decide) with ⟨y, y1, y2, rfl, g1, g2, g3, g4⟩ | ⟨g4, g1⟩
  · rw [if_neg g1, if_neg g2, g4]
    simp only [bnp_some, e10, if_false]
    rcases in_c b 1 12 13 1 12 rfl rfl rfl (by decide) (by decide) with ⟨m, m1, m2, rfl, k1, k2, k3, k4⟩ | ⟨k4, k1⟩
    · rw [if_neg k1, if_neg k2, k4]
      simp only [bnp_some, e10, if_false]
      obtain ⟨w, hw⟩ : ∃ w, w = (y - 2024) * 12 + m := ⟨_, rfl⟩
      have w1 : 1 ≤ w := by omega
      have w2 : w < 121 := by omega
      have ew : (nI y - (2024 : Int32)) * (12 : Int32) + nI m = nI w := by
        rw [nI_lit 2024, pk_sub (by omega), show (12 : Int32) = nI 12 from rfl, pk_mul, nI_add, hw]
      have ew2 : (12 : Int32) * (nI y - (2024 : Int32)) + nI m = nI w := by
        rw [nI_lit 2024, pk_sub (by omega), show (12 : Int32) = nI 12 from rfl, pk_mul, nI_add, hw, show 12 * (y - 2024) = (y - 2024) * 12 from Nat.mul_comm _ _]
      have hstep := ms_stepB w (by omega)
      have hr := ms_rngB w (by omega)
      rw [ew, ew2, len_tab w w2 w1, show nI w + (1 : Int32) = nI (w + 1) from nI_add .., if_neg (show ¬ (123 : Int32) ≤ nI (w + 1) by rw [show (123 : Int32) = nI 123 from rfl, nI_leI (by omega) (by omega)]; omega), chk_n (show w + 1 < 123 by omega) (by decide), chk_n (show w < 123 by omega) (by decide), chk_n (show w < 123 by omega) (by decide), nI_clamp (by omega), nI_clamp (by omega), hC _ (by omega), hC _ (by omega), chk_n (show w < 127 by omega) (by decide), hM _ (by omega), iI_sub]
      simp only [bnp_some]
      unfold mX11_in
      by_cases h : c < 1
      · rw [if_neg (Int32.not_le.mpr h), if_pos h]; exact ⟨_, rfl, rfl⟩
      · rw [if_pos (Int32.not_lt.mp h), if_neg h]
        by_cases h2 : iI (ms (w + 1) - ms w) < c
        · rw [if_neg (Int32.not_le.mpr h2), if_pos h2]; exact ⟨_, rfl, rfl⟩
        · rw [if_pos (Int32.not_lt.mp h2), if_neg h2]; exact ⟨_, rfl, rfl⟩
    · rw [k4]
      rcases k1 with k1 | ⟨k1, k2, k3⟩
      · rw [if_pos k1]; exact ⟨_, rfl, rfl⟩
      · rw [if_neg k1, if_pos k2]; exact ⟨_, rfl, rfl⟩
  · rw [g4]
    rcases g1 with g1 | ⟨g1, g2, g3⟩
    · rw [if_pos g1]; exact ⟨_, rfl, rfl⟩
    · rw [if_neg g1, if_pos g2]; exact ⟨_, rfl, rfl⟩
theorem q_part {M N : Mem} {n : Nat} (hT : TOT M N) (hn : 20000 ≤ n) (a b c d : Int32) : PQ (mX10_part n a b c d M) (mX11_part n a b c d N) := by
  have e10 : ((1 : Int32) = 0) = False := eq_false (by decide)
  obtain ⟨⟨hb, hC, hM, hRS, hI⟩, -⟩ := id hT
  unfold mX10_part mX11_part
  simp only [bnp_id]
  rcases in_c a 0 999999 1000000 0 999999 (nI_lit 0) (nI_lit 999999) (nI_lit 1000000) (by decide) (by decide) with ⟨y, y1, y2, rfl, g1, g2, g3, g4⟩ | ⟨g4, g1⟩
  · rw [if_neg g1, if_neg g2, g4]
    simp only [bnp_some, e10, if_false]
    rcases isAnchor_c b with ⟨k, k1, k2, rfl, e1, e2⟩ | ⟨e1, e2⟩
    · rw [e1, e2]
      simp only [bnp_some, e10, if_false]
      rcases isDay_c c with ⟨p, d1, d2, rfl, f1, f2⟩ | ⟨f1, f2⟩
      · rw [f1, f2]
        simp only [bnp_some, e10, if_false]
        rcases isDay_c d with ⟨q, q1, q2, rfl, h1, h2⟩ | ⟨h1, h2⟩
        · rw [h1, h2]
          simp only [bnp_some, e10, if_false]
          obtain ⟨b1, b2, b3, b4, b5⟩ := LT_NT k1 d2
          by_cases hle : nI p ≤ nI q
          · rw [if_pos hle, if_neg (Int32.not_lt.mpr hle)]
            unfold mX11_slice
            rw [cal_lt hC k1 k2 d2 (by omega), cal_nt hC k1 k2 d2 (by omega), mod_nt hM k1 k2 d2 (by omega), mod_lt hM k1 k2 d2 (by omega)]
            simp only [bnp_some]
            by_cases hN : nI q ≤ iI (NT k p)
            · rw [if_pos hN, if_pos hN]
              have e : iI (NT k p) - iI (LT k p) = iI (NT k p - LT k p) := iI_sub _ _
              have e1 : (1 : Int32) ≤ iI (NT k p - LT k p) := by
                have : ((1 : Int32) ≤ iI (NT k p - LT k p)) = ((1 : Int) ≤ NT k p - LT k p) := iI_le (a := 1) (by omega) (by omega) (by omega) (by omega)
                rw [this]; omega
              unfold mX3_slice
              rw [e, if_pos e1, dvi_i (by omega) (by omega) (by omega), dvi_i (by omega) (by omega) (by omega)]
              exact ⟨_, rfl, rfl⟩
            · rw [if_neg hN, if_neg hN]; exact ⟨_, rfl, rfl⟩
          · rw [if_neg hle, if_pos (Int32.not_le.mp hle)]; exact ⟨_, rfl, rfl⟩
        · rw [h1, h2]; exact ⟨_, rfl, rfl⟩
      · rw [f1, f2]; exact ⟨_, rfl, rfl⟩
    · rw [e1, e2]; exact ⟨_, rfl, rfl⟩
  · rw [g4]
    rcases g1 with g1 | ⟨g1, g2, g3⟩
    · rw [if_pos g1]; exact ⟨_, rfl, rfl⟩
    · rw [if_neg g1, if_pos g2]; exact ⟨_, rfl, rfl⟩
theorem t_span {M N : Mem} {n : Nat} (hT : TOT M N) (hn : 20000 ≤ n) (a b c : Int32) : PQ (mX10_span n a b c M) (mX11_span n a b c N) :=
  q_span hT.1.2.1 hT.1.2.2.1 (by omega) a b c
theorem t_usage {M N : Mem} {n : Nat} (hT : TOT M N) (hn : 20000 ≤ n) (a b : Int32) : PQ (mX10_usage n a b M) (mX11_usage n a b N) :=
  q_usage hT.1.2.2.2.1.2.2.1 rfl hT.1.2.2.2.2.1.2.2.2.1 (by omega) a b
theorem t_units {M N : Mem} {n : Nat} (hT : TOT M N) (hn : 20000 ≤ n) (a b : Int32) : PQ (mX10_units n a b M) (mX11_units n a b N) :=
  q_units hT.1.2.2.2.1.2.2.1 rfl hT.1.2.2.2.2.1.2.2.2.1 hn a b
theorem t_cheapest {M N : Mem} {n : Nat} (hT : TOT M N) (hn : 20000 ≤ n) (a : Int32) : PQ (mX10_cheapest n a M) (mX11_cheapest n a N) :=
  q_cheapest hT.1.2.2.2.1.2.2.1 rfl hT.1.2.2.2.2.1.2.2.2.1 (by omega) a
theorem t_plan {M N : Mem} (hT : TOT M N) (a b : Int32) : PQ (mX10_plan a b M) (mX11_plan a b N) :=
  q_plan hT.1.2.2.2.1.2.2.1 rfl hT.1.2.2.2.2.1.2.2.2.1 a b
end
section
/-! the LINE of an ENTRY -/
def LL (M0 N0 : Mem) (T : Nat) (M N : Mem) : Prop :=
  T ≤ 80 ∧ M 205 2 = nI T ∧ N 207 19 = nI T ∧ (∀ i, i < T → ∃ v, v < 128 ∧ M 206 i = nI v ∧ N 216 i = nI v) ∧ (∀ o k, (o < 205 ∨ (o = 205 ∧ k ≠ 2)) → M o k = M0 o k) ∧ (∀ o k, o ≠ 216 → (o = 207 → k ≠ 19) → N o k = N0 o k)
theorem nar_b : ∀ v, v < 128 → vp_nar .byte (Int8.toInt32 (Int32.toInt8 (nI v))) = nI v := by decide +kernel
theorem and_b : ∀ v, v < 128 → nI v &&& 255 = nI v := by decide +kernel
theorem L_put {M0 N0 M N : Mem} {T v : Nat} (h : LL M0 N0 T M N) (hT : T < 80) (hv : v < 128) : ∃ M' N', mX6_put (nI v) M = some M' ∧ mX11_says (nI v) N = some N' ∧ LL M0 N0 (T + 1) M' N' := by
  obtain ⟨h0, h1, h2, h3, h4, h5⟩ := h
  unfold mX6_put mX11_says
  rw [h1, h2, nar_b v hv, if_neg (nI_pos (by omega)), if_neg (show ¬ (80 : Int32) ≤ nI T by rw [show (80 : Int32) = nI 80 from rfl, nI_leI (by omega) (by omega)]; omega), chk_n hT (by decide), chk_n hT (by decide), nI_clamp (by omega)]
  simp only [lt_eq]
  rw [u2o _ _ (by decide), u2o _ _ (by decide), h1, h2, show (1 : Int32) = nI 1 from rfl, nI_add]
  refine ⟨_, _, rfl, rfl, by omega, u2s _ _ _ _, u2s _ _ _ _, fun i hi => ?_, fun o k g => ?_, fun o k g1 g2 => ?_⟩
  · rw [show upd2 (upd2 M 206 T (nI v)) 205 2 (nI (T + 1)) 206 i = upd2 M 206 T (nI v) 206 i from u2o _ _ (by decide), show upd2 (upd2 N 216 T (nI v)) 207 19 (nI (T + 1)) 216 i = upd2 N 216 T (nI v) 216 i from u2o _ _ (by decide)]
    by_cases q : i = T
    · subst q; exact ⟨v, hv, u2s _ _ _ _, u2s _ _ _ _⟩
    · rw [u2k _ _ q, u2k _ _ q]; exact h3 i (by omega)
  · have e : upd2 (upd2 M 206 T (nI v)) 205 2 (nI (T + 1)) o k = upd2 M 206 T (nI v) o k := by
      rcases g with g | ⟨g, g2⟩
      · exact u2o _ _ (by omega)
      · subst g; exact u2k _ _ g2
    rw [e, u2o _ _ (by omega)]; exact h4 o k g
  · have e : upd2 (upd2 N 216 T (nI v)) 207 19 (nI (T + 1)) o k = upd2 N 216 T (nI v) o k := by
      by_cases q : o = 207
      · subst q; exact u2k _ _ (g2 rfl)
      · exact u2o _ _ q
    rw [e, u2o _ _ g1]; exact h5 o k g1 g2
/-! numbers in digits -/
def uu (r : Nat) : Nat := 10 ^ r / 10
theorem uu_s (r : Nat) : uu (r + 1) = 10 ^ r := by
  unfold uu; rw [Nat.pow_succ]; exact Nat.mul_div_cancel _ (by decide)
theorem uu_d (r : Nat) : uu (r + 1) / 10 = uu r := by rw [uu_s]; rfl
theorem p10_le {r : Nat} (h : r ≤ 9) : 10 ^ r ≤ 1000000000 := by
  have := Nat.pow_le_pow_right (n := 10) (by decide) h
  exact Nat.le_trans this (by decide)
theorem p10_pos (r : Nat) : 0 < 10 ^ r := Nat.pow_pos (by decide)
theorem L_dig {M0 N0 : Mem} {n v : Nat} (hv : v < 2 ^ 31) : ∀ (r k i i' T : Nat) (M N : Mem), r < k → i + r ≤ 10 → i' + r ≤ 10 → r ≤ 9 → T + r ≤ 80 → LL M0 N0 T M N →
    ∃ M' N', mX6_putNumber_c40 n k (nI v) (nI (uu r)) (nI i) M = some M' ∧ mX11_saysNumber_c53 n k (nI v) (nI (i' + r)) (nI (uu r)) (nI i') N = some N' ∧ LL M0 N0 (T + r) M' N'
  | r, 0, _, _, _, _, _, h, _, _, _, _, _ => absurd h (Nat.not_lt_zero _)
  | 0, k + 1, i, i', T, M, N, h, h1, h2, h3, h4, hL => by
    unfold mX6_putNumber_c40 mX11_saysNumber_c53
    rw [if_pos (show nI (i' + 0) ≤ nI i' from Int32.le_refl _), if_pos (show nI (uu 0) ≤ (0 : Int32) by decide)]
    refine ⟨M, N, ?_, rfl, hL⟩
    split <;> rfl
  | r + 1, k + 1, i, i', T, M, N, h, h1, h2, h3, h4, hL => by
    have hu := uu_s r
    have hp := p10_le (r := r) (by omega)
    have hq := p10_pos r
    have hd := uu_d r
    have e1 : nI v / nI (uu (r + 1)) = nI (v / 10 ^ r) := by rw [hu]; exact pk_div hv hq (by omega)
    have hdv : v / 10 ^ r < 2 ^ 31 := Nat.lt_of_le_of_lt (Nat.div_le_self _ _) hv
    have e2 : (48 : Int32) + (nI (v / 10 ^ r) - nI (v / 10 ^ r) / (10 : Int32) * (10 : Int32)) = nI (48 + v / 10 ^ r % 10) := by
      rw [show (10 : Int32) = nI 10 from rfl, pk_rem hdv (by decide) (by decide), show (48 : Int32) = nI 48 from rfl, nI_add]
    have e3 : nI (uu (r + 1)) / (10 : Int32) = nI (uu r) := by rw [show (10 : Int32) = nI 10 from rfl, pk_div (by omega) (by decide) (by decide), hd]
    obtain ⟨M1, N1, p1, p2, p3⟩ := L_put (v := 48 + v / 10 ^ r % 10) hL (by omega) (by have := Nat.mod_lt (v / 10 ^ r) (show 10 > 0 by decide); omega)
    obtain ⟨M2, N2, q1, q2, q3⟩ := L_dig (n := n) hv r k (i + 1) (i' + 1) (T + 1) M1 N1 (by omega) (by omega) (by omega) (by omega) (by omega) p3
    refine ⟨M2, N2, ?_, ?_, by rw [show T + (r + 1) = T + 1 + r by omega]; exact q3⟩
    · unfold mX6_putNumber_c40
      rw [if_neg (show ¬ (10 : Int32) ≤ nI i by rw [show (10 : Int32) = nI 10 from rfl, nI_leI (by omega) (by omega)]; omega), if_neg (show ¬ nI (uu (r + 1)) ≤ 0 by rw [show (0 : Int32) = nI 0 from rfl, nI_leI (by omega) (by omega)]; omega), dvi_n (by omega) (by omega), e1, e2, e3, p1, show nI i + (1 : Int32) = nI (i + 1) from nI_add ..]
      exact q1
    · unfold mX11_saysNumber_c53
      rw [if_neg (show ¬ nI (i' + (r + 1)) ≤ nI i' by rw [nI_leI (by omega) (by omega)]; omega), dvi_n (by omega) (by omega), e1, e2, e3, p2, show nI i' + (1 : Int32) = nI (i' + 1) from nI_add .., show i' + (r + 1) = i' + 1 + r by omega]
      exact q2
def Dg (v least : Nat) : Nat → Nat → Nat
  | t, 0 => t
  | t, d + 1 => if t < least ∨ 10 ^ t ≤ v then Dg v least (t + 1) d else t
theorem Dg_s (v least t d : Nat) : Dg v least t (d + 1) = if t < least ∨ 10 ^ t ≤ v then Dg v least (t + 1) d else t := rfl
theorem Dg_le {v least m : Nat} (hv : v < 10 ^ m) (hl : least ≤ m) : ∀ (d t : Nat), t ≤ m → t ≤ Dg v least t d ∧ Dg v least t d ≤ m
  | 0, t, h => ⟨Nat.le_refl _, h⟩
  | d + 1, t, h => by
    rw [Dg_s]
    split
    · next q =>
      have : t < m := by
        rcases q with q | q
        · omega
        · rcases Nat.lt_or_ge t m with z | z
          · exact z
          · have := Nat.pow_le_pow_right (n := 10) (by decide) z
            omega
      have := Dg_le hv hl d (t + 1) this
      omega
    · exact ⟨Nat.le_refl _, h⟩
theorem Dg_skip {v least : Nat} : ∀ (e t d : Nat), t + e = least → Dg v least t (e + d) = Dg v least least d
  | 0, t, d, h => by
    have : t = least := by omega
    rw [this, Nat.zero_add]
  | e + 1, t, d, h => by
    rw [show e + 1 + d = (e + d) + 1 by omega, Dg_s, if_pos (Or.inl (by omega)), Dg_skip e (t + 1) d (by omega)]
theorem p10_s {t : Nat} (h : 1 ≤ t) : 10 ^ (t - 1) * 10 = 10 ^ t := by
  rw [← Nat.pow_succ]; congr 1; omega
theorem c_num_go {n v least : Nat} {M : Mem} (hv : v < 10 ^ 8) (hl : least ≤ 8) : ∀ (d k t : Nat), t + d = 8 → d < k → 1 ≤ t → mX6_putNumber_c5 n k (nI v) (nI least) (nI (10 ^ (t - 1))) (nI t) M = mX6_putNumber_c40 n n (nI v) (nI (10 ^ (Dg v least t d - 1))) 0 M
  | d, 0, _, _, h, _ => absurd h (Nat.not_lt_zero _)
  | 0, k + 1, t, e, h, ht => by
    have ht8 : t = 8 := by omega
    subst ht8
    have h8 : v < 100000000 := hv
    unfold mX6_putNumber_c5
    rw [if_neg (show ¬ (10 : Int32) ≤ nI 8 by decide), if_neg (show ¬ nI 8 < nI least by rw [nI_ltI (by omega) (by omega)]; omega), show (10 : Int32) = nI 10 from rfl, pk_div (by omega) (by decide) (by decide), if_pos (show nI (v / 10) < nI (10 ^ (8 - 1)) by rw [nI_ltI (by omega) (by decide)]; omega)]
    rfl
  | d + 1, k + 1, t, e, h, ht => by
    have h8 : v < 100000000 := hv
    have ih := c_num_go (n := n) (M := M) hv hl d k (t + 1) (by omega) (by omega) (by omega)
    have hp := p10_le (r := t - 1) (by omega)
    have hp2 := p10_s ht
    unfold mX6_putNumber_c5
    rw [if_neg (show ¬ (10 : Int32) ≤ nI t by rw [show (10 : Int32) = nI 10 from rfl, nI_leI (by omega) (by omega)]; omega), show (10 : Int32) = nI 10 from rfl, pk_div (by omega) (by decide) (by decide), pk_mul, hp2, show nI t + (1 : Int32) = nI (t + 1) from nI_add .., Dg_s]
    rw [show t + 1 - 1 = t by omega] at ih
    by_cases q : t < least
    · rw [if_pos (show nI t < nI least by rw [nI_ltI (by omega) (by omega)]; exact q), if_pos (Or.inl q), ih]
    · rw [if_neg (show ¬ nI t < nI least by rw [nI_ltI (by omega) (by omega)]; exact q)]
      by_cases q2 : 10 ^ t ≤ v
      · rw [if_neg (show ¬ nI (v / 10) < nI (10 ^ (t - 1)) by rw [nI_ltI (by omega) (by omega)]; omega), if_pos (Or.inr q2), ih]
      · rw [if_pos (show nI (v / 10) < nI (10 ^ (t - 1)) by rw [nI_ltI (by omega) (by omega)]; omega), if_neg (by omega)]
theorem m_num_go {n v least : Nat} {N : Mem} (hv : v < 10 ^ 8) : ∀ (d k t : Nat), t + d = 8 → d < k → 1 ≤ t → least ≤ t → mX11_saysNumber_c27 n k (nI v) (nI t) (nI (10 ^ (t - 1))) N = mX11_saysNumber_c53 n n (nI v) (nI (Dg v least t d)) (nI (10 ^ (Dg v least t d - 1))) 0 N
  | d, 0, _, _, h, _, _ => absurd h (Nat.not_lt_zero _)
  | 0, k + 1, t, e, h, ht, hl => by
    have ht8 : t = 8 := by omega
    subst ht8
    have h8 : v < 100000000 := hv
    unfold mX11_saysNumber_c27
    rw [dvi_n (show 0 < 10 ^ (8 - 1) by decide) (by decide), pk_div (by omega) (by decide) (by decide), if_pos (show nI (v / 10 ^ (8 - 1)) ≤ (9 : Int32) by rw [show (9 : Int32) = nI 9 from rfl, nI_leI (by omega) (by omega)]; omega)]
    rfl
  | d + 1, k + 1, t, e, h, ht, hl => by
    have h8 : v < 100000000 := hv
    have ih := m_num_go (n := n) (N := N) (least := least) hv d k (t + 1) (by omega) (by omega) (by omega) (by omega)
    have hp := p10_le (r := t - 1) (by omega)
    have hq := p10_pos (t - 1)
    have hp2 := p10_s ht
    have hdv : v / 10 ^ (t - 1) ≤ v := Nat.div_le_self _ _
    have hiff : v / 10 ^ (t - 1) ≤ 9 ↔ v < 10 ^ t := by
      rw [← Nat.lt_succ_iff, Nat.div_lt_iff_lt_mul hq, Nat.mul_comm, hp2]
    unfold mX11_saysNumber_c27
    rw [dvi_n hq (by omega), pk_div (by omega) hq (by omega), show (10 : Int32) = nI 10 from rfl, pk_mul, hp2, show nI t + (1 : Int32) = nI (t + 1) from nI_add .., Dg_s]
    rw [show t + 1 - 1 = t by omega] at ih
    by_cases q2 : 10 ^ t ≤ v
    · rw [if_neg (show ¬ nI (v / 10 ^ (t - 1)) ≤ (9 : Int32) by rw [show (9 : Int32) = nI 9 from rfl, nI_leI (by omega) (by omega), hiff]; omega), if_pos (Or.inr q2), ih]
    · rw [if_pos (show nI (v / 10 ^ (t - 1)) ≤ (9 : Int32) by rw [show (9 : Int32) = nI 9 from rfl, nI_leI (by omega) (by omega), hiff]; omega), if_neg (by omega)]
theorem m_pre_go {n v least : Nat} {N : Mem} (hl : least ≤ 8) : ∀ (e k t : Nat), t + e = least → e < k → 1 ≤ t → mX11_saysNumber_c8 n k (nI v) (nI least) (nI least) (nI (10 ^ (t - 1))) (nI t) N = mX11_saysNumber_c27 n n (nI v) (nI least) (nI (10 ^ (least - 1))) N
  | e, 0, _, _, h, _ => absurd h (Nat.not_lt_zero _)
  | 0, k + 1, t, e, h, ht => by
    have : t = least := by omega
    subst this
    unfold mX11_saysNumber_c8
    rw [if_pos (Int32.le_refl _)]
  | e + 1, k + 1, t, e0, h, ht => by
    have ih := m_pre_go (n := n) (v := v) (N := N) hl e k (t + 1) (by omega) (by omega) (by omega)
    have hp2 := p10_s ht
    unfold mX11_saysNumber_c8
    rw [if_neg (show ¬ nI least ≤ nI t by rw [nI_leI (by omega) (by omega)]; omega), show (10 : Int32) = nI 10 from rfl, pk_mul, hp2, show nI t + (1 : Int32) = nI (t + 1) from nI_add ..]
    rw [show t + 1 - 1 = t by omega] at ih
    exact ih
theorem L_num {M0 N0 M N : Mem} {n v least m T : Nat} (h : LL M0 N0 T M N) (hn : 20000 ≤ n) (hv : v < 10 ^ m) (hl : least ≤ m) (hm : m ≤ 8) (hl1 : 1 ≤ least) (hT : T + m ≤ 80) : ∃ T' M' N', T' ≤ T + m ∧ mX6_putNumber n (nI v) (nI least) M = some M' ∧ mX11_saysNumber n (nI v) (nI least) N = some N' ∧ LL M0 N0 T' M' N' := by
  have hv8 : v < 10 ^ 8 := Nat.lt_of_lt_of_le hv (Nat.pow_le_pow_right (by decide) hm)
  have h8 : v < 100000000 := hv8
  obtain ⟨d1, d2⟩ := Dg_le hv hl 7 1 (by omega)
  have c := c_num_go (n := n) (M := M) hv8 (show least ≤ 8 by omega) 7 n 1 rfl (by omega) (Nat.le_refl _)
  have m1 := m_pre_go (n := n) (v := v) (N := N) (show least ≤ 8 by omega) (least - 1) n 1 (by omega) (by omega) (Nat.le_refl _)
  have m2 := m_num_go (n := n) (N := N) (least := least) hv8 (8 - least) n least (by omega) (by omega) hl1 (Nat.le_refl _)
  have hsk := Dg_skip (v := v) (least := least) (least - 1) 1 (8 - least) (by omega)
  rw [show least - 1 + (8 - least) = 7 by omega] at hsk
  rw [← hsk] at m2
  obtain ⟨D, hD⟩ : ∃ D, D = Dg v least 1 7 := ⟨_, rfl⟩
  rw [← hD] at c m2 d1 d2
  obtain ⟨M', N', q1, q2, q3⟩ := L_dig (n := n) (v := v) (show v < 2 ^ 31 by omega) D n 0 0 T M N (by omega) (by omega) (by omega) (by omega) (by omega) h
  have hu : uu D = 10 ^ (D - 1) := by
    obtain ⟨D', rfl⟩ : ∃ D', D = D' + 1 := ⟨D - 1, by omega⟩
    exact uu_s D'
  rw [hu] at q1 q2
  rw [Nat.zero_add] at q2
  refine ⟨T + D, M', N', by omega, ?_, ?_, q3⟩
  · exact c.trans q1
  · exact (m1.trans m2).trans q2
/-! dates, words -/
theorem LL_cal {M0 N0 M N : Mem} {T : Nat} (h : LL M0 N0 T M N) (hC : CalC M0) (hM : CalM N0) : CalC M ∧ CalM N :=
  ⟨fun m hm => by rw [h.2.2.2.2.1 3 m (by omega)]; exact hC m hm, fun m hm => by rw [h.2.2.2.2.2 208 m (by decide) (fun h => absurd h (by decide))]; exact hM m hm⟩
theorem L_date {M0 N0 M N : Mem} {n d T : Nat} (h : LL M0 N0 T M N) (hC : CalC M0) (hM : CalM N0) (hn : 20000 ≤ n) (hd : d ≤ 3652) (hT : T + 10 ≤ 80) : ∃ T' M' N', T' ≤ T + 10 ∧ mX6_putDate n (nI d) M = some M' ∧ mX11_saysDate n (nI d) N = some N' ∧ LL M0 N0 T' M' N' := by
  obtain ⟨s1, s2, s3, s4⟩ := mo_spec hd
  have hstep := ms_stepB (mo d) (by omega)
  have hr := ms_rngB (mo d) (by omega)
  obtain ⟨w, hw⟩ : ∃ w : Nat, (w : Int) = (d : Int) - ms (mo d) + 1 := ⟨((d : Int) - ms (mo d) + 1).toNat, by omega⟩
  have ey : (2023 : Int32) + (nI (mo d) + (11 : Int32)) / (12 : Int32) = nI (2023 + (mo d + 11) / 12) := by
    rw [nI_lit 2023, show (11 : Int32) = nI 11 from rfl, show (12 : Int32) = nI 12 from rfl, nI_add, pk_div (by omega) (by decide) (by decide), nI_add]
  have em : ((nI (mo d) + (11 : Int32)) - (nI (mo d) + (11 : Int32)) / (12 : Int32) * (12 : Int32)) + (1 : Int32) = nI ((mo d + 11) % 12 + 1) := by
    rw [show (11 : Int32) = nI 11 from rfl, show (12 : Int32) = nI 12 from rfl, show (1 : Int32) = nI 1 from rfl, nI_add, pk_rem (by omega) (by decide) (by decide), nI_add]
  have ed : (nI d - iI (ms (mo d))) + (1 : Int32) = nI w := by
    rw [show (1 : Int32) = iI 1 from rfl, iI_n, iI_sub, iI_add, iI_n, hw]
  have cy : ∀ M, CalC M → mX3_yearOf n (nI d) M = some (nI (2023 + (mo d + 11) / 12)) := fun M hC => by
    unfold mX3_yearOf; rw [cal_mw hC hd (by omega)]; simp only [bnp_some]; rw [ey]
  have cm : ∀ M, CalC M → mX3_monthOf n (nI d) M = some (nI ((mo d + 11) % 12 + 1)) := fun M hC => by
    unfold mX3_monthOf; rw [cal_mw hC hd (by omega)]; simp only [bnp_some]; rw [em]
  have cd : ∀ M, CalC M → mX3_dayOfMonth n (nI d) M = some (nI w) := fun M hC => by
    unfold mX3_dayOfMonth; rw [cal_mw hC hd (by omega)]; simp only [bnp_some]; rw [chk_n (show mo d < 123 by omega) (by decide), nI_clamp (by omega), hC _ (by omega), ed]
  have my : ∀ N, CalM N → mX11_dateOf n (nI d) (0 : Int32) N = some (nI (2023 + (mo d + 11) / 12)) := fun N hM => by
    unfold mX11_dateOf mX11_yearOf; rw [cal_mo hM hd (by omega)]; simp only [bnp_some, if_true]; rw [ey]
  have mm : ∀ N, CalM N → mX11_dateOf n (nI d) (1 : Int32) N = some (nI ((mo d + 11) % 12 + 1)) := fun N hM => by
    unfold mX11_dateOf; rw [cal_mo hM hd (by omega)]; simp only [bnp_some, if_true]; rw [if_neg (show ¬ (1 : Int32) = 0 by decide), em]
  have md : ∀ N, CalM N → mX11_dateOf n (nI d) (2 : Int32) N = some (nI w) := fun N hM => by
    unfold mX11_dateOf; rw [cal_mo hM hd (by omega)]; simp only [bnp_some]; rw [if_neg (show ¬ (2 : Int32) = 0 by decide), if_neg (show ¬ (2 : Int32) = 1 by decide), chk_n (show mo d < 127 by omega) (by decide), nI_clamp (by omega), hM _ (by omega), ed]
  unfold mX6_putDate mX11_saysDate
  obtain ⟨hC1, hM1⟩ := LL_cal h hC hM
  rw [cy _ hC1, my _ hM1]
  simp only [bnp_some]
  obtain ⟨T1, M1, N1, l1, a1, a2, a3⟩ := L_num (n := n) (v := 2023 + (mo d + 11) / 12) (least := 4) (m := 4) h hn (by omega) (by decide) (by decide) (by decide) (by omega)
  rw [show (4 : Int32) = nI 4 from rfl, a1, a2]
  simp only [bnp_some]
  obtain ⟨M2, N2, b1, b2, b3⟩ := L_put (v := 45) a3 (by omega) (by decide)
  rw [show mX6_put (45 : Int32) M1 = _ from b1, show mX11_says (45 : Int32) N1 = _ from b2]
  simp only [bnp_some]
  obtain ⟨hC2, hM2⟩ := LL_cal b3 hC hM
  rw [cm _ hC2, mm _ hM2]
  simp only [bnp_some]
  obtain ⟨T3, M3, N3, l3, c1, c2, c3⟩ := L_num (n := n) (v := (mo d + 11) % 12 + 1) (least := 2) (m := 2) b3 hn (by omega) (by decide) (by decide) (by decide) (by omega)
  rw [show (2 : Int32) = nI 2 from rfl, c1, c2]
  simp only [bnp_some]
  obtain ⟨M4, N4, d1, d2, d3⟩ := L_put (v := 45) c3 (by omega) (by decide)
  rw [show mX6_put (45 : Int32) M3 = _ from d1, show mX11_says (45 : Int32) N3 = _ from d2]
  simp only [bnp_some]
  obtain ⟨hC4, hM4⟩ := LL_cal d3 hC hM
  rw [cd _ hC4, show mX11_dateOf n (nI d) (nI 2) N4 = _ from md _ hM4]
  simp only [bnp_some]
  obtain ⟨T5, M5, N5, l5, e1, e2, e3⟩ := L_num (n := n) (v := w) (least := 2) (m := 2) d3 hn (by omega) (by decide) (by decide) (by decide) (by omega)
  rw [e1, e2]
  exact ⟨T5, M5, N5, by omega, rfl, rfl, e3⟩
def putL : List Int32 → Mem → Option Mem
  | [], M => some M
  | v :: vs, M => bnp (mX6_put v M) fun M1 => putL vs M1
def sayL : List Int32 → Mem → Option Mem
  | [], M => some M
  | v :: vs, M => bnp (mX11_says v M) fun M1 => sayL vs M1
theorem L_list {M0 N0 : Mem} : ∀ (l : List Int32) (T : Nat) (M N : Mem), (∀ c ∈ l, ∃ v, v < 128 ∧ c = nI v) → T + l.length ≤ 80 → LL M0 N0 T M N → ∃ M' N', putL l M = some M' ∧ sayL l N = some N' ∧ LL M0 N0 (T + l.length) M' N'
  | [], T, M, N, _, _, h => ⟨M, N, rfl, rfl, h⟩
  | c :: l, T, M, N, hc, hT, h => by
    rw [List.length_cons] at hT
    obtain ⟨v, hv, rfl⟩ := hc c (List.mem_cons_self ..)
    obtain ⟨M1, N1, p1, p2, p3⟩ := L_put (v := v) h (by omega) hv
    obtain ⟨M2, N2, q1, q2, q3⟩ := L_list l (T + 1) M1 N1 (fun c h => hc c (List.mem_cons_of_mem _ h)) (by omega) p3
    refine ⟨M2, N2, ?_, ?_, ?_⟩
    · unfold putL; rw [p1]; exact q1
    · unfold sayL; rw [p2]; exact q2
    · rw [List.length_cons, show T + (l.length + 1) = T + 1 + l.length by omega]; exact q3
def by3 (i : Nat) : Int32 := (sByt.getD 3 []).getD i 0
def wlK : Nat → Nat → List Int32
  | _, 0 => []
  | i, d + 1 => if by3 i = 32 then wlK (i + 1) d else by3 i :: wlK (i + 1) d
theorem sL3 : sLen.getD 3 0 = 36 := rfl
theorem c_kind_go {n q : Nat} (hq : q ≤ 5) : ∀ (d k i : Nat) (M : Mem), i + d = 6 * q + 6 → d < k → mX6_putKind_c7 n k (nI (6 * q)) (nI i) M = putL (wlK i d) M
  | d, 0, _, _, _, h => absurd h (Nat.not_lt_zero _)
  | 0, k + 1, i, M, e, h => by
    unfold mX6_putKind_c7
    rw [if_neg (nI_pos (by omega)), show (6 : Int32) = nI 6 from rfl, nI_add, if_pos (show nI (6 * q + 6) ≤ nI i by rw [nI_leI (by omega) (by omega)]; omega)]; rfl
  | d + 1, k + 1, i, M, e, h => by
    have ih := fun M => c_kind_go (n := n) hq d k (i + 1) M (by omega) (by omega)
    unfold mX6_putKind_c7
    rw [if_neg (nI_pos (by omega)), show (6 : Int32) = nI 6 from rfl, nI_add, if_neg (show ¬ nI (6 * q + 6) ≤ nI i by rw [nI_leI (by omega) (by omega)]; omega), sL3, if_neg (show ¬ Int32.ofNat 36 ≤ nI i by rw [show Int32.ofNat 36 = nI 36 from rfl, nI_leI (by omega) (by omega)]; omega), chk_n (show i < 36 by omega) (by decide), chk_n (show i < 36 by omega) (by decide), nI_clamp (by omega), show nI i + (1 : Int32) = nI (i + 1) from nI_add ..]
    unfold wlK
    show (if by3 i = 32 then _ else bnp (mX6_put (by3 i) M) _) = _
    by_cases z : by3 i = 32
    · rw [if_pos z, if_pos z, ih]
    · rw [if_neg z, if_neg z]
      unfold putL
      congr 1
      funext M2
      exact ih M2
def slW (w : Int64) : Nat → List Int32
  | 0 => []
  | j + 1 => if (lg_cmp (w >>> (Int32.toInt64 ((5 : Int32) * nI j) &&& 63)) (0 : Int64)) ≤ 0 then slW w j else ((96 : Int32) + (Int64.toInt32 ((w >>> (Int32.toInt64 ((5 : Int32) * nI j) &&& 63)) &&& (31 : Int64)))) :: slW w j
theorem m_word_go {n : Nat} {w : Int64} : ∀ (j k : Nat) (N : Mem), j < k → j ≤ 8 → mX11_saysWord_c3 n k w (iI ((j : Int) - 1)) N = sayL (slW w j) N
  | j, 0, _, h, _ => absurd h (Nat.not_lt_zero _)
  | 0, k + 1, N, h, _ => by
    unfold mX11_saysWord_c3
    rw [if_pos (show iI (((0 : Nat) : Int) - 1) < 0 by decide)]; rfl
  | j + 1, k + 1, N, h, h8 => by
    have ih := fun N => m_word_go (n := n) (w := w) j k N (by omega) (by omega)
    have e1 : iI (((j + 1 : Nat) : Int) - 1) = nI j := by rw [iI_n]; congr 1; omega
    have e2 : nI j + -1 = iI ((j : Int) - 1) := by
      rw [show (-1 : Int32) = iI (-1) from rfl, iI_n, iI_add]; congr 1
    unfold mX11_saysWord_c3 slW
    rw [e1, if_neg (nI_pos (by omega)), e2]
    by_cases z : (lg_cmp (w >>> (Int32.toInt64 ((5 : Int32) * nI j) &&& 63)) (0 : Int64)) ≤ 0
    · rw [if_pos z, if_pos z, ih]
    · rw [if_neg z, if_neg z]
      unfold sayL
      congr 1
      funext M2
      exact ih M2
def kwd (q : Nat) : Int64 := match q with
  | 0 => 109103333
  | 1 => 119705908
  | 2 => 22643941
  | 3 => 203112114
  | 4 => 693713060
  | _ => 6309
theorem kw_tab : ∀ q, q < 6 → (mX11_kindWord (nI q) = some (kwd q) ∧ slW (kwd q) 8 = wlK (6 * q) 6 ∧ (wlK (6 * q) 6).length ≤ 7 ∧ ∀ c ∈ wlK (6 * q) 6, c = nI c.toNatClampNeg ∧ c.toNatClampNeg < 128) := by decide +kernel
theorem to_tab : slW 655 8 = [nI 116, nI 111] := by decide +kernel
theorem L_kind {M0 N0 M N : Mem} {n q T : Nat} (h : LL M0 N0 T M N) (hn : 20000 ≤ n) (hq : q ≤ 5) (hT : T + 7 ≤ 80) : ∃ T' M' N', T' ≤ T + 7 ∧ mX6_putKind n (nI q) M = some M' ∧ mX11_kindWord (nI q) = some (kwd q) ∧ mX11_saysWord n (kwd q) N = some N' ∧ LL M0 N0 T' M' N' := by
  obtain ⟨k1, k2, k3, k4⟩ := kw_tab q (by omega)
  have c := c_kind_go (n := n) hq 6 n (6 * q) M rfl (by omega)
  have m := m_word_go (n := n) (w := kwd q) 8 n N (by omega) (by decide)
  rw [k2] at m
  obtain ⟨M', N', p1, p2, p3⟩ := L_list (wlK (6 * q) 6) T M N (fun c hc => ⟨_, (k4 c hc).2, (k4 c hc).1⟩) (by omega) h
  refine ⟨_, M', N', by omega, ?_, k1, m.trans p2, p3⟩
  unfold mX6_putKind
  rw [show (6 : Int32) = nI 6 from rfl, pk_mul, Nat.mul_comm]
  exact c.trans p1
theorem L_to {M0 N0 M N : Mem} {n T : Nat} (h : LL M0 N0 T M N) (hn : 20000 ≤ n) (hT : T + 2 ≤ 80) : ∃ M1 M' N', mX6_put (116 : Int32) M = some M1 ∧ mX6_put (111 : Int32) M1 = some M' ∧ mX11_saysWord n (655 : Int64) N = some N' ∧ LL M0 N0 (T + 2) M' N' := by
  have m := m_word_go (n := n) (w := 655) 8 n N (by omega) (by decide)
  rw [to_tab] at m
  obtain ⟨M1, N1, p1, p2, p3⟩ := L_put (v := 116) h (by omega) (by decide)
  obtain ⟨M2, N2, q1, q2, q3⟩ := L_put (v := 111) p3 (by omega) (by decide)
  refine ⟨M1, M2, N2, p1, q1, ?_, q3⟩
  refine m.trans ?_
  unfold sayL
  rw [p2]
  show (bnp (mX11_says (nI 111) N1) fun M1 => sayL [] M1) = _
  rw [q2]; rfl
theorem L_euro {M0 N0 M N : Mem} {n T : Nat} {c : Int32} (h : LL M0 N0 T M N) (hn : 20000 ≤ n) (hc : -2147483647 ≤ c.toInt) (hT : T + 12 ≤ 80) : ∃ T' M' N', T' ≤ 80 ∧ mX6_putEuros n c M = some M' ∧ (if 0 ≤ c then (if 0 ≤ c then (mX11_laysLine_c140 n c N) else (mX11_laysLine_c140 n (-c) N)) else (bnp (mX11_says (45 : Int32) N) fun M41 => (if 0 ≤ c then (mX11_laysLine_c140 n c M41) else (mX11_laysLine_c140 n (-c) M41)))) = some N' ∧ LL M0 N0 T' M' N' := by
  have hlt := Int32.toInt_lt c
  have core : ∀ (T w : Nat) (M N : Mem), w ≤ 2147483647 → T + 11 ≤ 80 → LL M0 N0 T M N → (if 0 ≤ c then c else 0 - c) = nI w → ∃ T' M' N', T' ≤ 80 ∧ mX6_putEuros_c10 n c M = some M' ∧ mX11_laysLine_c140 n (nI w) N = some N' ∧ LL M0 N0 T' M' N' := by
    intro T w M N hw hT h e
    unfold mX6_putEuros_c10 mX11_laysLine_c140
    have d1 : nI w / (100 : Int32) = nI (w / 100) := by rw [show (100 : Int32) = nI 100 from rfl]; exact pk_div (by omega) (by decide) (by decide)
    have d2 : nI w - nI w / (100 : Int32) * (100 : Int32) = nI (w % 100) := by rw [show (100 : Int32) = nI 100 from rfl]; exact pk_rem (by omega) (by decide) (by decide)
    rw [e, d2, d1]
    obtain ⟨T1, M1, N1, l1, a1, a2, a3⟩ := L_num (n := n) (v := w / 100) (least := 1) (m := 8) h hn (by omega) (by decide) (by decide) (by decide) (by omega)
    rw [show (1 : Int32) = nI 1 from rfl, a1, a2]
    simp only [bnp_some]
    obtain ⟨M2, N2, b1, b2, b3⟩ := L_put (v := 46) a3 (by omega) (by decide)
    rw [show mX6_put (46 : Int32) M1 = _ from b1, show mX11_says (46 : Int32) N1 = _ from b2]
    simp only [bnp_some]
    obtain ⟨T3, M3, N3, l3, c1, c2, c3⟩ := L_num (n := n) (v := w % 100) (least := 2) (m := 2) b3 hn (by omega) (by decide) (by decide) (by decide) (by omega)
    rw [show (2 : Int32) = nI 2 from rfl, c1, c2]
    exact ⟨T3, M3, N3, by omega, rfl, rfl, c3⟩
  unfold mX6_putEuros
  by_cases z : 0 ≤ c
  · have z' := Int32.le_iff_toInt_le.mp z
    rw [Int32.toInt_zero] at z'
    have ec : c = nI c.toInt.toNat := by rw [iI_n, Int.toNat_of_nonneg z']; exact iI_of c
    rw [if_pos z, if_pos z, if_pos z]
    obtain ⟨T', M', N', p0, p1, p2, p3⟩ := core T c.toInt.toNat M N (by omega) (by omega) h (by rw [if_pos z]; exact ec)
    rw [← ec] at p2
    exact ⟨T', M', N', p0, p1, p2, p3⟩
  · have z' := Int32.lt_iff_toInt_lt.mp (Int32.not_le.mp z)
    rw [Int32.toInt_zero] at z'
    have ec : -c = nI (-c.toInt).toNat := by
      rw [iI_n, Int.toNat_of_nonneg (by omega), ← iI_neg, ← iI_of]
    rw [if_neg z, if_neg z]
    obtain ⟨M1, N1, b1, b2, b3⟩ := L_put (v := 45) h (by omega) (by decide)
    rw [show mX6_put (45 : Int32) M = _ from b1, show mX11_says (45 : Int32) N = _ from b2]
    simp only [bnp_some]
    rw [if_neg z]
    obtain ⟨T', M', N', p0, p1, p2, p3⟩ := core (T + 1) (-c.toInt).toNat M1 N1 (by omega) (by omega) b3 (by rw [if_neg z, Int32.zero_sub]; exact ec)
    rw [← ec] at p2
    exact ⟨T', M', N', p0, p1, p2, p3⟩
end
section
/-! line -/
theorem m_entN {M0 N0 M N : Mem} {T i w : Nat} (h : LL M0 N0 T M N) (hi : i < 400) (hw : w < 10) : mX11_entryOf (nI i) (nI w) N = some (fE (N0 209) i w) := by
  have e : N 209 = N0 209 := funext fun k => h.2.2.2.2.2 209 k (by decide) (fun h => absurd h (by decide))
  rw [← e]; exact m_entryOf hi hw
theorem line_go {M0 N0 M N : Mem} {n i : Nat} (hE : RE 40 M0 (N0 209)) (hI : INV0 (N0 209)) (hC : CalC M0) (hM : CalM N0) (hi : i < sz (N0 209)) (hn : 20000 ≤ n) (hM1 : M = upd2 M0 205 2 0) (hN1 : N = upd2 N0 207 19 0) : ∃ T M' N', mX6_write n 40 (nI i) M0 = some M' ∧ mX11_laysLine n (nI i) N0 = some N' ∧ LL M0 N0 T M' N' := by
  have h1 := hI.2.1.1; have hs := hI.2.1.2
  obtain ⟨r1, r2, r3, r4, r5, r6, r7, r8, r9, r10⟩ := hE.2 i hi
  obtain ⟨i0, i1, i2, i3, i4, i5, i6, i7, i8, i9, i10, i11, i12⟩ := hI.2.2.2.2.2 i hi
  have k0 := i0.1; have k0' := i0.2; have k3 := i3.1; have k3' := i3.2; have k4 := i4.1; have k4' := i4.2; have k5 := i5.1; have k5' := i5.2; have k6 := i6.1; have k6' := i6.2
  have L0 : LL M0 N0 0 M N := by
    subst hM1; subst hN1
    refine ⟨by omega, u2s _ _ _ _, u2s _ _ _ _, fun i hi => absurd hi (Nat.not_lt_zero _), fun o k g => ?_, fun o k g1 g2 => ?_⟩
    · rcases g with g | ⟨g, g2⟩
      · exact u2o _ _ (by omega)
      · subst g; exact u2k _ _ g2
    · by_cases q : o = 207
      · subst q; exact u2k _ _ (g2 rfl)
      · exact u2o _ _ q
  have hhas : mX5_has 40 (nI i) M = some 1 := by
    rw [has_c (RE_congrM hE (fun o k g1 g2 => L0.2.2.2.2.1 o k (by omega))) h1 hs (by omega), if_pos hi]
  have rd : ∀ {T : Nat} {M N : Mem} (o k : Nat), LL M0 N0 T M N → o < 205 → M o k = M0 o k := fun o k h g => h.2.2.2.2.1 o k (Or.inl g)
  unfold mX6_write mX11_laysLine
  rw [← hM1, ← hN1, hhas]
  simp only [bnp_some]
  rw [if_neg (show ¬ (1 : Int32) = 0 by decide)]
  have ck : ∀ (y : Option Mem), chk (nI i) 400 y = y := fun y => chk_n (by omega) (by decide)
  simp only [ck]
  rw [nI_clamp (by omega)]
  obtain ⟨M1, N1, a1, a2, L1⟩ := L_put (v := 80) L0 (by omega) (by decide)
  rw [show mX6_put (80 : Int32) M = _ from a1, show mX11_says (80 : Int32) N = _ from a2]
  simp only [bnp_some]
  rw [show M1 (40 + 4) i = nI (eQ (N0 209) i) from (rd 44 i L1 (by decide)).trans (r4.trans k3), show mX11_entryOf (nI i) (3 : Int32) N1 = _ from m_entN (w := 3) L1 (by omega) (by decide), k3]
  simp only [bnp_some]
  obtain ⟨T2, M2, N2, t2, a1, a2, L2⟩ := L_num (n := n) (v := eQ (N0 209) i) (least := 1) (m := 3) L1 hn (by omega) (by decide) (by decide) (by decide) (by omega)
  rw [show mX6_putNumber n (nI (eQ (N0 209) i)) (1 : Int32) M1 = _ from a1, show mX11_saysNumber n (nI (eQ (N0 209) i)) (1 : Int32) N1 = _ from a2]
  simp only [bnp_some]
  obtain ⟨M3, N3, a1, a2, L3⟩ := L_put (v := 32) L2 (by omega) (by decide)
  rw [show mX6_put (32 : Int32) M2 = _ from a1, show mX11_says (32 : Int32) N2 = _ from a2]
  simp only [bnp_some]
  rw [show M3 (40 + 5) i = nI (eF (N0 209) i) from (rd 45 i L3 (by decide)).trans (r5.trans k4), show mX11_entryOf (nI i) (4 : Int32) N3 = _ from m_entN (w := 4) L3 (by omega) (by decide), k4]
  simp only [bnp_some]
  obtain ⟨T4, M4, N4, t4, a1, a2, L4⟩ := L_date (n := n) L3 hC hM hn k4' (by omega)
  rw [a1, a2]
  simp only [bnp_some]
  obtain ⟨M5, N5, a1, a2, L5⟩ := L_put (v := 32) L4 (by omega) (by decide)
  rw [show mX6_put (32 : Int32) M4 = _ from a1, show mX11_says (32 : Int32) N4 = _ from a2]
  simp only [bnp_some]
  obtain ⟨M6, M7, N7, a0, a1, a2, L7⟩ := L_to (n := n) L5 hn (by omega)
  rw [a0, a2]
  simp only [bnp_some]
  rw [a1]
  simp only [bnp_some]
  obtain ⟨M8, N8, a1, a2, L8⟩ := L_put (v := 32) L7 (by omega) (by decide)
  rw [show mX6_put (32 : Int32) M7 = _ from a1, show mX11_says (32 : Int32) N7 = _ from a2]
  simp only [bnp_some]
  rw [show M8 (40 + 6) i = nI (eT (N0 209) i) from (rd 46 i L8 (by decide)).trans (r6.trans k5), show mX11_entryOf (nI i) (5 : Int32) N8 = _ from m_entN (w := 5) L8 (by omega) (by decide), k5]
  simp only [bnp_some]
  obtain ⟨T9, M9, N9, t9, a1, a2, L9⟩ := L_date (n := n) L8 hC hM hn k5' (by omega)
  rw [a1, a2]
  simp only [bnp_some]
  obtain ⟨M10, N10, a1, a2, L10⟩ := L_put (v := 32) L9 (by omega) (by decide)
  rw [show mX6_put (32 : Int32) M9 = _ from a1, show mX11_says (32 : Int32) N9 = _ from a2]
  simp only [bnp_some]
  rw [show M10 (40 + 7) i = nI (eP (N0 209) i) from (rd 47 i L10 (by decide)).trans (r7.trans k6), show mX11_entryOf (nI i) (6 : Int32) N10 = _ from m_entN (w := 6) L10 (by omega) (by decide), k6]
  simp only [bnp_some]
  obtain ⟨M11, N11, a1, a2, L11⟩ := L_put (v := 65 + eP (N0 209) i) L10 (by omega) (by omega)
  rw [show (65 : Int32) + nI (eP (N0 209) i) = nI (65 + eP (N0 209) i) from nI_add .., a1, a2]
  simp only [bnp_some]
  obtain ⟨M12, N12, a1, a2, L12⟩ := L_put (v := 32) L11 (by omega) (by decide)
  rw [show mX6_put (32 : Int32) M11 = _ from a1, show mX11_says (32 : Int32) N11 = _ from a2]
  simp only [bnp_some]
  rw [show M12 (40 + 1) i = nI (eK (N0 209) i) from (rd 41 i L12 (by decide)).trans (r1.trans k0), show mX11_entryOf (nI i) (0 : Int32) N12 = _ from m_entN (w := 0) L12 (by omega) (by decide), k0]
  simp only [bnp_some]
  obtain ⟨T13, M13, N13, t13, a1, a2, a3, L13⟩ := L_kind (n := n) L12 hn k0' (by omega)
  rw [a1, a2]
  simp only [bnp_some]
  rw [a3]
  simp only [bnp_some]
  obtain ⟨M14, N14, a1, a2, L14⟩ := L_put (v := 32) L13 (by omega) (by decide)
  rw [show mX6_put (32 : Int32) M13 = _ from a1, show mX11_says (32 : Int32) N13 = _ from a2]
  simp only [bnp_some]
  rw [show M14 (40 + 8) i = fE (N0 209) i 7 from (rd 48 i L14 (by decide)).trans r8, show mX11_entryOf (nI i) (7 : Int32) N14 = _ from m_entN (w := 7) L14 (by omega) (by decide)]
  simp only [bnp_some]
  obtain ⟨T15, M15, N15, t15, a1, a2, L15⟩ := L_euro (n := n) L14 hn i9 (by omega)
  rw [a1, a2]
  exact ⟨T15, M15, N15, rfl, rfl, L15⟩
theorem q_line {M N : Mem} {n : Nat} (hT : TOT M N) (hn : 20000 ≤ n) (a b : Int32) : RES (mX10_line n a b M) (mX11_line n a b N) := by
  have e10 : ((1 : Int32) = 0) = False := eq_false (by decide)
  obtain ⟨⟨hb, hC, hM, hRS, hI⟩, h57, h110, ⟨T, t1, t2, t3, t4⟩, h6, hK⟩ := id hT
  have h1 := hI.1.2.1.1; have hs := hI.1.2.1.2
  have hE : RE 40 M (N 209) := hRS.2.2.2.2
  unfold mX10_line mX11_line
  have := ent_c (N := N) hE h1 hs a
  rw [stF_self] at this
  rcases this with ⟨i, hi, rfl, e1, e3⟩ | ⟨e1, e3⟩
  · rw [e1, e3]
    simp only [bnp_some, e10, if_false]
    by_cases hb : (-1 : Int32) ≤ b
    · rw [if_pos hb, if_pos hb]
      obtain ⟨T', M', N', p1, p2, L⟩ := line_go (M := upd2 M 205 2 0) (N := upd2 N 207 19 0) hE hI.1 hC hM hi hn rfl rfl
      have fin : TOT M' N' := T_tape hT (fun o k g => L.2.2.2.2.1 o k (by omega)) (fun o k g => by
          rcases g with rfl | rfl | ⟨rfl, rfl⟩
          · exact L.2.2.2.2.2 _ _ (by decide) (fun h => absurd h (by decide))
          · exact L.2.2.2.2.2 _ _ (by decide) (fun h => absurd h (by decide))
          · exact L.2.2.2.2.2 _ _ (by decide) (fun _ => by decide))
        ⟨T, t1, by rw [L.2.2.2.2.1 0 1 (by omega)]; exact t2, by rw [L.2.2.2.2.2 207 4 (by decide) (fun _ => by decide)]; exact t3, fun i hi => by rw [L.2.2.2.2.1 1 i (by omega), L.2.2.2.2.2 210 i (by decide) (fun h => absurd h (by decide))]; exact t4 i hi⟩
      rw [p1, p2]
      simp only [bnp_some]
      obtain ⟨l0, l1, l2, l3, l4, l5⟩ := L
      by_cases hb1 : b = (-1 : Int32)
      · rw [if_pos hb1, if_pos hb1, l1, l2]
        exact ⟨_, _, _, rfl, rfl, fin⟩
      · rw [if_neg hb1, if_neg hb1]
        unfold mX6_byteAt
        have hb0 : ¬ b < 0 := by
          intro z
          apply hb1
          apply Int32.toInt_inj.mp
          have z1 := Int32.lt_iff_toInt_lt.mp z
          have z2 := Int32.le_iff_toInt_le.mp hb
          have e : (-1 : Int32).toInt = -1 := by decide
          rw [Int32.toInt_zero] at z1
          rw [e] at z2 ⊢
          omega
        have hm : b ≤ nI 2147483647 := by
          rw [Int32.le_iff_toInt_le, nI_toInt (by omega)]
          have := Int32.toInt_lt b
          omega
        obtain ⟨k, hk, rfl⟩ := of_range (Int32.not_lt.mp hb0) hm (by omega)
        rw [if_neg hb0, l1, l2]
        by_cases q : T' ≤ k
        · have q' : nI T' ≤ nI k := by rw [nI_leI (by omega) (by omega)]; exact q
          rw [if_pos q', if_pos q']
          exact ⟨_, _, _, rfl, rfl, fin⟩
        · have q' : ¬ nI T' ≤ nI k := by rw [nI_leI (by omega) (by omega)]; exact q
          obtain ⟨v, v1, v2, v3⟩ := l3 k (by omega)
          rw [if_neg q', if_neg q', if_neg (show ¬ (80 : Int32) ≤ nI k by rw [show (80 : Int32) = nI 80 from rfl, nI_leI (by omega) (by omega)]; omega), chk_n (show k < 80 by omega) (by decide), chk_n (show k < 80 by omega) (by decide), nI_clamp (by omega), v2, v3, and_b v v1]
          exact ⟨_, _, _, rfl, rfl, fin⟩
    · rw [if_neg hb, if_neg hb]
      exact ⟨_, _, _, rfl, rfl, hT⟩
  · rw [e1, e3]; exact ⟨_, _, _, rfl, rfl, hT⟩
end
section
/-! texts: signs, blanks, NUMBERS, letters of PLANS, digits of accounts, on both sides -/
theorem and255 (x : Int32) : ∃ b, b < 256 ∧ x &&& 255 = nI b := by
  refine ⟨(x &&& 255).toBitVec.toNat, ?_, ?_⟩
  · show (x.toBitVec &&& (255 : Int32).toBitVec).toNat < 256
    rw [BitVec.toNat_and]
    exact Nat.lt_of_le_of_lt Nat.and_le_right (by decide)
  · apply Int32.toBitVec_inj.mp
    show (x &&& 255).toBitVec = BitVec.ofNat 32 _
    simp
def bt (M : Mem) (L i : Nat) : Int32 := if i < L then M 1 i &&& 255 else -1
theorem bt_v (M : Mem) (L i : Nat) : (∃ b, b < 256 ∧ bt M L i = nI b ∧ i < L) ∨ (bt M L i = -1 ∧ L ≤ i) := by
  unfold bt
  by_cases h : i < L
  · rw [if_pos h]
    obtain ⟨b, b1, b2⟩ := and255 (M 1 i)
    exact Or.inl ⟨b, b1, b2, h⟩
  · rw [if_neg h]; exact Or.inr ⟨rfl, by omega⟩
def RD (rd L p : Nat) (M N : Mem) : Prop := p ≤ L ∧ L ≤ 200 ∧ M rd 1 = nI L ∧ M rd 2 = nI p ∧ M rd 3 = 0 ∧ M rd 4 = 0 ∧ N 207 6 = nI L ∧ N 207 5 = nI p ∧ ∀ i, i < L → M 1 i = N 210 i
def FLT (rd : Nat) (M N : Mem) : Prop := ∃ c at', 1 ≤ c ∧ c ≤ 6 ∧ at' ≤ 200 ∧ M rd 3 = nI c ∧ M rd 4 = nI at' ∧ N 207 7 = (-1000 : Int32) * nI c - nI at'
def FR (rd : Nat) (M M' : Mem) : Prop := ∀ o k, (o ≠ rd ∨ k = 1) → M' o k = M o k
def GR (N N' : Mem) : Prop := ∀ o k, (o ≠ 207 ∨ (k ≠ 5 ∧ k ≠ 7 ∧ k ≠ 8 ∧ k ≠ 9 ∧ k ≠ 10 ∧ k ≠ 10 + HI)) → N' o k = N o k
theorem FR.rfl' {rd : Nat} {M : Mem} : FR rd M M := fun _ _ _ => rfl
theorem GR.rfl' {M : Mem} : GR M M := fun _ _ _ => rfl
theorem FR.trans {rd : Nat} {M M1 M2 : Mem} (h1 : FR rd M M1) (h2 : FR rd M1 M2) : FR rd M M2 := fun o k h => (h2 o k h).trans (h1 o k h)
theorem GR.trans {M M1 M2 : Mem} (h1 : GR M M1) (h2 : GR M1 M2) : GR M M2 := fun o k h => (h2 o k h).trans (h1 o k h)
theorem FR_up {rd k : Nat} {M : Mem} {v : Int32} (h : k ≠ 1) : FR rd M (upd2 M rd k v) := fun o k' g => by
  by_cases q : o = rd
  · subst q; exact u2k _ _ (by omega)
  · exact u2o _ _ q
theorem HI_v : HI = 1000000 := rfl
theorem GR_up {k : Nat} {N : Mem} {v : Int32} (h : k = 5 ∨ k = 7 ∨ k = 8 ∨ k = 9 ∨ k = 10 ∨ k = 10 + HI) : GR N (upd2 N 207 k v) := fun o k' g => by
  by_cases q : o = 207
  · subst q; exact u2k _ _ (by omega)
  · exact u2o _ _ q
theorem c_byte {rd L i : Nat} {M : Mem} (h1 : M rd 1 = nI L) (hL : L ≤ 200) (hi : i ≤ 300) : mX8_byteAt rd (nI i) M = some (bt M L i) := by
  unfold mX8_byteAt bt
  rw [h1, if_neg (nI_pos (by omega))]
  by_cases h : i < L
  · rw [if_neg (by rw [nI_leI (by omega) (by omega)]; omega), if_neg (by rw [show (400 : Int32) = nI 400 from rfl, nI_leI (by omega) (by omega)]; omega), chk_n (show i < 400 by omega) (by decide), nI_clamp (by omega), if_pos h]
  · rw [if_pos (by rw [nI_leI (by omega) (by omega)]; omega), if_neg h]
theorem byteT (rd : Nat) (a : Int32) (M : Mem) : ∃ r, mX8_byteAt rd a M = some r := by
  unfold mX8_byteAt
  by_cases h0 : a < 0
  · rw [if_pos h0]; exact ⟨_, rfl⟩
  · rw [if_neg h0]
    by_cases h1 : M rd 1 ≤ a
    · rw [if_pos h1]; exact ⟨_, rfl⟩
    · rw [if_neg h1]
      by_cases h2 : (400 : Int32) ≤ a
      · rw [if_pos h2]; exact ⟨_, rfl⟩
      · rw [if_neg h2]
        have hm : a ≤ nI 400 := Int32.le_of_lt (Int32.not_le.mp h2)
        obtain ⟨k, hk, rfl⟩ := of_range (Int32.not_lt.mp h0) hm (by omega)
        have hk2 : k < 400 := by
          rw [show (400 : Int32) = nI 400 from rfl, nI_leI (by omega) (by omega)] at h2; omega
        rw [chk_n hk2 (by decide)]; exact ⟨_, rfl⟩
theorem m_here {rd L p : Nat} {M N : Mem} (h : RD rd L p M N) : mX11_here N = some (bt M L p) := by
  obtain ⟨h0, h1, h2, h3, h4, h5, h6, h7, h8⟩ := h
  unfold mX11_here bt
  rw [h6, h7]
  by_cases g : p < L
  · rw [if_neg (by rw [nI_leI (by omega) (by omega)]; omega), chk_n (show p < 400 by omega) (by decide), nI_clamp (by omega), if_pos g, h8 p g]
  · rw [if_pos (by rw [nI_leI (by omega) (by omega)]; omega), if_neg g]
theorem mark_ok {rd c at' : Nat} {M : Mem} (h : M rd 3 = 0) : mX8_mark rd (nI c) (nI at') M = some (upd2 (upd2 M rd 3 (nI c)) rd 4 (nI at')) := if_pos h
theorem mark_no {rd : Nat} {c a : Int32} {M : Mem} (h : ¬ M rd 3 = 0) : mX8_mark rd c a M = some M := if_neg h
theorem RD_fault {rd L p c at' : Nat} {M N : Mem} (h : RD rd L p M N) (h1 : 1 ≤ c) (h2 : c ≤ 6) (h3 : at' ≤ 200) : FLT rd (upd2 (upd2 M rd 3 (nI c)) rd 4 (nI at')) (upd2 N 207 7 ((-1000 : Int32) * nI c - nI at')) ∧ FR rd M (upd2 (upd2 M rd 3 (nI c)) rd 4 (nI at')) ∧ GR N (upd2 N 207 7 ((-1000 : Int32) * nI c - nI at')) :=
  ⟨⟨c, at', h1, h2, h3, by rw [u2k _ _ (by decide), u2s], u2s _ _ _ _, u2s _ _ _ _⟩, (FR_up (by decide)).trans (FR_up (by decide)), GR_up (by omega)⟩
theorem FLT_ne {rd : Nat} {M N : Mem} (h : FLT rd M N) : ¬ M rd 3 = 0 := by
  obtain ⟨c, a, h1, h2, h3, h4, h5, h6⟩ := h
  rw [h4, show (0 : Int32) = nI 0 from rfl, nI_eq (by omega) (by omega)]; omega
/-- the place moves on by one -/
theorem RD_next {rd L p : Nat} {M N : Mem} (hrd : rd ≠ 1) (h : RD rd L p M N) (hp : p < L) : RD rd L (p + 1) (upd2 M rd 2 (nI (p + 1))) (upd2 N 207 5 (nI (p + 1))) := by
  obtain ⟨h0, h1, h2, h3, h4, h5, h6, h7, h8⟩ := h
  exact ⟨by omega, h1, by rw [u2k _ _ (by decide)]; exact h2, u2s _ _ _ _, by rw [u2k _ _ (by decide)]; exact h4, by rw [u2k _ _ (by decide)]; exact h5, by rw [u2k _ _ (by decide)]; exact h6, u2s _ _ _ _, fun i hi => by rw [u2o _ _ (Ne.symm hrd), u2o _ _ (by decide)]; exact h8 i hi⟩
theorem place_s {p : Nat} : nI p + (1 : Int32) = nI (p + 1) := nI_add ..
theorem neg1_ne {b : Nat} (h : b < 256) : ¬ (-1 : Int32) = nI b := by
  rw [show (-1 : Int32) = iI (-1) from rfl, iI_n, iI_eq (by omega) (by omega) (by omega) (by omega)]; omega
theorem R_blank {rd L p : Nat} {M N : Mem} (hrd : rd ≠ 1) (h : RD rd L p M N) : (∃ M' N', mX8_blank rd M = some M' ∧ mX11_takesSign (32 : Int32) N = some (1, N') ∧ RD rd L (p + 1) M' N' ∧ FR rd M M' ∧ GR N N') ∨
    (∃ M' N', mX8_blank rd M = some M' ∧ mX11_takesSign (32 : Int32) N = some (0, N') ∧ FLT rd M' N' ∧ FR rd M M' ∧ GR N N') := by
  have hh := m_here h
  obtain ⟨h0, h1, h2, h3, h4, h5, h6, h7, h8⟩ := id h
  unfold mX8_blank mX11_takesSign mX11_wrongAt
  rw [if_pos h4, h3, h7, c_byte h2 h1 (by omega), hh]
  simp only [bnp_some, bnd_some]
  rw [place_s]
  by_cases q : bt M L p = (32 : Int32)
  · rw [if_pos q, if_pos q]
    have hp : p < L := by
      rcases bt_v M L p with ⟨b, b1, b2, b3⟩ | ⟨b1, b2⟩
      · exact b3
      · rw [b1] at q; exact absurd q (by decide)
    exact Or.inl ⟨_, _, rfl, rfl, RD_next hrd h hp, FR_up (by decide), GR_up (by omega)⟩
  · rw [if_neg q, if_neg q, show mX8_mark rd (1 : Int32) (nI p) M = _ from mark_ok (c := 1) h4]
    obtain ⟨f1, f2, f3⟩ := RD_fault (c := 1) (at' := p) h (by decide) (by decide) (by omega)
    exact Or.inr ⟨_, _, rfl, rfl, f1, f2, f3⟩
theorem blank_no {rd : Nat} {M : Mem} (h : ¬ M rd 3 = 0) : mX8_blank rd M = some M := if_neg h
theorem number_no {n rd : Nat} {lo hi : Int32} {M : Mem} (h : ¬ M rd 3 = 0) : mX8_number n rd lo hi M = some (lo, M) := if_neg h
theorem plan_no {rd : Nat} {M : Mem} (h : ¬ M rd 3 = 0) : mX8_planLetter rd M = some (0, M) := by
  unfold mX8_planLetter
  obtain ⟨r, hr⟩ := byteT rd (M rd 2) M
  rw [hr, bnp_some, if_neg h]
theorem acct_no {rd : Nat} {M : Mem} (h : ¬ M rd 3 = 0) : mX8_accountDigit rd M = some (0, M) := by
  unfold mX8_accountDigit
  obtain ⟨r, hr⟩ := byteT rd (M rd 2) M
  rw [hr, bnp_some, if_neg h]
theorem word_no {n rd a : Nat} {M : Mem} (h : ¬ M rd 3 = 0) : mX8_word n rd a M = some (-1, M) := if_neg h
theorem goes_no {rd : Nat} {M : Mem} (h : ¬ M rd 3 = 0) : mX8_goesOn rd M = some (0, M) := if_neg h
theorem sound_no {rd : Nat} {M : Mem} (h : ¬ M rd 3 = 0) : mX8_isSound rd M = some 0 := if_neg h
theorem sound_ok {rd : Nat} {M : Mem} (h : M rd 3 = 0) : mX8_isSound rd M = some 1 := if_pos h
/-! NUMBERS -/
def numC (n : Nat) (lo hi : Int32) (N : Mem) : Option (Int32 × Mem) := (bnp (mX11_here N) fun r17 => (bnp (mX11_isDigit r17) fun r18 => (if r18 = 0 then (bnd (mX11_wrongAt (1 : Int32) (N 207 5) N) fun r20 M21 => (some (r20, M21))) else (mX11_readsNumber_c41 n n lo hi (N 207 5) (upd2 N 207 8 (0 : Int32))))))
theorem rn_ok {n : Nat} {lo hi : Int32} {N N1 : Mem} (h : mX11_takesSign (32 : Int32) N = some (1, N1)) : mX11_readsNumber n lo hi N = numC n lo hi N1 := by
  unfold mX11_readsNumber
  rw [h, bnd_some, if_neg (show ¬ (1 : Int32) = 0 by decide)]; rfl
theorem rn_no {n : Nat} {lo hi : Int32} {N N1 : Mem} (h : mX11_takesSign (32 : Int32) N = some (0, N1)) : mX11_readsNumber n lo hi N = some (0, N1) := by
  unfold mX11_readsNumber
  rw [h, bnd_some, if_pos rfl]
/-- what a NUMBER comes to, on both sides -/
def NumO (rd L p lo hi : Nat) (M N : Mem) (mc mm : Option (Int32 × Mem)) : Prop :=
  (∃ v q M2 N2, mc = some (nI v, M2) ∧ mm = some (1, N2) ∧ N2 207 8 = nI v ∧ lo ≤ v ∧ v ≤ hi ∧ p < q ∧ RD rd L q M2 N2 ∧ FR rd M M2 ∧ GR N N2) ∨
  (∃ r M2 N2, mc = some (r, M2) ∧ mm = some (0, N2) ∧ FLT rd M2 N2 ∧ FR rd M M2 ∧ GR N N2)
theorem dig_c (x : Int32) : mX11_isDigit x = some (if x < 48 then 0 else if 57 < x then 0 else 1) := by
  unfold mX11_isDigit mX11_in
  by_cases h : x < 48
  · rw [if_pos h, if_pos h]; rfl
  · rw [if_neg h, if_neg h]
    by_cases h2 : 57 < x
    · rw [if_pos h2, if_pos h2]; rfl
    · rw [if_neg h2, if_neg h2]; rfl
theorem dig_nat {M : Mem} {L i : Nat} (h1 : ¬ bt M L i < 48) (h2 : ¬ 57 < bt M L i) : ∃ b, 48 ≤ b ∧ b ≤ 57 ∧ bt M L i = nI b ∧ i < L := by
  rcases bt_v M L i with ⟨b, b1, b2, b3⟩ | ⟨b1, b2⟩
  · rw [b2, show (48 : Int32) = nI 48 from rfl, nI_ltI (by omega) (by omega)] at h1
    rw [b2, show (57 : Int32) = nI 57 from rfl, nI_ltI (by omega) (by omega)] at h2
    exact ⟨b, by omega, by omega, b2, b3⟩
  · rw [b1] at h1; exact absurd (by decide) h1
theorem chk3 {n rd L p q v lo hi : Nat} {M N : Mem} (h : RD rd L q M N) (hpq : p < q) (hv : v < 1000000) (hlo : lo ≤ hi) (hhi : hi ≤ 99999) (h8 : N 207 8 = nI v) : NumO rd L p lo hi M N (mX8_number_c122 n rd (nI lo) (nI hi) (nI p) (nI v) M)
    (bnp (mX11_in (N 207 8) (nI lo) (nI hi)) fun r4 => (if r4 = 0 then (bnd (mX11_wrongAt (3 : Int32) (nI p) N) fun r6 M7 => (if r6 = 0 then (some ((0 : Int32), M7)) else (some ((1 : Int32), M7)))) else (some ((1 : Int32), N)))) := by
  obtain ⟨h0, h1, h2, h3, h4, h5, h6, h7, _⟩ := id h
  obtain ⟨f1, f2, f3⟩ := RD_fault (c := 3) (at' := p) h (by decide) (by decide) (by omega)
  have hne : ¬ upd2 (upd2 M rd 3 (nI 3)) rd 4 (nI p) rd 3 = 0 := FLT_ne f1
  unfold mX8_number_c122 mX11_in mX11_wrongAt
  rw [h3, h8, if_neg (show ¬ nI q = nI p by rw [nI_eq (by omega) (by omega)]; omega), show mX8_mark rd (3 : Int32) (nI p) M = _ from mark_ok (c := 3) h4]
  simp only [bnp_some, bnd_some]
  by_cases c1 : nI v < nI lo
  · rw [if_pos c1, if_pos c1, if_neg hne]
    simp only [bnp_some, if_true]
    exact Or.inr ⟨_, _, _, rfl, rfl, f1, f2, f3⟩
  · rw [if_neg c1, if_neg c1]
    by_cases c2 : nI hi < nI v
    · rw [if_neg (Int32.not_le.mpr c2), if_pos c2, if_neg hne]
      simp only [bnp_some, if_true]
      exact Or.inr ⟨_, _, _, rfl, rfl, f1, f2, f3⟩
    · rw [if_pos (Int32.not_lt.mp c2), if_neg c2, if_pos h4]
      simp only [bnp_some]
      rw [if_neg (show ¬ (1 : Int32) = 0 by decide)]
      rw [nI_ltI (by omega) (by omega)] at c1 c2
      exact Or.inl ⟨v, q, M, N, rfl, rfl, h8, by omega, by omega, hpq, h, FR.rfl', GR.rfl'⟩
theorem num_go {n rd L p lo hi : Nat} (hrd : rd ≠ 1) (hlo : lo ≤ hi) (hhi : hi ≤ 99999) : ∀ (d k j v : Nat) (M N : Mem), j + d = 5 → d + 1 < k → v < 10 ^ j → RD rd L (p + j) M N → N 207 8 = nI v → (j = 0 → ¬ bt M L p < 48 ∧ ¬ 57 < bt M L p) →
    NumO rd L p lo hi M N (mX8_number_c27 n k rd (nI lo) (nI hi) (nI p) (nI v) (bt M L (p + j)) M) (mX11_readsNumber_c41 n k (nI lo) (nI hi) (nI p) N)
  | d, 0, _, _, _, _, _, h, _, _, _, _ => absurd h (Nat.not_lt_zero _)
  | d, k + 1, j, v, M, N, e, h, hv, hR, h8, hj0 => by
    have hh := m_here hR
    obtain ⟨h0, h1, h2, h3, h4, h5, h6, h7, hE⟩ := id hR
    have hv6 : v < 1000000 := Nat.lt_of_lt_of_le hv (Nat.le_trans (Nat.pow_le_pow_right (by decide) (show j ≤ 5 by omega)) (by decide))
    unfold mX8_number_c27 mX11_readsNumber_c41
    rw [hh, h3, h7, show nI p + (5 : Int32) = nI (p + 5) from nI_add ..]
    simp only [bnp_some]
    rw [dig_c]
    simp only [bnp_some]
    rcases Nat.eq_zero_or_pos d with hd | hd
    · have hj : j = 5 := by omega
      subst hj
      rw [if_pos (Int32.le_refl _)]
      unfold mX8_number_c87
      rw [h3, show nI p + (5 : Int32) = nI (p + 5) from nI_add .., if_pos rfl]
      by_cases c1 : bt M L (p + 5) < 48
      · rw [if_pos c1, if_pos c1, if_pos rfl]
        exact chk3 (n := n) hR (by omega) hv6 hlo hhi h8
      · rw [if_neg c1, if_neg c1]
        by_cases c2 : 57 < bt M L (p + 5)
        · rw [if_pos c2, if_pos c2, if_pos rfl]
          exact chk3 (n := n) hR (by omega) hv6 hlo hhi h8
        · rw [if_neg c2, if_neg c2, if_neg (show ¬ (1 : Int32) = 0 by decide), if_pos rfl, show mX8_mark rd (2 : Int32) (nI (p + 5)) M = _ from mark_ok (c := 2) h4]
          obtain ⟨f1, f2, f3⟩ := RD_fault (c := 2) (at' := p + 5) hR (by decide) (by decide) (by omega)
          exact Or.inr ⟨_, _, _, rfl, rfl, f1, f2, f3⟩
    · rw [if_neg (show ¬ nI (p + 5) ≤ nI (p + j) by rw [nI_leI (by omega) (by omega)]; omega)]
      have hne : ¬ nI (p + j) = nI (p + 5) := by rw [nI_eq (by omega) (by omega)]; omega
      have c87 : mX8_number_c87 n rd (nI lo) (nI hi) (nI p) (nI v) (bt M L (p + j)) M = mX8_number_c122 n rd (nI lo) (nI hi) (nI p) (nI v) M := by
        unfold mX8_number_c87
        rw [h3, show nI p + (5 : Int32) = nI (p + 5) from nI_add .., if_neg hne]
      by_cases c1 : bt M L (p + j) < 48
      · have hj : 0 < j := by
          rcases Nat.eq_zero_or_pos j with z | z
          · subst z; exact absurd c1 (hj0 rfl).1
          · exact z
        rw [if_pos c1, if_pos c1, if_pos rfl, c87]
        exact chk3 (n := n) hR (by omega) hv6 hlo hhi h8
      · rw [if_neg c1, if_neg c1]
        by_cases c2 : 57 < bt M L (p + j)
        · have hj : 0 < j := by
            rcases Nat.eq_zero_or_pos j with z | z
            · subst z; exact absurd c2 (hj0 rfl).2
            · exact z
          rw [if_pos c2, if_pos c2, if_pos rfl, c87]
          exact chk3 (n := n) hR (by omega) hv6 hlo hhi h8
        · rw [if_neg c2, if_neg c2, if_neg (show ¬ (1 : Int32) = 0 by decide), if_neg hne]
          obtain ⟨b, b1, b2, b3, b4⟩ := dig_nat c1 c2
          rw [b3, place_s, u2s]
          simp only [lt_eq]
          rw [show upd2 N 207 8 (((10 : Int32) * N 207 8 + nI b) - 48) 207 5 = nI (p + j) from (u2k _ _ (by decide)).trans h7, place_s, h8]
          have ev : ((10 : Int32) * nI v + nI b) - 48 = nI (10 * v + (b - 48)) := by
            rw [show (10 : Int32) = nI 10 from rfl, show (48 : Int32) = nI 48 from rfl, pk_mul, nI_add, pk_sub (by omega)]
            congr 1; omega
          have ev2 : (nI v * (10 : Int32) + nI b) - 48 = nI (10 * v + (b - 48)) := by
            rw [show (10 : Int32) = nI 10 from rfl, show (48 : Int32) = nI 48 from rfl, pk_mul, nI_add, pk_sub (by omega)]
            congr 1; omega
          rw [ev, ev2]
          have hR' : RD rd L (p + (j + 1)) (upd2 M rd 2 (nI (p + j + 1))) (upd2 (upd2 N 207 8 (nI (10 * v + (b - 48)))) 207 5 (nI (p + j + 1))) :=
            RD_next hrd ⟨h0, h1, h2, h3, h4, h5, by rw [u2k _ _ (by decide)]; exact h6, by rw [u2k _ _ (by decide)]; exact h7, fun i hi => by rw [u2o _ _ (by decide)]; exact hE i hi⟩ b4
          have hb' : bt (upd2 M rd 2 (nI (p + j + 1))) L (p + (j + 1)) = bt M L (p + (j + 1)) := by
            unfold bt; rw [u2o _ _ (Ne.symm hrd)]
          have hbyte : mX8_byteAt rd (nI (p + j + 1)) (upd2 M rd 2 (nI (p + j + 1))) = some (bt (upd2 M rd 2 (nI (p + j + 1))) L (p + (j + 1))) := c_byte hR'.2.2.1 h1 (by omega)
          rw [hbyte]
          simp only [bnp_some]
          have ih := num_go (n := n) (L := L) (p := p) hrd hlo hhi (d - 1) k (j + 1) (10 * v + (b - 48)) _ _ (by omega) (by omega) (by rw [Nat.pow_succ]; omega) hR' (by rw [u2k _ _ (by decide), u2s]) (fun z => absurd z (by omega))
          rcases ih with ⟨v', q, M2, N2, i1, i2, i3, i4, i5, i6, i7, i8, i9⟩ | ⟨r, M2, N2, i1, i2, i3, i4, i5⟩
          · exact Or.inl ⟨v', q, M2, N2, i1, i2, i3, i4, i5, i6, i7, (FR_up (by decide)).trans i8, ((GR_up (by omega)).trans (GR_up (by omega))).trans i9⟩
          · exact Or.inr ⟨r, M2, N2, i1, i2, i3, (FR_up (by decide)).trans i4, ((GR_up (by omega)).trans (GR_up (by omega))).trans i5⟩
theorem R_num {n rd L p lo hi : Nat} {M N : Mem} (hrd : rd ≠ 1) (hlo : lo ≤ hi) (hhi : hi ≤ 99999) (hn : 20000 ≤ n) (h : RD rd L p M N) : NumO rd L p lo hi M N (mX8_number n rd (nI lo) (nI hi) M) (numC n (nI lo) (nI hi) N) := by
  have hh := m_here h
  obtain ⟨h0, h1, h2, h3, h4, h5, h6, h7, hE⟩ := id h
  unfold mX8_number numC
  rw [if_pos h4, h3, h7, c_byte h2 h1 (by omega), hh]
  simp only [bnp_some]
  rw [dig_c]
  simp only [bnp_some]
  have hR' : RD rd L (p + 0) M (upd2 N 207 8 0) := ⟨h0, h1, h2, h3, h4, h5, by rw [u2k _ _ (by decide)]; exact h6, by rw [u2k _ _ (by decide)]; exact h7, fun i hi => by rw [u2o _ _ (by decide)]; exact hE i hi⟩
  have c1 : ∀ (k : Nat), (bt M L p < 48 ∨ 57 < bt M L p) → mX8_number_c27 n (k + 1) rd (nI lo) (nI hi) (nI p) 0 (bt M L p) M = some (nI lo, upd2 (upd2 M rd 3 (nI 1)) rd 4 (nI p)) := by
    intro k hb
    have c87 : mX8_number_c87 n rd (nI lo) (nI hi) (nI p) 0 (bt M L p) M = mX8_number_c122 n rd (nI lo) (nI hi) (nI p) 0 M := by
      unfold mX8_number_c87
      rw [h3, show nI p + (5 : Int32) = nI (p + 5) from nI_add .., if_neg (show ¬ nI p = nI (p + 5) by rw [nI_eq (by omega) (by omega)]; omega)]
    unfold mX8_number_c27
    rw [h3, show nI p + (5 : Int32) = nI (p + 5) from nI_add .., if_neg (show ¬ nI (p + 5) ≤ nI p by rw [nI_leI (by omega) (by omega)]; omega), c87]
    have e : mX8_number_c122 n rd (nI lo) (nI hi) (nI p) 0 M = some (nI lo, upd2 (upd2 M rd 3 (nI 1)) rd 4 (nI p)) := by
      obtain ⟨f1, f2, f3⟩ := RD_fault (c := 1) (at' := p) h (by decide) (by decide) (by omega)
      unfold mX8_number_c122
      rw [h3, if_pos rfl, show mX8_mark rd (1 : Int32) (nI p) M = _ from mark_ok (c := 1) h4]
      simp only [bnp_some]
      rw [if_neg (FLT_ne f1)]
    by_cases c1 : bt M L p < 48
    · rw [if_pos c1]; exact e
    · rw [if_neg c1]
      rcases hb with hb | hb
      · exact absurd hb c1
      · rw [if_pos hb]; exact e
  obtain ⟨f1, f2, f3⟩ := RD_fault (c := 1) (at' := p) h (by decide) (by decide) (by omega)
  obtain ⟨n', hn'⟩ : ∃ n', n = n' + 1 := ⟨n - 1, by omega⟩
  by_cases d1 : bt M L p < 48
  · rw [if_pos d1, if_pos rfl]
    have := c1 n' (Or.inl d1)
    rw [← hn'] at this
    rw [this]
    exact Or.inr ⟨_, _, _, rfl, rfl, f1, f2, f3⟩
  · rw [if_neg d1]
    by_cases d2 : 57 < bt M L p
    · rw [if_pos d2, if_pos rfl]
      have := c1 n' (Or.inr d2)
      rw [← hn'] at this
      rw [this]
      exact Or.inr ⟨_, _, _, rfl, rfl, f1, f2, f3⟩
    · rw [if_neg d2, if_neg (show ¬ (1 : Int32) = 0 by decide)]
      have ih := num_go (n := n) (L := L) (p := p) hrd hlo hhi 5 n 0 0 M (upd2 N 207 8 0) (by omega) (by omega) (by decide) hR' (u2s _ _ _ _) (fun _ => ⟨d1, d2⟩)
      rcases ih with ⟨v', q, M2, N2, i1, i2, i3, i4, i5, i6, i7, i8, i9⟩ | ⟨r, M2, N2, i1, i2, i3, i4, i5⟩
      · exact Or.inl ⟨v', q, M2, N2, i1, i2, i3, i4, i5, i6, i7, i8, (GR_up (by omega)).trans i9⟩
      · exact Or.inr ⟨r, M2, N2, i1, i2, i3, i4, (GR_up (by omega)).trans i5⟩
end
section
/-! letters of PLANS, digits of accounts -/
def planC (N : Mem) : Option (Int32 × Mem) := (bnp (mX11_here N) fun r4 => (bnp (mX11_in r4 (65 : Int32) (70 : Int32)) fun r5 => (if r5 = 0 then (bnd (mX11_wrongAt (1 : Int32) (N 207 5) N) fun r9 M10 => (some (r9, M10))) else (bnp (mX11_here N) fun r7 => (lt (upd2 (upd2 N 207 8 (r7 - (65 : Int32))) 207 5 (((upd2 N 207 8 (r7 - (65 : Int32))) 207 5) + (1 : Int32))) fun M8 => (some ((1 : Int32), M8)))))))
theorem rp_ok {N N1 : Mem} (h : mX11_takesSign (32 : Int32) N = some (1, N1)) : mX11_readsPlan N = planC N1 := by
  unfold mX11_readsPlan
  rw [h, bnd_some, if_neg (show ¬ (1 : Int32) = 0 by decide)]; rfl
theorem rp_no {N N1 : Mem} (h : mX11_takesSign (32 : Int32) N = some (0, N1)) : mX11_readsPlan N = some (0, N1) := by
  unfold mX11_readsPlan
  rw [h, bnd_some, if_pos rfl]
def LetO (rd L p : Nat) (M N : Mem) (mc mm : Option (Int32 × Mem)) : Prop :=
  (∃ v M2 N2, v ≤ 5 ∧ mc = some (nI v, M2) ∧ mm = some (1, N2) ∧ N2 207 8 = nI v ∧ RD rd L (p + 1) M2 N2 ∧ FR rd M M2 ∧ GR N N2) ∨
  (∃ M2 N2, mc = some (0, M2) ∧ mm = some (0, N2) ∧ FLT rd M2 N2 ∧ FR rd M M2 ∧ GR N N2)
theorem let_ok {rd L p v : Nat} {M N : Mem} (hrd : rd ≠ 1) (h : RD rd L p M N) (hp : p < L) (hv : v ≤ 5) {mc mm : Option (Int32 × Mem)} (h1 : mc = some (nI v, upd2 M rd 2 (nI (p + 1)))) (h2 : mm = some (1, upd2 (upd2 N 207 8 (nI v)) 207 5 (nI (p + 1)))) : LetO rd L p M N mc mm := by
  obtain ⟨h0, g1, g2, g3, g4, g5, g6, g7, hE⟩ := id h
  have hR' : RD rd L p M (upd2 N 207 8 (nI v)) := ⟨h0, g1, g2, g3, g4, g5, by rw [u2k _ _ (by decide)]; exact g6, by rw [u2k _ _ (by decide)]; exact g7, fun i hi => by rw [u2o _ _ (by decide)]; exact hE i hi⟩
  exact Or.inl ⟨v, _, _, hv, h1, h2, by rw [u2k _ _ (by decide), u2s], RD_next hrd hR' hp, FR_up (by decide), (GR_up (by omega)).trans (GR_up (by omega))⟩
theorem R_plan {rd L p : Nat} {M N : Mem} (hrd : rd ≠ 1) (h : RD rd L p M N) : LetO rd L p M N (mX8_planLetter rd M) (planC N) := by
  have hh := m_here h
  obtain ⟨h0, h1, h2, h3, h4, h5, h6, h7, hE⟩ := id h
  obtain ⟨f1, f2, f3⟩ := RD_fault (c := 1) (at' := p) h (by decide) (by decide) (by omega)
  unfold mX8_planLetter planC mX11_in mX11_wrongAt
  rw [h3, h7, c_byte h2 h1 (by omega), hh]
  simp only [bnp_some, bnd_some]
  rw [if_pos h4, show mX8_mark rd (1 : Int32) (nI p) M = _ from mark_ok (c := 1) h4]
  simp only [bnp_some, lt_eq]
  by_cases c1 : bt M L p < 65
  · rw [if_pos c1, if_pos c1]
    exact Or.inr ⟨_, _, rfl, rfl, f1, f2, f3⟩
  · rw [if_neg c1, if_neg c1]
    by_cases c2 : 70 < bt M L p
    · rw [if_neg (Int32.not_le.mpr c2), if_pos c2]
      exact Or.inr ⟨_, _, rfl, rfl, f1, f2, f3⟩
    · rw [if_pos (Int32.not_lt.mp c2), if_neg c2]
      rcases bt_v M L p with ⟨b, b1, b2, b3⟩ | ⟨b1, b2⟩
      · rw [b2, show (65 : Int32) = nI 65 from rfl, nI_ltI (by omega) (by omega)] at c1
        rw [b2, show (70 : Int32) = nI 70 from rfl, nI_ltI (by omega) (by omega)] at c2
        have e : bt M L p - (65 : Int32) = nI (b - 65) := by rw [b2, show (65 : Int32) = nI 65 from rfl]; exact pk_sub (by omega)
        rw [e, place_s, show upd2 N 207 8 (nI (b - 65)) 207 5 = nI p from (u2k _ _ (by decide)).trans h7, place_s]
        exact let_ok hrd h b3 (show b - 65 ≤ 5 by omega) rfl rfl
      · rw [b1] at c1; exact absurd (by decide) c1
def acctC (N : Mem) : Option (Int32 × Mem) := (bnp (mX11_here N) fun r4 => (bnp (mX11_isDigit r4) fun r5 => (if r5 = 0 then (bnd (mX11_wrongAt (1 : Int32) (N 207 5) N) fun r13 M14 => (some (r13, M14))) else (bnp (mX11_here N) fun r7 => (if r7 ≤ (53 : Int32) then (bnp (mX11_here N) fun r8 => (lt (upd2 (upd2 N 207 8 (r8 - (48 : Int32))) 207 5 (((upd2 N 207 8 (r8 - (48 : Int32))) 207 5) + (1 : Int32))) fun M9 => (some ((1 : Int32), M9)))) else (bnd (mX11_wrongAt (3 : Int32) (N 207 5) N) fun r10 M11 => (some (r10, M11))))))))
theorem ra_ok {N N1 : Mem} (h : mX11_takesSign (32 : Int32) N = some (1, N1)) : mX11_readsAccount N = acctC N1 := by
  unfold mX11_readsAccount
  rw [h, bnd_some, if_neg (show ¬ (1 : Int32) = 0 by decide)]; rfl
theorem ra_no {N N1 : Mem} (h : mX11_takesSign (32 : Int32) N = some (0, N1)) : mX11_readsAccount N = some (0, N1) := by
  unfold mX11_readsAccount
  rw [h, bnd_some, if_pos rfl]
theorem R_acct {rd L p : Nat} {M N : Mem} (hrd : rd ≠ 1) (h : RD rd L p M N) : LetO rd L p M N (mX8_accountDigit rd M) (acctC N) := by
  have hh := m_here h
  obtain ⟨h0, h1, h2, h3, h4, h5, h6, h7, hE⟩ := id h
  obtain ⟨f1, f2, f3⟩ := RD_fault (c := 1) (at' := p) h (by decide) (by decide) (by omega)
  obtain ⟨k1, k2, k3⟩ := RD_fault (c := 3) (at' := p) h (by decide) (by decide) (by omega)
  unfold mX8_accountDigit acctC mX11_wrongAt
  rw [h3, h7, c_byte h2 h1 (by omega), hh]
  simp only [bnp_some, bnd_some]
  rw [dig_c]
  simp only [bnp_some]
  rw [if_pos h4, show mX8_mark rd (1 : Int32) (nI p) M = _ from mark_ok (c := 1) h4, show mX8_mark rd (3 : Int32) (nI p) M = _ from mark_ok (c := 3) h4]
  simp only [bnp_some, lt_eq]
  by_cases c1 : bt M L p < 48
  · rw [if_pos c1, if_pos c1, if_pos rfl]
    exact Or.inr ⟨_, _, rfl, rfl, f1, f2, f3⟩
  · rw [if_neg c1, if_neg c1]
    by_cases c2 : 57 < bt M L p
    · rw [if_neg (Int32.not_le.mpr c2), if_pos c2, if_pos rfl]
      exact Or.inr ⟨_, _, rfl, rfl, f1, f2, f3⟩
    · rw [if_pos (Int32.not_lt.mp c2), if_neg c2, if_neg (show ¬ (1 : Int32) = 0 by decide)]
      obtain ⟨b, b1, b2, b3, b4⟩ := dig_nat c1 c2
      have e : bt M L p - (48 : Int32) = nI (b - 48) := by rw [b3, show (48 : Int32) = nI 48 from rfl]; exact pk_sub (by omega)
      rw [e, place_s, show upd2 N 207 8 (nI (b - 48)) 207 5 = nI p from (u2k _ _ (by decide)).trans h7, place_s, b3]
      by_cases c3 : b ≤ 53
      · rw [if_pos (show nI (b - 48) < (6 : Int32) by rw [show (6 : Int32) = nI 6 from rfl, nI_ltI (by omega) (by omega)]; omega), if_pos (show nI b ≤ (53 : Int32) by rw [show (53 : Int32) = nI 53 from rfl, nI_leI (by omega) (by omega)]; omega)]
        exact let_ok hrd h b4 (show b - 48 ≤ 5 by omega) rfl rfl
      · rw [if_neg (show ¬ nI (b - 48) < (6 : Int32) by rw [show (6 : Int32) = nI 6 from rfl, nI_ltI (by omega) (by omega)]; omega), if_neg (show ¬ nI b ≤ (53 : Int32) by rw [show (53 : Int32) = nI 53 from rfl, nI_leI (by omega) (by omega)]; omega)]
        exact Or.inr ⟨_, _, rfl, rfl, k1, k2, k3⟩
/-! words, packed -/
def PKN (b : Nat → Nat) (p : Nat) : Nat → Nat
  | 0 => 0
  | d + 1 => 32 * PKN b p d + (b (p + d) - 96)
theorem PKN_lt {b : Nat → Nat} {p : Nat} : ∀ (d : Nat), (∀ j, j < d → 97 ≤ b (p + j) ∧ b (p + j) ≤ 122) → PKN b p d < 32 ^ d
  | 0, _ => Nat.zero_lt_one
  | d + 1, h => by
    have ih := PKN_lt d (fun j hj => h j (by omega))
    have := h d (by omega)
    show 32 * PKN b p d + (b (p + d) - 96) < 32 ^ (d + 1)
    rw [Nat.pow_succ]; omega
theorem PKN_ge {b : Nat → Nat} {p : Nat} : ∀ (d : Nat), (∀ j, j < d + 1 → 97 ≤ b (p + j) ∧ b (p + j) ≤ 122) → 32 ^ d ≤ PKN b p (d + 1)
  | 0, h => by
    have := h 0 (by omega)
    show 32 ^ 0 ≤ 32 * 0 + (b (p + 0) - 96)
    rw [Nat.pow_zero]; omega
  | d + 1, h => by
    have ih := PKN_ge d (fun j hj => h j (by omega))
    show 32 ^ (d + 1) ≤ 32 * PKN b p (d + 1) + (b (p + (d + 1)) - 96)
    rw [Nat.pow_succ]; omega
theorem PKN_inj {b b' : Nat → Nat} {p q : Nat} : ∀ (d d' : Nat), (∀ j, j < d → 97 ≤ b (p + j) ∧ b (p + j) ≤ 122) → (∀ j, j < d' → 97 ≤ b' (q + j) ∧ b' (q + j) ≤ 122) → PKN b p d = PKN b' q d' → d = d' ∧ ∀ j, j < d → b (p + j) = b' (q + j)
  | 0, 0, _, _, _ => ⟨rfl, fun j hj => absurd hj (Nat.not_lt_zero _)⟩
  | 0, d' + 1, _, h', e => by
    have := PKN_ge d' h'
    have hp : 0 < 32 ^ d' := Nat.pow_pos (by decide)
    have e0 : PKN b p 0 = 0 := rfl
    omega
  | d + 1, 0, h, _, e => by
    have := PKN_ge d h
    have hp : 0 < 32 ^ d := Nat.pow_pos (by decide)
    have e0 : PKN b' q 0 = 0 := rfl
    omega
  | d + 1, d' + 1, h, h', e => by
    have a := h d (by omega)
    have a' := h' d' (by omega)
    have e2 : 32 * PKN b p d + (b (p + d) - 96) = 32 * PKN b' q d' + (b' (q + d') - 96) := e
    have ih := PKN_inj d d' (fun j hj => h j (by omega)) (fun j hj => h' j (by omega)) (by omega)
    obtain ⟨rfl, ih2⟩ := ih
    refine ⟨rfl, fun j hj => ?_⟩
    rcases (show j = d ∨ j < d by omega) with rfl | g
    · omega
    · exact ih2 j g
theorem PKN_congr {b b' : Nat → Nat} {p q : Nat} : ∀ (d : Nat), (∀ j, j < d → b (p + j) = b' (q + j)) → PKN b p d = PKN b' q d
  | 0, _ => rfl
  | d + 1, h => by
    show 32 * PKN b p d + (b (p + d) - 96) = 32 * PKN b' q d + (b' (q + d) - 96)
    rw [PKN_congr d (fun j hj => h j (by omega)), h d (by omega)]
def btN (M : Mem) (i : Nat) : Nat := (M 1 i &&& 255).toNatClampNeg
def isLet (M : Mem) (L i : Nat) : Prop := ¬ bt M L i < 97 ∧ ¬ 122 < bt M L i
theorem isLet_n {M : Mem} {L i : Nat} (h : isLet M L i) : bt M L i = nI (btN M i) ∧ 97 ≤ btN M i ∧ btN M i ≤ 122 ∧ i < L := by
  obtain ⟨h1, h2⟩ := h
  rcases bt_v M L i with ⟨b, b1, b2, b3⟩ | ⟨b1, b2⟩
  · have e : btN M i = b := by
      unfold btN
      have := b2
      unfold bt at this
      rw [if_pos b3] at this
      rw [this]; exact nI_clamp (by omega)
    rw [b2, show (97 : Int32) = nI 97 from rfl, nI_ltI (by omega) (by omega)] at h1
    rw [b2, show (122 : Int32) = nI 122 from rfl, nI_ltI (by omega) (by omega)] at h2
    rw [e]
    exact ⟨b2, by omega, by omega, b3⟩
  · rw [b1] at h1; exact absurd (by decide) h1
theorem word_end {M : Mem} {L : Nat} : ∀ (d p : Nat), p + d = L → ∃ e, p ≤ e ∧ e ≤ L ∧ (∀ i, p ≤ i → i < e → isLet M L i) ∧ ¬ isLet M L e
  | 0, p, h => ⟨p, Nat.le_refl _, by omega, fun i a b => absurd b (by omega), fun g => by have := isLet_n g; omega⟩
  | d + 1, p, h => by
    rcases Classical.em (isLet M L p) with g | g
    · obtain ⟨e, e1, e2, e3, e4⟩ := word_end (M := M) (L := L) d (p + 1) (by omega)
      refine ⟨e, by omega, e2, fun i a b => ?_, e4⟩
      rcases (show i = p ∨ p + 1 ≤ i by omega) with rfl | z
      · exact g
      · exact e3 i z b
    · exact ⟨p, Nat.le_refl _, by omega, fun i a b => absurd b (by omega), g⟩
theorem c_end_go {n rd a L e : Nat} {M : Mem} (h1 : M rd 1 = nI L) (hL : L ≤ 200) (he : e ≤ L) (hno : ¬ isLet M L e) : ∀ (d k q : Nat), q + d = e → d < k → (∀ i, q ≤ i → i < e → isLet M L i) → mX8_word_c14 n k rd a (nI q) M = mX8_word_c56 n n rd a (nI e) 0 0 0 M
  | d, 0, _, _, h, _ => absurd h (Nat.not_lt_zero _)
  | 0, k + 1, q, e0, h, hl => by
    have : q = e := by omega
    subst this
    unfold mX8_word_c14
    rw [h1, c_byte h1 hL (by omega)]
    simp only [bnp_some]
    by_cases z : nI L ≤ nI q
    · rw [if_pos z]
    · rw [if_neg z]
      by_cases z1 : bt M L q < 97
      · rw [if_pos z1]
      · rw [if_neg z1]
        by_cases z2 : 122 < bt M L q
        · rw [if_pos z2]
        · exact absurd ⟨z1, z2⟩ hno
  | d + 1, k + 1, q, e0, h, hl => by
    have g := hl q (Nat.le_refl _) (by omega)
    obtain ⟨g1, g2⟩ := g
    unfold mX8_word_c14
    rw [h1, c_byte h1 hL (by omega), if_neg (show ¬ nI L ≤ nI q by rw [nI_leI (by omega) (by omega)]; omega)]
    simp only [bnp_some]
    rw [if_neg g1, if_neg g2, place_s]
    exact c_end_go h1 hL he hno d k (q + 1) (by omega) (by omega) (fun i a b => hl i (by omega) b)
def sS (a i : Nat) : Int32 := (sByt.getD a []).getD i 0
def sN (a i : Nat) : Nat := (sS a i).toNatClampNeg
def nS (a : Nat) : Nat := sLen.getD a 0
def bdL (a : Nat) : Nat → Nat → Nat → Nat → List (Nat × Nat × Nat)
  | _, _, _, 0 => []
  | fr, idx, i, d + 1 => if i = nS a ∨ sS a i = 32 then (idx, fr, i) :: bdL a (i + 1) (idx + 1) (i + 1) d else bdL a fr idx (i + 1) d
theorem bdL_s (a fr idx i d : Nat) : bdL a fr idx i (d + 1) = if i = nS a ∨ sS a i = 32 then (idx, fr, i) :: bdL a (i + 1) (idx + 1) (i + 1) d else bdL a fr idx (i + 1) d := rfl
theorem c_same_go {n rd a L p fr to : Nat} {M : Mem} (h1 : M rd 1 = nI L) (hL : L ≤ 200) (h2 : M rd 2 = nI p) (hto : to ≤ nS a) (ha : nS a ≤ 100) (hp : p + (to - fr) ≤ L) : ∀ (d k v : Nat), v + d = to → d < k → fr ≤ v → ∃ r, mX8_isSame_c3 n k rd a (nI fr) (nI to) (nI v) M = some r ∧ (r = 1 ∨ r = 0) ∧ (r = 1 ↔ ∀ j, v - fr ≤ j → j < to - fr → sS a (fr + j) = bt M L (p + j))
  | d, 0, _, _, h, _ => absurd h (Nat.not_lt_zero _)
  | 0, k + 1, v, e, h, hv => by
    unfold mX8_isSame_c3
    rw [if_pos (show nI to ≤ nI v by rw [nI_leI (by omega) (by omega)]; omega)]
    exact ⟨1, rfl, Or.inl rfl, fun _ j a b => absurd b (by omega), fun _ => rfl⟩
  | d + 1, k + 1, v, e, h, hv => by
    obtain ⟨r, r1, r2, r3⟩ := c_same_go (n := n) h1 hL h2 hto ha hp d k (v + 1) (by omega) (by omega) (by omega)
    unfold mX8_isSame_c3
    have e1 : (nI p + nI v) - nI fr = nI (p + (v - fr)) := by
      rw [nI_add, pk_sub (by omega)]; congr 1; omega
    rw [if_neg (show ¬ nI to ≤ nI v by rw [nI_leI (by omega) (by omega)]; omega), show sLen.getD a 0 = nS a from rfl, show Int32.ofNat (nS a) = nI (nS a) from rfl, if_neg (show ¬ nI (nS a) ≤ nI v by rw [nI_leI (by omega) (by omega)]; omega), chk_n (show v < nS a by omega) (by omega), h2, e1, c_byte h1 hL (by omega), nI_clamp (by omega), place_s]
    simp only [bnp_some]
    show ∃ r, (if sS a v = bt M L (p + (v - fr)) then mX8_isSame_c3 n k rd a (nI fr) (nI to) (nI (v + 1)) M else some 0) = some r ∧ _
    by_cases q : sS a v = bt M L (p + (v - fr))
    · rw [if_pos q]
      refine ⟨r, r1, r2, fun g j j1 j2 => ?_, fun g => r3.mpr (fun j j1 j2 => g j (by omega) j2)⟩
      rcases (show j = v - fr ∨ v + 1 - fr ≤ j by omega) with rfl | z
      · rw [show fr + (v - fr) = v by omega]; exact q
      · exact r3.mp g j z j2
    · rw [if_neg q]
      refine ⟨0, rfl, Or.inr rfl, fun g => absurd g (by decide), fun g => ?_⟩
      have := g (v - fr) (Nat.le_refl _) (by omega)
      rw [show fr + (v - fr) = v by omega] at this
      exact absurd this q
/-- a word of the list that is the text's, or none -/
theorem c_find_go {n rd a L p e V : Nat} {M : Mem} (hn : 20000 ≤ n) (h1 : M rd 1 = nI L) (hL : L ≤ 200) (h2 : M rd 2 = nI p) (h3 : M rd 3 = 0) (ha : nS a ≤ 100) (hpe : p ≤ e) (he : e ≤ L) (hlet : ∀ i, p ≤ i → i < e → isLet M L i) (hV : V = PKN (btN M) p (e - p)) :
    ∀ (d k fr idx i : Nat), i + d = nS a + 1 → d < k → fr ≤ i → idx ≤ i → (∀ t ∈ bdL a fr idx i d, ∀ j, j < t.2.2 - t.2.1 → 97 ≤ sN a (t.2.1 + j) ∧ sN a (t.2.1 + j) ≤ 122 ∧ sS a (t.2.1 + j) = nI (sN a (t.2.1 + j))) →
    (∃ t ∈ bdL a fr idx i d, V = PKN (sN a) t.2.1 (t.2.2 - t.2.1) ∧ mX8_word_c56 n k rd a (nI e) (nI fr) (nI idx) (nI i) M = some (nI t.1, upd2 M rd 2 (nI e))) ∨
    ((∀ t ∈ bdL a fr idx i d, V ≠ PKN (sN a) t.2.1 (t.2.2 - t.2.1)) ∧ mX8_word_c56 n k rd a (nI e) (nI fr) (nI idx) (nI i) M = some (-1, upd2 (upd2 M rd 3 (nI 1)) rd 4 (nI p)))
  | d, 0, _, _, _, _, h, _, _, _ => absurd h (Nat.not_lt_zero _)
  | 0, k + 1, fr, idx, i, e0, h, hf, hx, ht => by
    unfold mX8_word_c56
    rw [show sLen.getD a 0 = nS a from rfl, show Int32.ofNat (nS a) = nI (nS a) from rfl, if_pos (show nI (nS a) < nI i by rw [nI_ltI (by omega) (by omega)]; omega), h2, show mX8_mark rd (1 : Int32) (nI p) M = _ from mark_ok (c := 1) h3]
    exact Or.inr ⟨fun t h => absurd h (by unfold bdL; exact List.not_mem_nil), rfl⟩
  | d + 1, k + 1, fr, idx, i, e0, h, hf, hx, ht => by
    rw [bdL_s] at ht
    rw [bdL_s]
    have c85 : (i = nS a ∨ sS a i = 32) → mX8_word_c56 n (k + 1) rd a (nI e) (nI fr) (nI idx) (nI i) M = mX8_word_c85 n (mX8_word_c56 n k) rd a (nI e) (nI fr) (nI idx) (nI i) M := by
      intro hb
      unfold mX8_word_c56
      rw [show sLen.getD a 0 = nS a from rfl, show Int32.ofNat (nS a) = nI (nS a) from rfl, if_neg (show ¬ nI (nS a) < nI i by rw [nI_ltI (by omega) (by omega)]; omega)]
      by_cases z : i = nS a
      · rw [if_pos (show nI i = nI (nS a) by rw [z])]
      · rw [if_neg (show ¬ nI i = nI (nS a) by rw [nI_eq (by omega) (by omega)]; exact z), chk_n (show i < nS a by omega) (by omega), nI_clamp (by omega)]
        rcases hb with hb | hb
        · exact absurd hb z
        · rw [if_pos (show (sByt.getD a []).getD i 0 = (32 : Int32) from hb)]
    by_cases hb : i = nS a ∨ sS a i = 32
    · rw [if_pos hb] at ht ⊢
      rw [c85 hb]
      have ih := c_find_go (n := n) hn h1 hL h2 h3 ha hpe he hlet hV d k (i + 1) (idx + 1) (i + 1) (by omega) (by omega) (Nat.le_refl _) (by omega) (fun t h => ht t (List.mem_cons_of_mem _ h))
      have ht0 := ht (idx, fr, i) (List.mem_cons_self ..)
      have go : V ≠ PKN (sN a) fr (i - fr) → mX8_word_c85 n (mX8_word_c56 n k) rd a (nI e) (nI fr) (nI idx) (nI i) M = mX8_word_c56 n k rd a (nI e) (nI (i + 1)) (nI (idx + 1)) (nI (i + 1)) M := by
        intro hne
        unfold mX8_word_c85
        rw [pk_sub hf, h2, pk_sub hpe, place_s, place_s]
        by_cases z : i - fr = e - p
        · rw [if_pos (by rw [z])]
          obtain ⟨r, r1, r2, r3⟩ := c_same_go (n := n) (a := a) (fr := fr) (to := i) h1 hL h2 (by omega) ha (by omega) (i - fr) n fr (by omega) (by omega) (Nat.le_refl _)
          unfold mX8_isSame
          rw [r1]
          simp only [bnp_some]
          rcases r2 with r2 | r2
          · exfalso
            apply hne
            rw [hV, ← z]
            refine PKN_congr _ (fun j hj => ?_)
            have a1 := r3.mp r2 j (by omega) hj
            have a2 := isLet_n (hlet (p + j) (by omega) (by omega))
            have a3 := ht0 j hj
            rw [a3.2.2, a2.1, nI_eq (by omega) (by omega)] at a1
            exact a1.symm
          · rw [if_pos r2]
        · rw [if_neg (show ¬ nI (i - fr) = nI (e - p) by rw [nI_eq (by omega) (by omega)]; exact z)]
      by_cases hm : V = PKN (sN a) fr (i - fr)
      · refine Or.inl ⟨(idx, fr, i), List.mem_cons_self .., hm, ?_⟩
        obtain ⟨z, zj⟩ := PKN_inj (b := btN M) (b' := sN a) (p := p) (q := fr) (e - p) (i - fr) (fun j hj => ⟨(isLet_n (hlet (p + j) (by omega) (by omega))).2.1, (isLet_n (hlet (p + j) (by omega) (by omega))).2.2.1⟩) (fun j hj => ⟨(ht0 j hj).1, (ht0 j hj).2.1⟩) (hV.symm.trans hm)
        unfold mX8_word_c85
        rw [pk_sub hf, h2, pk_sub hpe, if_pos (by rw [z])]
        obtain ⟨r, r1, r2, r3⟩ := c_same_go (n := n) (a := a) (fr := fr) (to := i) h1 hL h2 (by omega) ha (by omega) (i - fr) n fr (by omega) (by omega) (Nat.le_refl _)
        unfold mX8_isSame
        rw [r1]
        simp only [bnp_some]
        have : r = 1 := r3.mpr (fun j _ hj => by
          rw [(ht0 j hj).2.2, (isLet_n (hlet (p + j) (by omega) (by omega))).1, zj j (by omega)])
        rw [this, if_neg (show ¬ (1 : Int32) = 0 by decide)]
      · rw [go hm]
        rcases ih with ⟨t, t1, t2, t3⟩ | ⟨t1, t2⟩
        · exact Or.inl ⟨t, List.mem_cons_of_mem _ t1, t2, t3⟩
        · refine Or.inr ⟨fun t h => ?_, t2⟩
          rcases List.mem_cons.mp h with rfl | h
          · exact hm
          · exact t1 t h
    · rw [if_neg hb] at ht ⊢
      have ih := c_find_go (n := n) hn h1 hL h2 h3 ha hpe he hlet hV d k fr idx (i + 1) (by omega) (by omega) (by omega) (by omega) ht
      have e5 : mX8_word_c56 n (k + 1) rd a (nI e) (nI fr) (nI idx) (nI i) M = mX8_word_c56 n k rd a (nI e) (nI fr) (nI idx) (nI (i + 1)) M := by
        have z : ¬ i = nS a := fun g => hb (Or.inl g)
        have z2 : ¬ sS a i = 32 := fun g => hb (Or.inr g)
        rw [mX8_word_c56]
        rw [show sLen.getD a 0 = nS a from rfl, show Int32.ofNat (nS a) = nI (nS a) from rfl, if_neg (show ¬ nI (nS a) < nI i by rw [nI_ltI (by omega) (by omega)]; omega), if_neg (show ¬ nI i = nI (nS a) by rw [nI_eq (by omega) (by omega)]; exact z), chk_n (show i < nS a by omega) (by omega), nI_clamp (by omega), if_neg (show ¬ (sByt.getD a []).getD i 0 = (32 : Int32) from z2), place_s]
      rw [e5]
      exact ih
end
section
/-! words on both sides -/
theorem i64_n {c : Nat} (h : c < 2 ^ 31) : Int32.toInt64 (nI c) = Int64.ofNat c := by
  apply Int64.toInt_inj.mp
  rw [Int32.toInt_toInt64, nI_toInt h, Int64.toInt_ofNat_of_lt (by omega)]
theorem pk64 {a c : Nat} (h : 97 ≤ c) (hc : c < 256) : (((32 : Int64) * Int64.ofNat a) + Int32.toInt64 (nI c)) - (97 : Int64) + (1 : Int64) = Int64.ofNat (32 * a + (c - 96)) := by
  obtain ⟨c', rfl⟩ : ∃ c', c = c' + 97 := ⟨c - 97, by omega⟩
  rw [i64_n (by omega), show (32 : Int64) = Int64.ofNat 32 from rfl, show (97 : Int64) = Int64.ofNat 97 from rfl, show (1 : Int64) = Int64.ofNat 1 from rfl, ← Int64.ofNat_mul, ← Int64.ofNat_add, show 32 * a + (c' + 97) = (32 * a + c') + 97 by omega, Int64.ofNat_add, Int64.add_sub_cancel, ← Int64.ofNat_add]
  congr 1
theorem m_here2 {L q : Nat} {M N : Mem} (hq : q ≤ L) (hL : L ≤ 200) (h6 : N 207 6 = nI L) (h7 : N 207 5 = nI q) (hE : ∀ i, i < L → M 1 i = N 210 i) : mX11_here N = some (bt M L q) := by
  unfold mX11_here bt
  rw [h6, h7]
  by_cases g : q < L
  · rw [if_neg (by rw [nI_leI (by omega) (by omega)]; omega), chk_n (show q < 400 by omega) (by decide), nI_clamp (by omega), if_pos g, hE q g]
  · rw [if_pos (by rw [nI_leI (by omega) (by omega)]; omega), if_neg g]
theorem in_let {M : Mem} {L i : Nat} : (isLet M L i → mX11_in (bt M L i) (97 : Int32) (122 : Int32) = some 1) ∧ (¬ isLet M L i → mX11_in (bt M L i) (97 : Int32) (122 : Int32) = some 0) := by
  unfold mX11_in
  refine ⟨fun h => ?_, fun h => ?_⟩
  · rw [if_neg h.1, if_neg h.2]
  · by_cases z : bt M L i < 97
    · rw [if_pos z]
    · rw [if_neg z]
      by_cases z2 : 122 < bt M L i
      · rw [if_pos z2]
      · exact absurd ⟨z, z2⟩ h
theorem h10 : (10 : Nat) ≠ 10 + HI := by decide
theorem h10' : (10 + HI : Nat) ≠ 10 := by decide
theorem hHI (k : Nat) (h : k ≤ 30) : k ≠ 10 + HI := by rw [HI_v]; omega
theorem m_word_go2 {n L p e : Nat} {M : Mem} (hL : L ≤ 200) (he : e ≤ L) (hpe : p ≤ e) (hno : ¬ isLet M L e) : ∀ (d k q : Nat) (N : Mem), q + d = e → d < k → p ≤ q → N 207 6 = nI L → N 207 5 = nI q → N 207 9 = nI p →
    lcb (N 207 10) (N 207 (10 + HI)) = Int64.ofNat (PKN (btN M) p (min (q - p) 8)) → (∀ i, i < L → M 1 i = N 210 i) → (∀ i, q ≤ i → i < e → isLet M L i) →
    ∃ N', mX11_readsWord_c13 n k N = some N' ∧ N' 207 5 = nI e ∧ N' 207 9 = nI p ∧ lcb (N' 207 10) (N' 207 (10 + HI)) = (if e - p ≤ 8 then Int64.ofNat (PKN (btN M) p (e - p)) else -1) ∧ GR N N' := by
  intro d
  induction d with
  | zero =>
    intro k q N e0 h hp h6 h5 h9 hw hE hl
    obtain ⟨k, rfl⟩ : ∃ k', k = k' + 1 := ⟨k - 1, by omega⟩
    have : q = e := by omega
    subst this
    unfold mX11_readsWord_c13
    rw [m_here2 he hL h6 h5 hE, h5, h9]
    simp only [bnp_some]
    rw [in_let.2 hno, pk_sub hp]
    simp only [bnp_some]
    rw [if_pos trivial]
    by_cases z : q - p ≤ 8
    · rw [if_pos (show nI (q - p) ≤ (8 : Int32) by rw [show (8 : Int32) = nI 8 from rfl, nI_leI (by omega) (by omega)]; exact z), if_pos z]
      refine ⟨N, rfl, h5, h9, ?_, GR.rfl'⟩
      rw [hw, show min (q - p) 8 = q - p by omega]
    · rw [if_neg (show ¬ nI (q - p) ≤ (8 : Int32) by rw [show (8 : Int32) = nI 8 from rfl, nI_leI (by omega) (by omega)]; exact z), if_neg z]
      refine ⟨_, rfl, ?_, ?_, ?_, (GR_up (by omega)).trans (GR_up (by omega))⟩
      · rw [u2k _ _ (hHI 5 (by decide)), u2k _ _ (by decide)]; exact h5
      · rw [u2k _ _ (hHI 9 (by decide)), u2k _ _ (by decide)]; exact h9
      · rw [u2k _ _ h10, u2s, u2s, lcb_of]
  | succ d ihd =>
    intro k q N e0 h hp h6 h5 h9 hw hE hl
    obtain ⟨k, rfl⟩ : ∃ k', k = k' + 1 := ⟨k - 1, by omega⟩
    have hq := hl q (Nat.le_refl _) (by omega)
    obtain ⟨b1, b2, b3, b4⟩ := isLet_n hq
    unfold mX11_readsWord_c13
    rw [m_here2 (by omega) hL h6 h5 hE, h5, h9]
    simp only [bnp_some]
    rw [in_let.1 hq, pk_sub hp, place_s]
    simp only [bnp_some]
    rw [if_neg (show ¬ (1 : Int32) = 0 by decide)]
    by_cases z : 8 ≤ q - p
    · rw [if_pos (show (8 : Int32) ≤ nI (q - p) by rw [show (8 : Int32) = nI 8 from rfl, nI_leI (by omega) (by omega)]; exact z)]
      obtain ⟨N', i1, i2, i3, i4, i5⟩ := ihd k (q + 1) (upd2 N 207 5 (nI (q + 1))) (by omega) (by omega) (by omega) (by rw [u2k _ _ (by decide)]; exact h6) (u2s _ _ _ _) (by rw [u2k _ _ (by decide)]; exact h9)
        (by rw [u2k _ _ (by decide), u2k _ _ (Ne.symm (hHI 5 (by decide))), hw, show min (q - p) 8 = min (q + 1 - p) 8 by omega]) (fun i hi => by rw [u2o _ _ (by decide)]; exact hE i hi) (fun i a b => hl i (by omega) b)
      exact ⟨N', i1, i2, i3, i4, (GR_up (by omega)).trans i5⟩
    · rw [if_neg (show ¬ (8 : Int32) ≤ nI (q - p) by rw [show (8 : Int32) = nI 8 from rfl, nI_leI (by omega) (by omega)]; exact z), hw, b1, pk64 b2 (by omega)]
      simp only [lt_eq]
      obtain ⟨v, hv⟩ : ∃ v, v = Int64.ofNat (32 * PKN (btN M) p (min (q - p) 8) + (btN M q - 96)) := ⟨_, rfl⟩
      rw [← hv, show upd2 (upd2 N 207 10 (llo v)) 207 (10 + HI) (lhi v) 207 5 = nI q from (u2k _ _ (hHI 5 (by decide))).trans ((u2k _ _ (by decide)).trans h5), place_s]
      obtain ⟨N', i1, i2, i3, i4, i5⟩ := ihd k (q + 1) (upd2 (upd2 (upd2 N 207 10 (llo v)) 207 (10 + HI) (lhi v)) 207 5 (nI (q + 1))) (by omega) (by omega) (by omega)
        (by rw [u2k _ _ (by decide), u2k _ _ (hHI 6 (by decide)), u2k _ _ (by decide)]; exact h6) (u2s _ _ _ _) (by rw [u2k _ _ (by decide), u2k _ _ (hHI 9 (by decide)), u2k _ _ (by decide)]; exact h9)
        (by
          rw [u2k _ _ (show (10 : Nat) ≠ 5 by decide), u2k _ _ h10, u2s, u2k _ _ (Ne.symm (hHI 5 (by decide))), u2s, lcb_of, hv]
          have e8 : min (q + 1 - p) 8 = min (q - p) 8 + 1 := by omega
          rw [e8]
          show _ = Int64.ofNat (32 * PKN (btN M) p (min (q - p) 8) + (btN M (p + min (q - p) 8) - 96))
          rw [show p + min (q - p) 8 = q by omega])
        (fun i hi => by rw [u2o _ _ (by decide), u2o _ _ (by decide), u2o _ _ (by decide)]; exact hE i hi) (fun i a b => hl i (by omega) b)
      exact ⟨N', i1, i2, i3, i4, (((GR_up (by omega)).trans (GR_up (by omega))).trans (GR_up (by omega))).trans i5⟩
/-- the words of a list with their numbers, packed -/
def CW (a : Nat) : List (Nat × Nat) := (bdL a 0 0 0 (nS a + 1)).map (fun t => (t.1, PKN (sN a) t.2.1 (t.2.2 - t.2.1)))
theorem CW_tab : ∀ a, a < 3 → (nS a ≤ 100 ∧ (∀ t ∈ bdL a 0 0 0 (nS a + 1), ∀ j, j < t.2.2 - t.2.1 → 97 ≤ sN a (t.2.1 + j) ∧ sN a (t.2.1 + j) ≤ 122 ∧ sS a (t.2.1 + j) = nI (sN a (t.2.1 + j))) ∧ ∀ t ∈ CW a, t.2 < 2 ^ 40) := by decide +kernel
theorem CW_0 : CW 0 = [(0, 17376357), (1, 215205), (2, 664754), (3, 595572), (4, 441477), (5, 16832101), (6, 87435), (7, 398963), (8, 6309), (9, 20536)] := by decide +kernel
theorem CW_1 : CW 1 = [(0, 37889479), (1, 24395141)] := by decide +kernel
theorem CW_2 : CW 2 = [(0, 2268462), (1, 109099237), (2, 20088467), (3, 643568), (4, 494), (5, 578868), (6, 22117), (7, 132915), (8, 203112114), (9, 16441), (10, 609658308), (11, 442053), (12, 677454)] := by decide +kernel
theorem of64_inj {a b : Nat} (ha : a < 2 ^ 62) (hb : b < 2 ^ 62) (h : Int64.ofNat a = Int64.ofNat b) : a = b := by
  have := congrArg Int64.toInt h
  rw [Int64.toInt_ofNat_of_lt (by omega), Int64.toInt_ofNat_of_lt (by omega)] at this
  omega
theorem of64_m1 {a : Nat} (ha : a < 2 ^ 62) : ¬ (-1 : Int64) = Int64.ofNat a := by
  intro h
  have := congrArg Int64.toInt h
  rw [Int64.toInt_ofNat_of_lt (by omega)] at this
  have e : (-1 : Int64).toInt = -1 := by decide
  rw [e] at this; omega
theorem R_word {n rd L p a : Nat} {M N : Mem} (hrd : rd ≠ 1) (ha : a < 3) (hn : 20000 ≤ n) (h : RD rd L p M N) : ∃ e N', p ≤ e ∧ e ≤ L ∧ mX11_readsWord n N = some N' ∧ N' 207 9 = nI p ∧ GR N N' ∧
    ((∃ t ∈ CW a, lcb (N' 207 10) (N' 207 (10 + HI)) = Int64.ofNat t.2 ∧ mX8_word n rd a M = some (nI t.1, upd2 M rd 2 (nI e)) ∧ RD rd L e (upd2 M rd 2 (nI e)) N') ∨
     ((∀ t ∈ CW a, lcb (N' 207 10) (N' 207 (10 + HI)) ≠ Int64.ofNat t.2) ∧ mX8_word n rd a M = some (-1, upd2 (upd2 M rd 3 (nI 1)) rd 4 (nI p)) ∧ FLT rd (upd2 (upd2 M rd 3 (nI 1)) rd 4 (nI p)) (upd2 N' 207 7 ((-1000 : Int32) * nI 1 - nI p)))) := by
  obtain ⟨h0, h1, h2, h3, h4, h5, h6, h7, hE⟩ := id h
  obtain ⟨k1, k2, k3⟩ := CW_tab a ha
  obtain ⟨e, e1, e2, e3, e4⟩ := word_end (M := M) (L := L) (L - p) p (by omega)
  obtain ⟨V, hV⟩ : ∃ V, V = PKN (btN M) p (e - p) := ⟨_, rfl⟩
  have hlt := fun j (hj : j < e - p) => isLet_n (e3 (p + j) (by omega) (by omega))
  have c1 : mX8_word n rd a M = mX8_word_c56 n n rd a (nI e) (nI 0) (nI 0) (nI 0) M := by
    unfold mX8_word
    rw [if_pos h4, h3]
    exact c_end_go (n := n) h2 h1 e2 e4 (e - p) n p (by omega) (by omega) e3
  have c2 := c_find_go (n := n) (rd := rd) (a := a) (e := e) (V := V) (M := M) hn h2 h1 h3 h4 k1 e1 e2 e3 hV (nS a + 1) n 0 0 0 (by omega) (by omega) (Nat.le_refl _) (Nat.le_refl _) k2
  rw [← c1] at c2
  have a1 : ∀ k, k ≤ 8 → k ≠ 9 → upd2 (upd2 (upd2 N 207 9 (nI p)) 207 10 (llo 0)) 207 (10 + HI) (lhi 0) 207 k = N 207 k := fun k hk hk9 => by
    rw [u2k _ _ (hHI k (by omega)), u2k _ _ (by omega), u2k _ _ hk9]
  obtain ⟨N', i1, i2, i3, i4, i5⟩ := m_word_go2 (n := n) h1 e2 e1 e4 (e - p) n p (upd2 (upd2 (upd2 N 207 9 (nI p)) 207 10 (llo 0)) 207 (10 + HI) (lhi 0)) (by omega) (by omega) (Nat.le_refl _) (by rw [a1 6 (by decide) (by decide)]; exact h6) (by rw [a1 5 (by decide) (by decide)]; exact h7)
    (by rw [u2k _ _ (hHI 9 (by decide)), u2k _ _ (by decide), u2s]) (by rw [u2k _ _ h10, u2s, u2s, lcb_of, Nat.sub_self]; rfl) (fun i hi => by rw [u2o _ _ (by decide), u2o _ _ (by decide), u2o _ _ (by decide)]; exact hE i hi) e3
  have hG : GR N N' := (((GR_up (by omega)).trans (GR_up (by omega))).trans (GR_up (by omega))).trans i5
  rw [← hV] at i4
  have hm : mX11_readsWord n N = some N' := by
    unfold mX11_readsWord
    rw [h7]
    exact i1
  have hbig : V < 2 ^ 40 → e - p ≤ 8 := by
    intro hv
    rcases Nat.lt_or_ge 8 (e - p) with z | z
    · obtain ⟨d, hd⟩ : ∃ d, e - p = d + 1 := ⟨e - p - 1, by omega⟩
      have g := PKN_ge (b := btN M) (p := p) d (fun j hj => ⟨(hlt j (by omega)).2.1, (hlt j (by omega)).2.2.1⟩)
      rw [← hd, ← hV] at g
      have := Nat.pow_le_pow_right (n := 32) (by decide) (show 8 ≤ d by omega)
      have e8 : 32 ^ 8 = 2 ^ 40 := by decide
      omega
    · exact z
  refine ⟨e, N', e1, e2, hm, i3, hG, ?_⟩
  rcases c2 with ⟨t, t1, t2, t3⟩ | ⟨t1, t2⟩
  · have hmem : (t.1, PKN (sN a) t.2.1 (t.2.2 - t.2.1)) ∈ CW a := List.mem_map.mpr ⟨t, t1, rfl⟩
    have hb := hbig (by rw [t2]; exact k3 _ hmem)
    refine Or.inl ⟨_, hmem, ?_, t3, ?_⟩
    · rw [i4, if_pos hb, t2]
    · exact ⟨e2, h1, by rw [u2k _ _ (by decide)]; exact h2, u2s _ _ _ _, by rw [u2k _ _ (by decide)]; exact h4, by rw [u2k _ _ (by decide)]; exact h5, by rw [hG 207 6 (Or.inr ⟨by decide, by decide, by decide, by decide, by decide, hHI 6 (by decide)⟩)]; exact h6, i2, fun i hi => by rw [u2o _ _ (Ne.symm hrd), hG 210 i (Or.inl (by decide))]; exact hE i hi⟩
  · refine Or.inr ⟨fun u hu => ?_, t2, ⟨1, p, by decide, by decide, by omega, by rw [u2k _ _ (by decide), u2s], u2s _ _ _ _, u2s _ _ _ _⟩⟩
    have hu40 := k3 u hu
    obtain ⟨t, m1, m2⟩ := List.mem_map.mp hu
    have hne := t1 t m1
    rw [← m2] at hu40 ⊢
    rw [i4]
    by_cases z : e - p ≤ 8
    · rw [if_pos z]
      intro g
      have hVlt : V < 32 ^ (e - p) := by rw [hV]; exact PKN_lt _ (fun j hj => ⟨(hlt j hj).2.1, (hlt j hj).2.2.1⟩)
      have hp8 := Nat.pow_le_pow_right (n := 32) (by decide) z
      have e8 : 32 ^ 8 = 2 ^ 40 := by decide
      exact hne (of64_inj (by omega) (by omega) g)
    · rw [if_neg z]
      exact of64_m1 (by omega)
end
section
/-! STEPS, read on both sides -/
def FS (i lo : Nat) (M M' : Mem) : Prop := ∀ o k, ¬ ((o = 204 ∧ k ≠ 1) ∨ (lo ≤ o ∧ o ≤ 203 ∧ k = i)) → M' o k = M o k
def GSf (i lo : Nat) (N N' : Mem) : Prop := ∀ o k, ¬ ((o = 207 ∧ (k = 5 ∨ k = 7 ∨ k = 8 ∨ k = 9 ∨ k = 10 ∨ k = 10 + HI)) ∨ (213 ≤ o ∧ lo ≤ o ∧ o ≤ 215 ∧ k = i) ∨ (lo ≤ 212 ∧ o = 212 ∧ (k = 2 * i ∨ k = 2 * i + 1))) → N' o k = N o k
theorem FS.trans {i lo lo' : Nat} {M M1 M2 : Mem} (h1 : FS i lo M M1) (h2 : FS i lo' M1 M2) (h : lo ≤ lo') : FS i lo M M2 := fun o k g => (h2 o k (by omega)).trans (h1 o k g)
theorem GSf.trans {i lo lo' : Nat} {M M1 M2 : Mem} (h1 : GSf i lo M M1) (h2 : GSf i lo' M1 M2) (h : lo ≤ lo') : GSf i lo M M2 := fun o k g => (h2 o k (by omega)).trans (h1 o k g)
theorem FR.fs {i lo : Nat} {M M' : Mem} (h : FR 204 M M') : FS i lo M M' := fun o k g => h o k (by omega)
theorem GR.gs {i lo : Nat} {N N' : Mem} (h : GR N N') : GSf i lo N N' := fun o k g => h o k (by omega)
theorem FS_up {i lo o : Nat} {M : Mem} {v : Int32} (h : lo ≤ o ∧ o ≤ 203) : FS i lo M (upd2 M o i v) := fun o' k g => by
  by_cases q : o' = o
  · subst q; exact u2k _ _ (by omega)
  · exact u2o _ _ q
theorem GS_up' {i lo o : Nat} {N : Mem} {v : Int32} (h : lo ≤ o ∧ 213 ≤ o ∧ o ≤ 215) : GSf i lo N (upd2 N o i v) := fun o' k g => by
  by_cases q : o' = o
  · subst q; exact u2k _ _ (by omega)
  · exact u2o _ _ q
/-- cells that the reader doesn't look at -/
theorem RD_M {rd L p o k : Nat} {M N : Mem} {v : Int32} (h : RD rd L p M N) (h1 : o ≠ rd) (h2 : o ≠ 1) : RD rd L p (upd2 M o k v) N := by
  obtain ⟨a0, a1, a2, a3, a4, a5, a6, a7, a8⟩ := h
  exact ⟨a0, a1, by rw [u2o _ _ (Ne.symm h1)]; exact a2, by rw [u2o _ _ (Ne.symm h1)]; exact a3, by rw [u2o _ _ (Ne.symm h1)]; exact a4, by rw [u2o _ _ (Ne.symm h1)]; exact a5, a6, a7, fun i hi => by rw [u2o _ _ (Ne.symm h2)]; exact a8 i hi⟩
theorem RD_N {rd L p o k : Nat} {M N : Mem} {v : Int32} (h : RD rd L p M N) (h1 : o ≠ 207 ∨ (k ≠ 5 ∧ k ≠ 6)) (h2 : o ≠ 210) : RD rd L p M (upd2 N o k v) := by
  obtain ⟨a0, a1, a2, a3, a4, a5, a6, a7, a8⟩ := h
  have e : ∀ j, j = 5 ∨ j = 6 → upd2 N o k v 207 j = N 207 j := fun j hj => by
    by_cases q : o = 207
    · subst q; exact u2k _ _ (by omega)
    · exact u2o _ _ (Ne.symm q)
  exact ⟨a0, a1, a2, a3, a4, a5, by rw [e 6 (by omega)]; exact a6, by rw [e 5 (by omega)]; exact a7, fun i hi => by rw [u2o _ _ (Ne.symm h2)]; exact a8 i hi⟩
theorem FLT_M {rd o k : Nat} {M N : Mem} {v : Int32} (h : FLT rd M N) (h1 : o ≠ rd) : FLT rd (upd2 M o k v) N := by
  obtain ⟨c, a, b1, b2, b3, b4, b5, b6⟩ := h
  exact ⟨c, a, b1, b2, b3, by rw [u2o _ _ (Ne.symm h1)]; exact b4, by rw [u2o _ _ (Ne.symm h1)]; exact b5, b6⟩
theorem FLT_eq {rd : Nat} {M M' N : Mem} (h : FLT rd M N) (h3 : M' rd 3 = M rd 3) (h4 : M' rd 4 = M rd 4) : FLT rd M' N := by
  obtain ⟨c, a, b1, b2, b3, b4, b5, b6⟩ := h
  exact ⟨c, a, b1, b2, b3, h3.trans b4, h4.trans b5, b6⟩
/-- a blank, and what is due behind it -/
theorem P_acct {L p : Nat} {M N : Mem} (h : RD 204 L p M N) : (∃ v M1 M2 N2, mX8_blank 204 M = some M1 ∧ mX8_accountDigit 204 M1 = some (nI v, M2) ∧ mX11_readsAccount N = some (1, N2) ∧ N2 207 8 = nI v ∧ RD 204 L (p + 2) M2 N2 ∧ FR 204 M M2 ∧ GR N N2) ∨
    (∃ M1 M2 N2, mX8_blank 204 M = some M1 ∧ mX8_accountDigit 204 M1 = some (0, M2) ∧ mX11_readsAccount N = some (0, N2) ∧ FLT 204 M2 N2 ∧ FR 204 M M2 ∧ GR N N2) := by
  rcases R_blank (by decide) h with ⟨M1, N1, b1, b2, b3, b4, b5⟩ | ⟨M1, N1, b1, b2, b3, b4, b5⟩
  · rcases R_acct (by decide) b3 with ⟨v, M2, N2, c0, c1, c2, c3, c4, c5, c6⟩ | ⟨M2, N2, c1, c2, c3, c4, c5⟩
    · exact Or.inl ⟨v, M1, M2, N2, b1, c1, by rw [ra_ok b2]; exact c2, c3, c4, b4.trans c5, b5.trans c6⟩
    · exact Or.inr ⟨M1, M2, N2, b1, c1, by rw [ra_ok b2]; exact c2, c3, b4.trans c4, b5.trans c5⟩
  · exact Or.inr ⟨M1, M1, N1, b1, acct_no (FLT_ne b3), ra_no b2, b3, b4, b5⟩
theorem P_plan {rd L p : Nat} {M N : Mem} (hrd : rd ≠ 1) (h : RD rd L p M N) : (∃ v M1 M2 N2, v ≤ 5 ∧ mX8_blank rd M = some M1 ∧ mX8_planLetter rd M1 = some (nI v, M2) ∧ mX11_readsPlan N = some (1, N2) ∧ N2 207 8 = nI v ∧ RD rd L (p + 2) M2 N2 ∧ FR rd M M2 ∧ GR N N2) ∨
    (∃ M1 M2 N2, mX8_blank rd M = some M1 ∧ mX8_planLetter rd M1 = some (0, M2) ∧ mX11_readsPlan N = some (0, N2) ∧ FLT rd M2 N2 ∧ FR rd M M2 ∧ GR N N2) := by
  rcases R_blank hrd h with ⟨M1, N1, b1, b2, b3, b4, b5⟩ | ⟨M1, N1, b1, b2, b3, b4, b5⟩
  · rcases R_plan hrd b3 with ⟨v, M2, N2, c0, c1, c2, c3, c4, c5, c6⟩ | ⟨M2, N2, c1, c2, c3, c4, c5⟩
    · exact Or.inl ⟨v, M1, M2, N2, c0, b1, c1, by rw [rp_ok b2]; exact c2, c3, c4, b4.trans c5, b5.trans c6⟩
    · exact Or.inr ⟨M1, M2, N2, b1, c1, by rw [rp_ok b2]; exact c2, c3, b4.trans c4, b5.trans c5⟩
  · exact Or.inr ⟨M1, M1, N1, b1, plan_no (FLT_ne b3), rp_no b2, b3, b4, b5⟩
theorem P_num {n rd L p lo hi : Nat} {M N : Mem} (hrd : rd ≠ 1) (hlo : lo ≤ hi) (hhi : hi ≤ 99999) (hn : 20000 ≤ n) (h : RD rd L p M N) : (∃ v q M1 M2 N2, lo ≤ v ∧ v ≤ hi ∧ mX8_blank rd M = some M1 ∧ mX8_number n rd (nI lo) (nI hi) M1 = some (nI v, M2) ∧ mX11_readsNumber n (nI lo) (nI hi) N = some (1, N2) ∧ N2 207 8 = nI v ∧ RD rd L q M2 N2 ∧ FR rd M M2 ∧ GR N N2) ∨
    (∃ r M1 M2 N2, mX8_blank rd M = some M1 ∧ mX8_number n rd (nI lo) (nI hi) M1 = some (r, M2) ∧ mX11_readsNumber n (nI lo) (nI hi) N = some (0, N2) ∧ FLT rd M2 N2 ∧ FR rd M M2 ∧ GR N N2) := by
  rcases R_blank hrd h with ⟨M1, N1, b1, b2, b3, b4, b5⟩ | ⟨M1, N1, b1, b2, b3, b4, b5⟩
  · rcases R_num (n := n) hrd hlo hhi hn b3 with ⟨v, q, M2, N2, c1, c2, c3, c4, c5, c6, c7, c8, c9⟩ | ⟨r, M2, N2, c1, c2, c3, c4, c5⟩
    · exact Or.inl ⟨v, q, M1, M2, N2, c4, c5, b1, c1, by rw [rn_ok b2]; exact c2, c3, c7, b4.trans c8, b5.trans c9⟩
    · exact Or.inr ⟨r, M1, M2, N2, b1, c1, by rw [rn_ok b2]; exact c2, c3, b4.trans c4, b5.trans c5⟩
  · exact Or.inr ⟨nI lo, M1, M1, N1, b1, number_no (FLT_ne b3), rn_no b2, b3, b4, b5⟩
def StO (L i lo lor : Nat) (M N : Mem) (mc : Option Mem) (mm : Option (Int32 × Mem)) (K : Mem → Mem → Prop) : Prop :=
  (∃ q M' N', mc = some M' ∧ mm = some (1, N') ∧ RD 204 L q M' N' ∧ N' 207 17 = nI i ∧ K M' N' ∧ FS i lo M M' ∧ GSf i lor N N') ∨
  (∃ M' N', mc = some M' ∧ mm = some (0, N') ∧ FLT 204 M' N' ∧ FS i lo M M' ∧ GSf i lor N N')
def fol (w : Nat) : Int32 := folL.getD w 0
theorem c100_no {n i w : Nat} {M : Mem} (hi : i < 24) (hw : w < 13) (h : ¬ M 204 3 = 0) : ∃ M', mX4_readStep_c100 n (nI i) (nI w) M = some M' ∧ FS i 203 M M' ∧ ∀ k, M' 204 k = M 204 k := by
  unfold mX4_readStep_c100
  rw [chk_n hw (by decide), blank_no h]
  simp only [bnp_some]
  rw [number_no h]
  simp only [bnd_some]
  rw [chk_n hi (by decide), show Int32.toNatClampNeg (nI i) = i from nI_clamp (by omega)]
  by_cases z : (folL.getD (Int32.toNatClampNeg (nI w)) 0 &&& (4 : Int32)) = 0
  · rw [if_pos z]; exact ⟨M, rfl, fun _ _ _ => rfl, fun _ => rfl⟩
  · rw [if_neg z]; exact ⟨_, rfl, FS_up (by omega), fun k => u2o _ _ (by decide)⟩
theorem c70_no {n i w : Nat} {M : Mem} (hi : i < 24) (hw : w < 13) (h : ¬ M 204 3 = 0) : ∃ M', mX4_readStep_c70 n (nI i) (nI w) M = some M' ∧ FS i 202 M M' ∧ ∀ k, M' 204 k = M 204 k := by
  unfold mX4_readStep_c70
  rw [chk_n hw (by decide), blank_no h]
  simp only [bnp_some]
  rw [plan_no h]
  simp only [bnd_some]
  rw [chk_n hi (by decide), show Int32.toNatClampNeg (nI i) = i from nI_clamp (by omega)]
  by_cases z : (folL.getD (Int32.toNatClampNeg (nI w)) 0 &&& (2 : Int32)) = 0
  · rw [if_pos z]
    obtain ⟨M', m1, m2, m3⟩ := c100_no (n := n) hi hw h
    exact ⟨M', m1, fun o k g => m2 o k (by omega), m3⟩
  · rw [if_neg z]
    obtain ⟨M', m1, m2, m3⟩ := c100_no (n := n) (M := upd2 M 202 i 0) hi hw (by rw [u2o _ _ (by decide)]; exact h)
    exact ⟨M', m1, FS.trans (FS_up (by omega)) m2 (by decide), fun k => by rw [m3, u2o _ _ (by decide)]⟩
/-- no NUMBER follows -/
theorem St_A {n L i w p : Nat} {M N : Mem} (hi : i < 24) (hw : w < 13) (hf : (fol w &&& 4) = 0) (h : RD 204 L p M N) (h17 : N 207 17 = nI i) : StO L i 203 215 M N (mX4_readStep_c100 n (nI i) (nI w) M) (some (1, N)) (fun _ _ => True) := by
  refine Or.inl ⟨p, M, N, ?_, rfl, h, h17, trivial, fun _ _ _ => rfl, fun _ _ _ => rfl⟩
  unfold mX4_readStep_c100
  rw [chk_n hw (by decide), nI_clamp (by omega), if_pos (show (folL.getD w 0 &&& (4 : Int32)) = 0 from hf)]
def endN (n o : Nat) (N : Mem) : Option (Int32 × Mem) := (bnd (mX11_readsNumber n (0 : Int32) (99999 : Int32) N) fun r4 M5 => (if r4 = 0 then (some ((0 : Int32), M5)) else (chk (M5 207 17) 24 (some ((1 : Int32), (upd2 M5 o (Int32.toNatClampNeg (M5 207 17)) (M5 207 8)))))))
/-- a NUMBER follows, and is the last -/
theorem St_B {n L i w p o : Nat} {M N : Mem} (hi : i < 24) (hw : w < 13) (ho : o = 213 ∨ o = 215) (hf : ¬ (fol w &&& 4) = 0) (hn : 20000 ≤ n) (h : RD 204 L p M N) (h17 : N 207 17 = nI i) : StO L i 203 o M N (mX4_readStep_c100 n (nI i) (nI w) M) (endN n o N) (fun M' N' => M' 203 i = N' o i) := by
  have g17 : ∀ {N' : Mem}, GR N N' → N' 207 17 = nI i := fun g => (g 207 17 (Or.inr ⟨by decide, by decide, by decide, by decide, by decide, hHI 17 (by decide)⟩)).trans h17
  unfold mX4_readStep_c100 endN
  rw [chk_n hw (by decide), nI_clamp (by omega), if_neg (show ¬ (folL.getD w 0 &&& (4 : Int32)) = 0 from hf), nI_lit 99999, show (0 : Int32) = nI 0 from rfl]
  rcases P_num (n := n) (lo := 0) (hi := 99999) (by decide) (by decide) (by decide) hn h with ⟨v, q, M1, M2, N2, v1, v2, b1, b2, b3, b4, b5, b6, b7⟩ | ⟨r, M1, M2, N2, b1, b2, b3, b4, b5, b6⟩
  · rw [b1, b3]
    simp only [bnp_some, bnd_some]
    rw [b2]
    simp only [bnd_some]
    rw [if_neg (show ¬ (1 : Int32) = nI 0 by decide), g17 b7, chk_n hi (by decide), chk_n hi (by decide), show Int32.toNatClampNeg (nI i) = i from nI_clamp (by omega), b4]
    have hN : N2 207 17 = nI i := g17 b7
    refine Or.inl ⟨q, _, _, rfl, rfl, RD_N (RD_M b5 (by decide) (by decide)) (Or.inl (by omega)) (by omega), by rw [u2o _ _ (by omega)]; exact hN, by show upd2 M2 203 i (nI v) 203 i = upd2 N2 o i (nI v) o i; rw [u2s, u2s], FS.trans b6.fs (FS_up (by omega)) (Nat.le_refl _), GSf.trans b7.gs (GS_up' (by omega)) (Nat.le_refl _)⟩
  · rw [b1, b3]
    simp only [bnp_some, bnd_some]
    rw [b2]
    simp only [bnd_some]
    rw [if_pos (show (0 : Int32) = nI 0 from rfl), chk_n hi (by decide), show Int32.toNatClampNeg (nI i) = i from nI_clamp (by omega)]
    exact Or.inr ⟨_, _, rfl, rfl, FLT_M b4 (by decide), FS.trans b5.fs (FS_up (by omega)) (Nat.le_refl _), b6.gs⟩
/-- a PLAN follows, and then what the rest tells -/
theorem St_C {n L i w p : Nat} {M N : Mem} {X : Mem → Option (Int32 × Mem)} {K : Mem → Mem → Prop} (hi : i < 24) (hw : w < 13) (hf : ¬ (fol w &&& 2) = 0) (hX : ∀ q M N, RD 204 L q M N → N 207 17 = nI i → StO L i 203 215 M N (mX4_readStep_c100 n (nI i) (nI w) M) (X N) K) (h : RD 204 L p M N) (h17 : N 207 17 = nI i) :
    StO L i 202 214 M N (mX4_readStep_c70 n (nI i) (nI w) M) (bnd (mX11_readsPlan N) fun r10 M11 => (if r10 = 0 then (some ((0 : Int32), M11)) else (chk (M11 207 17) 24 (X (upd2 M11 214 (Int32.toNatClampNeg (M11 207 17)) (M11 207 8)))))) (fun M' N' => K M' N' ∧ M' 202 i = N' 214 i) := by
  have g17 : ∀ {N' : Mem}, GR N N' → N' 207 17 = nI i := fun g => (g 207 17 (Or.inr ⟨by decide, by decide, by decide, by decide, by decide, hHI 17 (by decide)⟩)).trans h17
  unfold mX4_readStep_c70
  rw [chk_n hw (by decide), nI_clamp (by omega), if_neg (show ¬ (folL.getD w 0 &&& (2 : Int32)) = 0 from hf)]
  rcases P_plan (by decide) h with ⟨v, M1, M2, N2, v2, b1, b2, b3, b4, b5, b6, b7⟩ | ⟨M1, M2, N2, b1, b2, b3, b4, b5, b6⟩
  · rw [b1, b3]
    simp only [bnp_some, bnd_some]
    rw [b2]
    simp only [bnd_some]
    rw [if_neg (show ¬ (1 : Int32) = 0 by decide), g17 b7, chk_n hi (by decide), chk_n hi (by decide), show Int32.toNatClampNeg (nI i) = i from nI_clamp (by omega), b4]
    have hR : RD 204 L (p + 2) (upd2 M2 202 i (nI v)) (upd2 N2 214 i (nI v)) := RD_N (RD_M b5 (by decide) (by decide)) (Or.inl (by decide)) (by decide)
    have h17' : upd2 N2 214 i (nI v) 207 17 = nI i := by rw [u2o _ _ (by decide)]; exact g17 b7
    rcases hX _ _ _ hR h17' with ⟨q, M', N', c1, c2, c3, c4, c5, c6, c7⟩ | ⟨M', N', c1, c2, c3, c4, c5⟩
    · refine Or.inl ⟨q, M', N', c1, c2, c3, c4, ⟨c5, ?_⟩, FS.trans (FS.trans b6.fs (FS_up (by omega)) (Nat.le_refl _)) c6 (by decide), GSf.trans (GSf.trans b7.gs (GS_up' (by omega)) (Nat.le_refl _)) c7 (by decide)⟩
      rw [c6 202 i (by omega), c7 214 i (by omega), u2s, u2s]
    · exact Or.inr ⟨M', N', c1, c2, c3, FS.trans (FS.trans b6.fs (FS_up (by omega)) (Nat.le_refl _)) c4 (by decide), GSf.trans (GSf.trans b7.gs (GS_up' (by omega)) (Nat.le_refl _)) c5 (by decide)⟩
  · rw [b1, b3]
    simp only [bnp_some, bnd_some]
    rw [b2]
    simp only [bnd_some, if_true]
    rw [chk_n hi (by decide), show Int32.toNatClampNeg (nI i) = i from nI_clamp (by omega)]
    obtain ⟨M', m1, m2, m3⟩ := c100_no (n := n) (M := upd2 M2 202 i 0) hi hw (by rw [u2o _ _ (by decide)]; exact FLT_ne b4)
    exact Or.inr ⟨M', N2, m1, rfl, FLT_eq b4 (by rw [m3, u2o _ _ (by decide)]) (by rw [m3, u2o _ _ (by decide)]), FS.trans (FS.trans b5.fs (FS_up (by omega)) (Nat.le_refl _)) m2 (by decide), b6.gs⟩
/-- no PLAN follows -/
theorem St_C0 {n L i w : Nat} {M N : Mem} {mm : Option (Int32 × Mem)} {K : Mem → Mem → Prop} (hi : i < 24) (hw : w < 13) (hf : (fol w &&& 2) = 0) (h : StO L i 203 215 M N (mX4_readStep_c100 n (nI i) (nI w) M) mm K) : StO L i 202 214 M N (mX4_readStep_c70 n (nI i) (nI w) M) mm K := by
  have e : mX4_readStep_c70 n (nI i) (nI w) M = mX4_readStep_c100 n (nI i) (nI w) M := by
    unfold mX4_readStep_c70
    rw [chk_n hw (by decide), nI_clamp (by omega), if_pos (show (folL.getD w 0 &&& (2 : Int32)) = 0 from hf)]
  rw [e]
  rcases h with ⟨q, M', N', c1, c2, c3, c4, c5, c6, c7⟩ | ⟨M', N', c1, c2, c3, c4, c5⟩
  · exact Or.inl ⟨q, M', N', c1, c2, c3, c4, c5, fun o k g => c6 o k (by omega), fun o k g => c7 o k (by omega)⟩
  · exact Or.inr ⟨M', N', c1, c2, c3, fun o k g => c4 o k (by omega), fun o k g => c5 o k (by omega)⟩
/-- an account follows, and then what the rest tells -/
theorem St_D {n L i w p : Nat} {M N : Mem} {Y : Mem → Option (Int32 × Mem)} {K : Mem → Mem → Prop} (hi : i < 24) (hw : w < 13) (hY : ∀ q M N, RD 204 L q M N → N 207 17 = nI i → StO L i 202 214 M N (mX4_readStep_c70 n (nI i) (nI w) M) (Y N) K) (h : RD 204 L p M N) (h17 : N 207 17 = nI i) :
    StO L i 201 213 M N (bnp (mX8_blank 204 M) fun M12 => (bnd (mX8_accountDigit 204 M12) fun r13 M14 => (chk (nI i) 24 (mX4_readStep_c70 n (nI i) (nI w) (upd2 M14 201 (Int32.toNatClampNeg (nI i)) r13))))) (bnd (mX11_readsAccount N) fun r7 M8 => (if r7 = 0 then (some ((0 : Int32), M8)) else (chk (M8 207 17) 24 (Y (upd2 M8 213 (Int32.toNatClampNeg (M8 207 17)) (M8 207 8)))))) (fun M' N' => K M' N' ∧ M' 201 i = N' 213 i) := by
  have g17 : ∀ {N' : Mem}, GR N N' → N' 207 17 = nI i := fun g => (g 207 17 (Or.inr ⟨by decide, by decide, by decide, by decide, by decide, hHI 17 (by decide)⟩)).trans h17
  rcases P_acct h with ⟨v, M1, M2, N2, b1, b2, b3, b4, b5, b6, b7⟩ | ⟨M1, M2, N2, b1, b2, b3, b4, b5, b6⟩
  · rw [b1, b3]
    simp only [bnp_some, bnd_some]
    rw [b2]
    simp only [bnd_some]
    rw [if_neg (show ¬ (1 : Int32) = 0 by decide), g17 b7, chk_n hi (by decide), chk_n hi (by decide), show Int32.toNatClampNeg (nI i) = i from nI_clamp (by omega), b4]
    have hR : RD 204 L (p + 2) (upd2 M2 201 i (nI v)) (upd2 N2 213 i (nI v)) := RD_N (RD_M b5 (by decide) (by decide)) (Or.inl (by decide)) (by decide)
    have h17' : upd2 N2 213 i (nI v) 207 17 = nI i := by rw [u2o _ _ (by decide)]; exact g17 b7
    rcases hY _ _ _ hR h17' with ⟨q, M', N', c1, c2, c3, c4, c5, c6, c7⟩ | ⟨M', N', c1, c2, c3, c4, c5⟩
    · refine Or.inl ⟨q, M', N', c1, c2, c3, c4, ⟨c5, ?_⟩, FS.trans (FS.trans b6.fs (FS_up (by omega)) (Nat.le_refl _)) c6 (by decide), GSf.trans (GSf.trans b7.gs (GS_up' (by omega)) (Nat.le_refl _)) c7 (by decide)⟩
      rw [c6 201 i (by omega), c7 213 i (by omega), u2s, u2s]
    · exact Or.inr ⟨M', N', c1, c2, c3, FS.trans (FS.trans b6.fs (FS_up (by omega)) (Nat.le_refl _)) c4 (by decide), GSf.trans (GSf.trans b7.gs (GS_up' (by omega)) (Nat.le_refl _)) c5 (by decide)⟩
  · rw [b1, b3]
    simp only [bnp_some, bnd_some]
    rw [b2]
    simp only [bnd_some, if_true]
    rw [chk_n hi (by decide), show Int32.toNatClampNeg (nI i) = i from nI_clamp (by omega)]
    obtain ⟨M', m1, m2, m3⟩ := c70_no (n := n) (M := upd2 M2 201 i 0) hi hw (by rw [u2o _ _ (by decide)]; exact FLT_ne b4)
    exact Or.inr ⟨M', N2, m1, rfl, FLT_eq b4 (by rw [m3, u2o _ _ (by decide)]) (by rw [m3, u2o _ _ (by decide)]), FS.trans (FS.trans b5.fs (FS_up (by omega)) (Nat.le_refl _)) m2 (by decide), b6.gs⟩
end
section
/-! a STEP as a whole, on both sides -/
def STP (i : Nat) (M N : Mem) : Prop := ∃ t, t ∈ CW 2 ∧ M 200 i = nI t.1 ∧ lcb (N 212 (2 * i)) (N 212 (2 * i + 1)) = Int64.ofNat t.2 ∧ (t.1 ≠ 7 → t.1 ≠ 12 → M 201 i = N 213 i) ∧ ((t.1 = 0 ∨ t.1 = 1) → M 202 i = N 214 i) ∧
  ((t.1 = 0 ∨ t.1 = 2 ∨ t.1 = 6 ∨ t.1 = 8 ∨ t.1 = 9 ∨ t.1 = 11) → M 203 i = N 215 i) ∧ ((t.1 = 7 ∨ t.1 = 12) → M 203 i = N 213 i)
def KW (w i : Nat) (M N : Mem) : Prop := (w ≠ 7 → w ≠ 12 → M 201 i = N 213 i) ∧ ((w = 0 ∨ w = 1) → M 202 i = N 214 i) ∧ ((w = 0 ∨ w = 2 ∨ w = 6 ∨ w = 8 ∨ w = 9 ∨ w = 11) → M 203 i = N 215 i) ∧ ((w = 7 ∨ w = 12) → M 203 i = N 213 i)
def tailC (n i w : Nat) (M : Mem) : Option Mem := if (fol w &&& 1) = 0 then mX4_readStep_c70 n (nI i) (nI w) M else (bnp (mX8_blank 204 M) fun M12 => (bnd (mX8_accountDigit 204 M12) fun r13 M14 => (chk (nI i) 24 (mX4_readStep_c70 n (nI i) (nI w) (upd2 M14 201 (Int32.toNatClampNeg (nI i)) r13)))))
theorem StO.mono {L i lo lor lo' lor' : Nat} {M N : Mem} {mc : Option Mem} {mm : Option (Int32 × Mem)} {K K' : Mem → Mem → Prop} (h : StO L i lo lor M N mc mm K) (hl : lo' ≤ lo) (hr : lor' ≤ lor) (hK : ∀ M N, K M N → K' M N) : StO L i lo' lor' M N mc mm K' := by
  rcases h with ⟨q, M', N', c1, c2, c3, c4, c5, c6, c7⟩ | ⟨M', N', c1, c2, c3, c4, c5⟩
  · exact Or.inl ⟨q, M', N', c1, c2, c3, c4, hK _ _ c5, fun o k g => c6 o k (by omega), fun o k g => c7 o k (by omega)⟩
  · exact Or.inr ⟨M', N', c1, c2, c3, fun o k g => c4 o k (by omega), fun o k g => c5 o k (by omega)⟩
def rest2 (n : Nat) (W : Int64) (N : Mem) : Option (Int32 × Mem) := (if (lg_cmp W (2268462 : Int64)) = 0 then (bnd (mX11_readsPlan N) fun r10 M11 => (if r10 = 0 then (some ((0 : Int32), M11)) else (chk (M11 207 17) 24 (mX11_readsRest_c103 n W (upd2 M11 214 (Int32.toNatClampNeg (M11 207 17)) (M11 207 8)))))) else (if (lg_cmp W (109099237 : Int64)) = 0 then (bnd (mX11_readsPlan N) fun r13 M14 => (if r13 = 0 then (some ((0 : Int32), M14)) else (chk (M14 207 17) 24 (mX11_readsRest_c103 n W (upd2 M14 214 (Int32.toNatClampNeg (M14 207 17)) (M14 207 8)))))) else (mX11_readsRest_c103 n W N)))
theorem rest_acc {n : Nat} {W : Int64} {N : Mem} (h1 : ¬ lg_cmp W (132915 : Int64) = 0) (h2 : ¬ lg_cmp W (677454 : Int64) = 0) : mX11_readsRest n W N = (bnd (mX11_readsAccount N) fun r7 M8 => (if r7 = 0 then (some ((0 : Int32), M8)) else (chk (M8 207 17) 24 (rest2 n W (upd2 M8 213 (Int32.toNatClampNeg (M8 207 17)) (M8 207 8)))))) := by
  unfold mX11_readsRest
  rw [if_neg h1, if_neg h2]; rfl
theorem tail_acc {n i w : Nat} {M : Mem} (h : ¬ (fol w &&& 1) = 0) : tailC n i w M = (bnp (mX8_blank 204 M) fun M12 => (bnd (mX8_accountDigit 204 M12) fun r13 M14 => (chk (nI i) 24 (mX4_readStep_c70 n (nI i) (nI w) (upd2 M14 201 (Int32.toNatClampNeg (nI i)) r13))))) := if_neg h
theorem c103_num {n : Nat} {W : Int64} {N : Mem} (h1 : ¬ lg_cmp W (109099237 : Int64) = 0) (h2 : ¬ lg_cmp W (643568 : Int64) = 0) (h3 : ¬ lg_cmp W (494 : Int64) = 0) (h4 : ¬ lg_cmp W (578868 : Int64) = 0) (h5 : ¬ lg_cmp W (609658308 : Int64) = 0) : mX11_readsRest_c103 n W N = endN n 215 N := by
  unfold mX11_readsRest_c103
  rw [if_neg h1, if_neg h2, if_neg h3, if_neg h4, if_neg h5]; rfl
theorem c103_end {n : Nat} {W : Int64} {N : Mem} (h : W = 109099237 ∨ W = 643568 ∨ W = 494 ∨ W = 578868 ∨ W = 609658308) : mX11_readsRest_c103 n W N = some (1, N) := by
  unfold mX11_readsRest_c103
  rcases h with rfl | rfl | rfl | rfl | rfl
  · rw [if_pos (by decide)]
  · rw [if_neg (by decide), if_pos (by decide)]
  · rw [if_neg (by decide), if_neg (by decide), if_pos (by decide)]
  · rw [if_neg (by decide), if_neg (by decide), if_neg (by decide), if_pos (by decide)]
  · rw [if_neg (by decide), if_neg (by decide), if_neg (by decide), if_neg (by decide), if_pos (by decide)]
section
variable {n L i : Nat}
/-- account alone -/
theorem W_1 {w : Nat} {W : Int64} {p : Nat} {M N : Mem} (hi : i < 24) (hw : w = 3 ∧ W = 643568 ∨ w = 4 ∧ W = 494 ∨ w = 5 ∧ W = 578868 ∨ w = 10 ∧ W = 609658308) (h : RD 204 L p M N) (h17 : N 207 17 = nI i) : StO L i 201 213 M N (tailC n i w M) (mX11_readsRest n W N) (KW w i) := by
  have f1 : ¬ (fol w &&& 1) = 0 := by rcases hw with ⟨rfl, _⟩ | ⟨rfl, _⟩ | ⟨rfl, _⟩ | ⟨rfl, _⟩ <;> decide
  have f2 : (fol w &&& 2) = 0 := by rcases hw with ⟨rfl, _⟩ | ⟨rfl, _⟩ | ⟨rfl, _⟩ | ⟨rfl, _⟩ <;> decide
  have f4 : (fol w &&& 4) = 0 := by rcases hw with ⟨rfl, _⟩ | ⟨rfl, _⟩ | ⟨rfl, _⟩ | ⟨rfl, _⟩ <;> decide
  have hw13 : w < 13 := by omega
  have r1 : ¬ lg_cmp W (132915 : Int64) = 0 := by rcases hw with ⟨_, rfl⟩ | ⟨_, rfl⟩ | ⟨_, rfl⟩ | ⟨_, rfl⟩ <;> decide
  have r2 : ¬ lg_cmp W (677454 : Int64) = 0 := by rcases hw with ⟨_, rfl⟩ | ⟨_, rfl⟩ | ⟨_, rfl⟩ | ⟨_, rfl⟩ <;> decide
  have r3 : ¬ lg_cmp W (2268462 : Int64) = 0 := by rcases hw with ⟨_, rfl⟩ | ⟨_, rfl⟩ | ⟨_, rfl⟩ | ⟨_, rfl⟩ <;> decide
  have r4 : ¬ lg_cmp W (109099237 : Int64) = 0 := by rcases hw with ⟨_, rfl⟩ | ⟨_, rfl⟩ | ⟨_, rfl⟩ | ⟨_, rfl⟩ <;> decide
  rw [rest_acc r1 r2, tail_acc f1]
  refine (St_D (n := n) (Y := rest2 n W) (K := fun _ _ => True) hi hw13 (fun q M N h h17 => ?_) h h17).mono (Nat.le_refl _) (Nat.le_refl _) (fun M N g => ⟨fun _ _ => g.2, fun z => by omega, fun z => by omega, fun z => by omega⟩)
  unfold rest2
  have r5 : W = 109099237 ∨ W = 643568 ∨ W = 494 ∨ W = 578868 ∨ W = 609658308 := by
    rcases hw with ⟨_, z⟩ | ⟨_, z⟩ | ⟨_, z⟩ | ⟨_, z⟩
    · exact Or.inr (Or.inl z)
    · exact Or.inr (Or.inr (Or.inl z))
    · exact Or.inr (Or.inr (Or.inr (Or.inl z)))
    · exact Or.inr (Or.inr (Or.inr (Or.inr z)))
  rw [if_neg r3, if_neg r4, c103_end r5]
  exact St_C0 hi hw13 f2 (St_A hi hw13 f4 h h17)
/-- account and NUMBER -/
theorem W_5 {w : Nat} {W : Int64} {p : Nat} {M N : Mem} (hn : 20000 ≤ n) (hi : i < 24) (hw : w = 2 ∧ W = 20088467 ∨ w = 6 ∧ W = 22117 ∨ w = 8 ∧ W = 203112114 ∨ w = 9 ∧ W = 16441 ∨ w = 11 ∧ W = 442053) (h : RD 204 L p M N) (h17 : N 207 17 = nI i) : StO L i 201 213 M N (tailC n i w M) (mX11_readsRest n W N) (KW w i) := by
  have f1 : ¬ (fol w &&& 1) = 0 := by rcases hw with ⟨rfl, _⟩ | ⟨rfl, _⟩ | ⟨rfl, _⟩ | ⟨rfl, _⟩ | ⟨rfl, _⟩ <;> decide
  have f2 : (fol w &&& 2) = 0 := by rcases hw with ⟨rfl, _⟩ | ⟨rfl, _⟩ | ⟨rfl, _⟩ | ⟨rfl, _⟩ | ⟨rfl, _⟩ <;> decide
  have f4 : ¬ (fol w &&& 4) = 0 := by rcases hw with ⟨rfl, _⟩ | ⟨rfl, _⟩ | ⟨rfl, _⟩ | ⟨rfl, _⟩ | ⟨rfl, _⟩ <;> decide
  have hw13 : w < 13 := by omega
  have r1 : ¬ lg_cmp W (132915 : Int64) = 0 := by rcases hw with ⟨_, rfl⟩ | ⟨_, rfl⟩ | ⟨_, rfl⟩ | ⟨_, rfl⟩ | ⟨_, rfl⟩ <;> decide
  have r2 : ¬ lg_cmp W (677454 : Int64) = 0 := by rcases hw with ⟨_, rfl⟩ | ⟨_, rfl⟩ | ⟨_, rfl⟩ | ⟨_, rfl⟩ | ⟨_, rfl⟩ <;> decide
  have r3 : ¬ lg_cmp W (2268462 : Int64) = 0 := by rcases hw with ⟨_, rfl⟩ | ⟨_, rfl⟩ | ⟨_, rfl⟩ | ⟨_, rfl⟩ | ⟨_, rfl⟩ <;> decide
  have r4 : ¬ lg_cmp W (109099237 : Int64) = 0 := by rcases hw with ⟨_, rfl⟩ | ⟨_, rfl⟩ | ⟨_, rfl⟩ | ⟨_, rfl⟩ | ⟨_, rfl⟩ <;> decide
  have r5 : ¬ lg_cmp W (643568 : Int64) = 0 := by rcases hw with ⟨_, rfl⟩ | ⟨_, rfl⟩ | ⟨_, rfl⟩ | ⟨_, rfl⟩ | ⟨_, rfl⟩ <;> decide
  have r6 : ¬ lg_cmp W (494 : Int64) = 0 := by rcases hw with ⟨_, rfl⟩ | ⟨_, rfl⟩ | ⟨_, rfl⟩ | ⟨_, rfl⟩ | ⟨_, rfl⟩ <;> decide
  have r7 : ¬ lg_cmp W (578868 : Int64) = 0 := by rcases hw with ⟨_, rfl⟩ | ⟨_, rfl⟩ | ⟨_, rfl⟩ | ⟨_, rfl⟩ | ⟨_, rfl⟩ <;> decide
  have r8 : ¬ lg_cmp W (609658308 : Int64) = 0 := by rcases hw with ⟨_, rfl⟩ | ⟨_, rfl⟩ | ⟨_, rfl⟩ | ⟨_, rfl⟩ | ⟨_, rfl⟩ <;> decide
  rw [rest_acc r1 r2, tail_acc f1]
  refine (St_D (n := n) (Y := rest2 n W) (K := fun M' N' => M' 203 i = N' 215 i) hi hw13 (fun q M N h h17 => ?_) h h17).mono (Nat.le_refl _) (Nat.le_refl _) (fun M N g => ⟨fun _ _ => g.2, fun z => by omega, fun _ => g.1, fun z => by omega⟩)
  unfold rest2
  rw [if_neg r3, if_neg r4, c103_num r4 r5 r6 r7 r8]
  exact St_C0 hi hw13 f2 (St_B hi hw13 (Or.inr rfl) f4 hn h h17)
/-- account and PLAN -/
theorem W_3 {p : Nat} {M N : Mem} (hi : i < 24) (h : RD 204 L p M N) (h17 : N 207 17 = nI i) : StO L i 201 213 M N (tailC n i 1 M) (mX11_readsRest n (109099237 : Int64) N) (KW 1 i) := by
  rw [rest_acc (by decide) (by decide), tail_acc (by decide)]
  refine (St_D (n := n) (w := 1) (Y := rest2 n 109099237) (K := fun M' N' => True ∧ M' 202 i = N' 214 i) hi (by decide) (fun q M N h h17 => ?_) h h17).mono (Nat.le_refl _) (Nat.le_refl _) (fun M N g => ⟨fun _ _ => g.2, fun _ => g.1.2, fun z => by omega, fun z => by omega⟩)
  unfold rest2
  rw [if_neg (by decide), if_pos (by decide)]
  refine St_C (n := n) (w := 1) (X := mX11_readsRest_c103 n 109099237) (K := fun _ _ => True) hi (by decide) (by decide) (fun q M N h h17 => ?_) h h17
  rw [c103_end (by decide)]
  exact St_A hi (by decide) (by decide) h h17
/-- account, PLAN and NUMBER -/
theorem W_7 {p : Nat} {M N : Mem} (hn : 20000 ≤ n) (hi : i < 24) (h : RD 204 L p M N) (h17 : N 207 17 = nI i) : StO L i 201 213 M N (tailC n i 0 M) (mX11_readsRest n (2268462 : Int64) N) (KW 0 i) := by
  rw [rest_acc (by decide) (by decide), tail_acc (by decide)]
  refine (St_D (n := n) (w := 0) (Y := rest2 n 2268462) (K := fun M' N' => M' 203 i = N' 215 i ∧ M' 202 i = N' 214 i) hi (by decide) (fun q M N h h17 => ?_) h h17).mono (Nat.le_refl _) (Nat.le_refl _) (fun M N g => ⟨fun _ _ => g.2, fun _ => g.1.2, fun _ => g.1.1, fun z => by omega⟩)
  unfold rest2
  rw [if_pos (by decide)]
  refine St_C (n := n) (w := 0) (X := mX11_readsRest_c103 n 2268462) (K := fun M' N' => M' 203 i = N' 215 i) hi (by decide) (by decide) (fun q M N h h17 => ?_) h h17
  rw [c103_num (by decide) (by decide) (by decide) (by decide) (by decide)]
  exact St_B hi (by decide) (Or.inr rfl) (by decide) hn h h17
/-- NUMBER alone -/
theorem W_4 {w : Nat} {W : Int64} {p : Nat} {M N : Mem} (hn : 20000 ≤ n) (hi : i < 24) (hw : w = 7 ∧ W = 132915 ∨ w = 12 ∧ W = 677454) (h : RD 204 L p M N) (h17 : N 207 17 = nI i) : StO L i 201 213 M N (tailC n i w M) (mX11_readsRest n W N) (KW w i) := by
  have f1 : (fol w &&& 1) = 0 := by rcases hw with ⟨rfl, _⟩ | ⟨rfl, _⟩ <;> decide
  have f2 : (fol w &&& 2) = 0 := by rcases hw with ⟨rfl, _⟩ | ⟨rfl, _⟩ <;> decide
  have f4 : ¬ (fol w &&& 4) = 0 := by rcases hw with ⟨rfl, _⟩ | ⟨rfl, _⟩ <;> decide
  have hw13 : w < 13 := by omega
  have e1 : mX11_readsRest n W N = endN n 213 N := by
    unfold mX11_readsRest
    rcases hw with ⟨_, rfl⟩ | ⟨_, rfl⟩
    · rw [if_pos (by decide)]; rfl
    · rw [if_neg (by decide), if_pos (by decide)]; rfl
  have e2 : tailC n i w M = mX4_readStep_c70 n (nI i) (nI w) M := if_pos f1
  have e3 : mX4_readStep_c70 n (nI i) (nI w) M = mX4_readStep_c100 n (nI i) (nI w) M := by
    unfold mX4_readStep_c70
    rw [chk_n hw13 (by decide), nI_clamp (by omega), if_pos (show (folL.getD w 0 &&& (2 : Int32)) = 0 from f2)]
  rw [e1, e2, e3]
  exact (St_B hi hw13 (Or.inl rfl) f4 hn h h17).mono (by decide) (Nat.le_refl _) (fun M N g => ⟨fun a b => by omega, fun z => by omega, fun z => by omega, fun _ => g⟩)
end
theorem W_all {n L i w c p : Nat} {M N : Mem} (hn : 20000 ≤ n) (hi : i < 24) (hm : (w, c) ∈ CW 2) (h : RD 204 L p M N) (h17 : N 207 17 = nI i) : StO L i 201 213 M N (tailC n i w M) (mX11_readsRest n (Int64.ofNat c) N) (KW w i) ∧ mX11_isDeed (Int64.ofNat c) = some 1 ∧ w < 13 := by
  rw [CW_2] at hm
  simp only [List.mem_cons, List.not_mem_nil, or_false, Prod.mk.injEq] at hm
  rcases hm with ⟨rfl, rfl⟩ | ⟨rfl, rfl⟩ | ⟨rfl, rfl⟩ | ⟨rfl, rfl⟩ | ⟨rfl, rfl⟩ | ⟨rfl, rfl⟩ | ⟨rfl, rfl⟩ | ⟨rfl, rfl⟩ | ⟨rfl, rfl⟩ | ⟨rfl, rfl⟩ | ⟨rfl, rfl⟩ | ⟨rfl, rfl⟩ | ⟨rfl, rfl⟩
  · exact ⟨W_7 hn hi h h17, by decide, by decide⟩
  · exact ⟨W_3 hi h h17, by decide, by decide⟩
  · exact ⟨W_5 hn hi (Or.inl ⟨rfl, rfl⟩) h h17, by decide, by decide⟩
  · exact ⟨W_1 hi (Or.inl ⟨rfl, rfl⟩) h h17, by decide, by decide⟩
  · exact ⟨W_1 hi (Or.inr (Or.inl ⟨rfl, rfl⟩)) h h17, by decide, by decide⟩
  · exact ⟨W_1 hi (Or.inr (Or.inr (Or.inl ⟨rfl, rfl⟩))) h h17, by decide, by decide⟩
  · exact ⟨W_5 hn hi (Or.inr (Or.inl ⟨rfl, rfl⟩)) h h17, by decide, by decide⟩
  · exact ⟨W_4 hn hi (Or.inl ⟨rfl, rfl⟩) h h17, by decide, by decide⟩
  · exact ⟨W_5 hn hi (Or.inr (Or.inr (Or.inl ⟨rfl, rfl⟩))) h h17, by decide, by decide⟩
  · exact ⟨W_5 hn hi (Or.inr (Or.inr (Or.inr (Or.inl ⟨rfl, rfl⟩)))) h h17, by decide, by decide⟩
  · exact ⟨W_1 hi (Or.inr (Or.inr (Or.inr ⟨rfl, rfl⟩))) h h17, by decide, by decide⟩
  · exact ⟨W_5 hn hi (Or.inr (Or.inr (Or.inr (Or.inr ⟨rfl, rfl⟩)))) h h17, by decide, by decide⟩
  · exact ⟨W_4 hn hi (Or.inr ⟨rfl, rfl⟩) h h17, by decide, by decide⟩
theorem deed_no {W : Int64} (h : ∀ t ∈ CW 2, W ≠ Int64.ofNat t.2) : mX11_isDeed W = some 0 := by
  rw [CW_2] at h
  have k : ∀ (j : Nat) (t : Nat × Nat), ([(0, 2268462), (1, 109099237), (2, 20088467), (3, 643568), (4, 494), (5, 578868), (6, 22117), (7, 132915), (8, 203112114), (9, 16441), (10, 609658308), (11, 442053), (12, 677454)] : List (Nat × Nat))[j]? = some t → ∀ c : Int64, Int64.ofNat t.2 = c → ¬ lg_cmp W c = 0 := fun j t ht c hc z => h t (List.mem_of_getElem? ht) (((lg_cmp_eq _ _).mp z).trans hc.symm)
  unfold mX11_isDeed
  rw [if_neg (k 0 (0, 2268462) rfl 2268462 rfl), if_neg (k 1 (1, 109099237) rfl 109099237 rfl), if_neg (k 3 (3, 643568) rfl 643568 rfl), if_neg (k 4 (4, 494) rfl 494 rfl), if_neg (k 5 (5, 578868) rfl 578868 rfl), if_neg (k 6 (6, 22117) rfl 22117 rfl), if_neg (k 7 (7, 132915) rfl 132915 rfl), if_neg (k 8 (8, 203112114) rfl 203112114 rfl), if_neg (k 11 (11, 442053) rfl 442053 rfl), if_neg (k 12 (12, 677454) rfl 677454 rfl), if_neg (k 2 (2, 20088467) rfl 20088467 rfl), if_neg (k 9 (9, 16441) rfl 16441 rfl), if_neg (k 10 (10, 609658308) rfl 609658308 rfl)]
def GS2 (i : Nat) (N N' : Mem) : Prop := ∀ o k, ¬ ((o = 207 ∧ (k = 5 ∨ k = 7 ∨ k = 8 ∨ k = 9 ∨ k = 10 ∨ k = 10 + HI ∨ k = 17)) ∨ (213 ≤ o ∧ o ≤ 215 ∧ k = i) ∨ (o = 212 ∧ (k = 2 * i ∨ k = 2 * i + 1))) → N' o k = N o k
theorem R_step {n L i p : Nat} {M N : Mem} (hn : 20000 ≤ n) (hi : i < 24) (h : RD 204 L p M N) (h17 : N 207 17 = nI i) :
    (∃ q M' N', mX4_readStep n (nI i) M = some M' ∧ mX11_readsStep n N = some (1, N') ∧ RD 204 L q M' N' ∧ N' 207 17 = nI (i + 1) ∧ STP i M' N' ∧ FS i 200 M M' ∧ GS2 i N N') ∨
    (∃ M' N', mX4_readStep n (nI i) M = some M' ∧ mX11_readsStep n N = some (0, N') ∧ FLT 204 M' N' ∧ FS i 200 M M' ∧ GS2 i N N') := by
  obtain ⟨e, N1, e1, e2, w1, w2, w3, w4⟩ := R_word (n := n) (a := 2) (by decide) (by decide) hn h
  have g17 : N1 207 17 = nI i := (w3 207 17 (Or.inr ⟨by decide, by decide, by decide, by decide, by decide, hHI 17 (by decide)⟩)).trans h17
  unfold mX4_readStep mX11_readsStep
  rw [h17, if_neg (show ¬ nI i = (24 : Int32) by rw [show (24 : Int32) = nI 24 from rfl, nI_eq (by omega) (by omega)]; omega), w1]
  simp only [bnp_some]
  rcases w4 with ⟨t, t1, t2, t3, t4⟩ | ⟨t1, t2, t3⟩
  · obtain ⟨w, c⟩ := t
    obtain ⟨m1, m2, m3⟩ := W_all (n := n) (L := L) (i := i) (p := e) (M := upd2 (upd2 M 204 2 (nI e)) 200 i (nI w)) (N := upd2 (upd2 N1 212 (2 * i) (llo (Int64.ofNat c))) 212 (2 * i + 1) (lhi (Int64.ofNat c))) hn hi t1
      (RD_N (RD_N (RD_M t4 (by decide) (by decide)) (Or.inl (by decide)) (by decide)) (Or.inl (by decide)) (by decide)) (by rw [u2o _ _ (by decide), u2o _ _ (by decide)]; exact g17)
    have t2' : lcb (N1 207 10) (N1 207 (10 + HI)) = Int64.ofNat c := t2
    have t3' : mX8_word n 204 2 M = some (nI w, upd2 M 204 2 (nI e)) := t3
    have hl5 : lcb (upd2 (upd2 N1 212 (2 * i) (llo (Int64.ofNat c))) 212 (2 * i + 1) (lhi (Int64.ofNat c)) 207 10) (upd2 (upd2 N1 212 (2 * i) (llo (Int64.ofNat c))) 212 (2 * i + 1) (lhi (Int64.ofNat c)) 207 (10 + HI)) = Int64.ofNat c := by
      rw [u2o _ _ (by decide), u2o _ _ (by decide), u2o _ _ (by decide), u2o _ _ (by decide)]; exact t2'
    rw [t3', t2', m2, g17]
    simp only [bnp_some, bnd_some, lt_eq]
    rw [if_neg (show ¬ (1 : Int32) = 0 by decide), if_neg (nI_pos (by omega)), if_neg (show ¬ (13 : Int32) ≤ nI w by rw [show (13 : Int32) = nI 13 from rfl, nI_leI (by omega) (by omega)]; omega), if_neg (nI_pos (by omega)), if_pos (show nI i < (24 : Int32) by rw [show (24 : Int32) = nI 24 from rfl, nI_ltI (by omega) (by omega)]; exact hi), chk_n hi (by decide), chk_n (show w < 13 from m3) (by decide), chk_n hi (by decide), show Int32.toNatClampNeg (nI i) = i from nI_clamp (by omega), show Int32.toNatClampNeg (nI w) = w from nI_clamp (by omega), hl5]
    have ec : (if (folL.getD w 0 &&& (1 : Int32)) = 0 then mX4_readStep_c70 n (nI i) (nI w) (upd2 (upd2 M 204 2 (nI e)) 200 i (nI w)) else (bnp (mX8_blank 204 (upd2 (upd2 M 204 2 (nI e)) 200 i (nI w))) fun M12 => (bnd (mX8_accountDigit 204 M12) fun r13 M14 => (chk (nI i) 24 (mX4_readStep_c70 n (nI i) (nI w) (upd2 M14 201 i r13)))))) = tailC n i w (upd2 (upd2 M 204 2 (nI e)) 200 i (nI w)) := by
      unfold tailC
      rw [show Int32.toNatClampNeg (nI i) = i from nI_clamp (by omega)]; rfl
    rw [ec]
    have fs0 : FS i 200 M (upd2 (upd2 M 204 2 (nI e)) 200 i (nI w)) := fun o k g => by
      by_cases q : o = 200
      · subst q; rw [u2k _ _ (by omega), u2o _ _ (by decide)]
      · rw [u2o _ _ q]
        by_cases q2 : o = 204
        · subst q2; exact u2k _ _ (by omega)
        · exact u2o _ _ q2
    have gs0 : GS2 i N (upd2 (upd2 N1 212 (2 * i) (llo (Int64.ofNat c))) 212 (2 * i + 1) (lhi (Int64.ofNat c))) := fun o k g => by
      by_cases q : o = 212
      · subst q; rw [u2k _ _ (by omega), u2k _ _ (by omega)]; exact w3 _ _ (Or.inl (by decide))
      · rw [u2o _ _ q, u2o _ _ q]; exact w3 _ _ (by omega)
    rcases m1 with ⟨q, M', N', c1, c2, c3, c4, c5, c6, c7⟩ | ⟨M', N', c1, c2, c3, c4, c5⟩
    · rw [c1, c2]
      simp only [bnd_some]
      rw [if_neg (show ¬ (1 : Int32) = 0 by decide), c4, place_s]
      refine Or.inl ⟨q, M', _, rfl, rfl, RD_N c3 (Or.inr ⟨by decide, by decide⟩) (by decide), u2s _ _ _ _, ⟨(w, c), t1, ?_, ?_, ?_⟩, fun o k g => ?_, fun o k g => ?_⟩
      · rw [c6 200 i (by omega), u2s]
      · have d1 : N' 212 (2 * i) = llo (Int64.ofNat c) := by rw [c7 212 (2 * i) (by omega), u2k _ _ (by omega), u2s]
        have d2 : N' 212 (2 * i + 1) = lhi (Int64.ofNat c) := by rw [c7 212 (2 * i + 1) (by omega), u2s]
        rw [u2o _ _ (by decide), u2o _ _ (by decide), d1, d2, lcb_of]
      · obtain ⟨k1, k2, k3, k4⟩ := c5
        refine ⟨fun a b => ?_, fun a => ?_, fun a => ?_, fun a => ?_⟩
        · rw [u2o _ _ (by decide)]; exact k1 a b
        · rw [u2o _ _ (by decide)]; exact k2 a
        · rw [u2o _ _ (by decide)]; exact k3 a
        · rw [u2o _ _ (by decide)]; exact k4 a
      · rw [c6 o k (by omega)]; exact fs0 o k g
      · have : upd2 N' 207 17 (nI (i + 1)) o k = N' o k := by
          by_cases q : o = 207
          · subst q; exact u2k _ _ (by omega)
          · exact u2o _ _ q
        rw [this, c7 o k (by omega)]; exact gs0 o k g
    · rw [c1, c2]
      simp only [bnd_some, if_true]
      exact Or.inr ⟨M', N', rfl, rfl, c3, fun o k g => (c4 o k (by omega)).trans (fs0 o k g), fun o k g => (c5 o k (by omega)).trans (gs0 o k g)⟩
  · rw [t2, deed_no t1, w2]
    simp only [bnp_some, bnd_some, if_true]
    rw [if_pos (show (-1 : Int32) < 0 by decide)]
    unfold mX11_wrongAt
    simp only [bnd_some]
    refine Or.inr ⟨_, _, rfl, rfl, t3, fun o k g => ?_, fun o k g => ?_⟩
    · by_cases q : o = 204
      · subst q
        have hk : k = 1 := by omega
        subst hk
        rw [u2k _ _ (by decide), u2k _ _ (by decide)]
      · rw [u2o _ _ q, u2o _ _ q]
    · have : upd2 N1 207 7 ((-1000 : Int32) * 1 - nI p) o k = N1 o k := by
        by_cases q : o = 207
        · subst q; exact u2k _ _ (by omega)
        · exact u2o _ _ q
      rw [this]; exact w3 _ _ (by omega)
end
section
/-! DEEDS: all STEPS read, and done -/
def FSr (M M' : Mem) : Prop := ∀ o k, ¬ ((o = 199 ∧ k = 1) ∨ (200 ≤ o ∧ o ≤ 204)) → M' o k = M o k
def GSr (N N' : Mem) : Prop := ∀ o k, ¬ ((o = 207 ∧ (k = 5 ∨ k = 7 ∨ k = 8 ∨ k = 9 ∨ k = 10 ∨ k = 10 + HI ∨ k = 17)) ∨ (212 ≤ o ∧ o ≤ 215)) → N' o k = N o k
theorem FSr.trans {M M1 M2 : Mem} (h1 : FSr M M1) (h2 : FSr M1 M2) : FSr M M2 := fun o k h => (h2 o k h).trans (h1 o k h)
theorem GSr.trans {M M1 M2 : Mem} (h1 : GSr M M1) (h2 : GSr M1 M2) : GSr M M2 := fun o k h => (h2 o k h).trans (h1 o k h)
theorem FS.r {i lo : Nat} {M M' : Mem} (h : FS i lo M M') (hlo : 200 ≤ lo) : FSr M M' := fun o k g => h o k (by omega)
theorem GS2.r {i : Nat} {N N' : Mem} (h : GS2 i N N') : GSr N N' := fun o k g => h o k (by omega)
theorem FR.r {M M' : Mem} (h : FR 204 M M') : FSr M M' := fun o k g => h o k (by omega)
theorem GR.r {N N' : Mem} (h : GR N N') : GSr N N' := fun o k g => h o k (by omega)
theorem STP_cg {j : Nat} {M N M' N' : Mem} (h : STP j M N) (h1 : ∀ o, 200 ≤ o → o ≤ 203 → M' o j = M o j) (h2 : ∀ o, 213 ≤ o → o ≤ 215 → N' o j = N o j) (h3 : N' 212 (2 * j) = N 212 (2 * j)) (h4 : N' 212 (2 * j + 1) = N 212 (2 * j + 1)) : STP j M' N' := by
  obtain ⟨t, t1, t2, t3, t4, t5, t6, t7⟩ := h
  refine ⟨t, t1, ?_, ?_, fun a b => ?_, fun a => ?_, fun a => ?_, fun a => ?_⟩
  · rw [h1 200 (by decide) (by decide)]; exact t2
  · rw [h3, h4]; exact t3
  · rw [h1 201 (by decide) (by decide), h2 213 (by decide) (by decide)]; exact t4 a b
  · rw [h1 202 (by decide) (by decide), h2 214 (by decide) (by decide)]; exact t5 a
  · rw [h1 203 (by decide) (by decide), h2 215 (by decide) (by decide)]; exact t6 a
  · rw [h1 203 (by decide) (by decide), h2 213 (by decide) (by decide)]; exact t7 a
def refG (n k : Nat) (N : Mem) : Option (Int32 × Mem) := (bnd (mX11_readsStep n N) fun r8 M9 => (mX11_readsDeeds_c25 n k r8 M9))
theorem c17_end {n k : Nat} {v : Int32} {M : Mem} : mX4_read_c17 n (k + 1) 0 v M = some ((((-1000 : Int32) * (M 204 3)) - (M 204 4)), M) := by
  unfold mX4_read_c17 mX8_faultAnswer
  by_cases h : (24 : Int32) < v
  · rw [if_pos h]; rfl
  · rw [if_neg h, if_pos rfl]; rfl
theorem c25_0 {n k : Nat} {N : Mem} : mX11_readsDeeds_c25 n (k + 1) 0 N = some (0, N) := by
  unfold mX11_readsDeeds_c25
  rw [if_pos rfl]
theorem flt_val {rd : Nat} {M N : Mem} (h : FLT rd M N) : ((-1000 : Int32) * (M rd 3)) - (M rd 4) = N 207 7 ∧ ¬ N 207 7 = 0 := by
  obtain ⟨c, a, h1, h2, h3, h4, h5, h6⟩ := h
  rw [h4, h5, h6]
  refine ⟨rfl, ?_⟩
  rw [show (-1000 : Int32) = iI (-1000) from by decide, iI_n, iI_n, iI_mul, iI_sub, show (0 : Int32) = iI 0 from rfl, iI_eq (by omega) (by omega) (by omega) (by omega)]
  omega
/-- what all STEPS come to -/
def RdO (M N : Mem) (mc mm : Option (Int32 × Mem)) : Prop :=
  (∃ s M' N', mc = some (0, M') ∧ mm = some (1, N') ∧ s ≤ 24 ∧ M' 199 1 = nI s ∧ N' 207 17 = nI s ∧ (∀ j, j < s → STP j M' N') ∧ FSr M M' ∧ GSr N N') ∨
  (∃ r M' N', mc = some (r, M') ∧ mm = some (0, N') ∧ ¬ r = 0 ∧ N' 207 7 = r ∧ FSr M M' ∧ GSr N N')
theorem RdO.pre {M N M1 N1 : Mem} {mc mm : Option (Int32 × Mem)} (h : RdO M1 N1 mc mm) (hM : FSr M M1) (hN : GSr N N1) : RdO M N mc mm := by
  rcases h with ⟨s, M', N', a1, a2, a3, a4, a5, a6, a7, a8⟩ | ⟨r, M', N', a1, a2, a3, a4, a5, a6⟩
  · exact Or.inl ⟨s, M', N', a1, a2, a3, a4, a5, a6, hM.trans a7, hN.trans a8⟩
  · exact Or.inr ⟨r, M', N', a1, a2, a3, a4, hM.trans a5, hN.trans a6⟩
theorem read_go {n L : Nat} (hn : 20000 ≤ n) : ∀ (d k i p : Nat) (M N : Mem), i + d = 24 → d + 2 < k → RD 204 L p M N → M 199 1 = nI i → N 207 17 = nI i → (∀ j, j < i → STP j M N) → RdO M N (mX4_read_c17 n k 1 (nI i) M) (refG n k N) := by
  intro d
  induction d with
  | zero =>
    intro k i p M N e hk h h1 h17 hS
    obtain ⟨k, rfl⟩ : ∃ k', k = k' + 1 + 1 := ⟨k - 2, by omega⟩
    have hi : i = 24 := by omega
    subst hi
    obtain ⟨f1, f2, f3⟩ := RD_fault (c := 4) (at' := p) h (by decide) (by decide) (by have := h.1; have := h.2.1; omega)
    obtain ⟨h0, g1, g2, g3, g4, g5, g6, g7, hE⟩ := id h
    have c : mX4_read_c17 n (k + 1 + 1) 1 (nI 24) M = some ((((-1000 : Int32) * (upd2 (upd2 M 204 3 (nI 4)) 204 4 (nI p) 204 3)) - (upd2 (upd2 M 204 3 (nI 4)) 204 4 (nI p) 204 4)), upd2 (upd2 M 204 3 (nI 4)) 204 4 (nI p)) := by
      rw [mX4_read_c17, if_neg (show ¬ (24 : Int32) < nI 24 by decide), if_neg (show ¬ (1 : Int32) = 0 by decide), if_pos (show nI 24 = (24 : Int32) by decide), g3, show mX8_mark 204 (4 : Int32) (nI p) M = _ from mark_ok (c := 4) g4]
      simp only [bnp_some]
      rw [goes_no (FLT_ne f1)]
      simp only [bnd_some]
      rw [c17_end]
    have m : refG n (k + 1 + 1) N = some (0, upd2 N 207 7 ((-1000 : Int32) * nI 4 - nI p)) := by
      unfold refG mX11_readsStep mX11_wrongAt
      rw [h17, if_pos (show nI 24 = (24 : Int32) by decide), g7]
      simp only [bnd_some]
      rw [c25_0]; rfl
    obtain ⟨v1, v2⟩ := flt_val f1
    rw [c, m, v1]
    exact Or.inr ⟨_, _, _, rfl, rfl, v2, rfl, f2.r, f3.r⟩
  | succ d ih =>
    intro k i p M N e hk h h1 h17 hS
    obtain ⟨k, rfl⟩ : ∃ k', k = k' + 1 + 1 := ⟨k - 2, by omega⟩
    have hi : i < 24 := by omega
    have hc : mX4_read_c17 n (k + 1 + 1) 1 (nI i) M = (bnp (mX4_readStep n (nI i) M) fun M4 => (bnd (mX8_goesOn 204 (upd2 M4 199 1 ((M4 199 1) + (1 : Int32)))) fun r5 M6 => ((mX4_read_c17 n (k + 1)) r5 (nI (i + 1)) M6))) := by
      rw [mX4_read_c17, if_neg (show ¬ (24 : Int32) < nI i by rw [show (24 : Int32) = nI 24 from rfl, nI_ltI (by omega) (by omega)]; omega), if_neg (show ¬ (1 : Int32) = 0 by decide), if_neg (show ¬ nI i = (24 : Int32) by rw [show (24 : Int32) = nI 24 from rfl, nI_eq (by omega) (by omega)]; omega), place_s]
    rw [hc]
    unfold refG
    rcases R_step (n := n) hn hi h h17 with ⟨q, M1, N1, c1, c2, c3, c4, c5, c6, c7⟩ | ⟨M1, N1, c1, c2, c3, c4, c5⟩
    · have s1 : M1 199 1 = nI i := by rw [c6 199 1 (by omega)]; exact h1
      have hR : RD 204 L q (upd2 M1 199 1 (nI (i + 1))) N1 := RD_M c3 (by decide) (by decide)
      have fM : FSr M (upd2 M1 199 1 (nI (i + 1))) := fun o k g => by
        have : upd2 M1 199 1 (nI (i + 1)) o k = M1 o k := by
          by_cases z : o = 199
          · subst z; exact u2k _ _ (by omega)
          · exact u2o _ _ z
        rw [this]; exact c6 o k (by omega)
      have hS' : ∀ j, j < i + 1 → STP j (upd2 M1 199 1 (nI (i + 1))) N1 := fun j hj => by
        rcases (show j = i ∨ j < i by omega) with rfl | g
        · exact STP_cg c5 (fun o a b => u2o _ _ (by omega)) (fun _ _ _ => rfl) rfl rfl
        · refine STP_cg (hS j g) (fun o a b => ?_) (fun o a b => c7 o j (by omega)) (c7 212 _ (by omega)) (c7 212 _ (by omega))
          rw [u2o _ _ (by omega)]; exact c6 o j (by omega)
      have hh := m_here hR
      obtain ⟨h0, g1, g2, g3, g4, g5, g6, g7, hE⟩ := id hR
      rw [c1, c2]
      simp only [bnp_some, bnd_some]
      rw [s1, place_s]
      have hmm : mX11_readsDeeds_c25 n (k + 1 + 1) 1 N1 = (if nI L ≤ nI q then (some (1, N1)) else (bnd (mX11_takesSign (59 : Int32) N1) fun r1 M2 => (if r1 = 0 then ((mX11_readsDeeds_c25 n (k + 1)) (0 : Int32) M2) else (bnd (mX11_readsStep n M2) fun r4 M5 => (if r4 = 0 then ((mX11_readsDeeds_c25 n (k + 1)) (0 : Int32) M5) else ((mX11_readsDeeds_c25 n (k + 1)) (1 : Int32) M5)))))) := by
        rw [mX11_readsDeeds_c25, if_neg (show ¬ (1 : Int32) = 0 by decide), g6, g7]
      rw [hmm]
      unfold mX8_goesOn
      rw [if_pos g4, g3, g2]
      by_cases hq : q < L
      · rw [if_pos (show nI q < nI L by rw [nI_ltI (by omega) (by omega)]; exact hq), if_neg (show ¬ nI L ≤ nI q by rw [nI_leI (by omega) (by omega)]; omega), c_byte g2 g1 (by omega)]
        unfold mX11_takesSign mX11_wrongAt
        rw [hh, g7]
        simp only [bnp_some, bnd_some]
        by_cases hs : bt (upd2 M1 199 1 (nI (i + 1))) L q = (59 : Int32)
        · rw [if_pos hs, if_pos hs]
          simp only [bnd_some]
          rw [if_neg (show ¬ (1 : Int32) = 0 by decide), place_s]
          have hR2 : RD 204 L (q + 1) (upd2 (upd2 M1 199 1 (nI (i + 1))) 204 2 (nI (q + 1))) (upd2 N1 207 5 (nI (q + 1))) := RD_next (by decide) hR hq
          have ih2 := ih (k + 1) (i + 1) (q + 1) (upd2 (upd2 M1 199 1 (nI (i + 1))) 204 2 (nI (q + 1))) (upd2 N1 207 5 (nI (q + 1))) (by omega) (by omega) hR2 (by rw [u2o _ _ (by decide), u2s]) (by rw [u2k _ _ (by decide)]; exact c4) (fun j hj => STP_cg (hS' j hj) (fun o a b => u2o _ _ (by omega)) (fun o a b => u2o _ _ (by omega)) (u2o _ _ (by decide)) (u2o _ _ (by decide)))
          have e2 : (bnd (mX11_readsStep n (upd2 N1 207 5 (nI (q + 1)))) fun r4 M5 => (if r4 = 0 then ((mX11_readsDeeds_c25 n (k + 1)) (0 : Int32) M5) else ((mX11_readsDeeds_c25 n (k + 1)) (1 : Int32) M5))) = refG n (k + 1) (upd2 N1 207 5 (nI (q + 1))) := by
            unfold refG
            rcases (show i + 1 < 24 ∨ i + 1 = 24 by omega) with z | z
            · rcases R_step (n := n) hn z hR2 (by rw [u2k _ _ (by decide)]; exact c4) with ⟨_, _, _, _, w2, _⟩ | ⟨_, _, _, w2, _⟩
              · rw [w2]; rfl
              · rw [w2]; rfl
            · unfold mX11_readsStep mX11_wrongAt
              rw [show upd2 N1 207 5 (nI (q + 1)) 207 17 = nI 24 from by rw [u2k _ _ (by decide), c4, z], if_pos (show nI 24 = (24 : Int32) by decide)]; rfl
          rw [e2]
          exact ih2.pre (fM.trans (FR_up (by decide)).r) (GSr.trans c7.r (GR_up (by omega)).r)
        · obtain ⟨f1, f2, f3⟩ := RD_fault (c := 1) (at' := q) hR (by decide) (by decide) (by omega)
          rw [if_neg hs, if_neg hs, show mX8_mark 204 (1 : Int32) (nI q) (upd2 M1 199 1 (nI (i + 1))) = _ from mark_ok (c := 1) g4]
          simp only [bnp_some, bnd_some]
          rw [if_pos trivial, c17_end, c25_0]
          obtain ⟨v1, v2⟩ := flt_val f1
          rw [v1]
          exact Or.inr ⟨_, _, _, rfl, rfl, v2, rfl, fM.trans f2.r, GSr.trans c7.r f3.r⟩
      · rw [if_neg (show ¬ nI q < nI L by rw [nI_ltI (by omega) (by omega)]; exact hq), if_pos (show nI L ≤ nI q by rw [nI_leI (by omega) (by omega)]; omega)]
        simp only [bnd_some]
        rw [c17_end, g4, g5]
        exact Or.inl ⟨i + 1, _, N1, rfl, rfl, by omega, u2s _ _ _ _, c4, hS', fM, c7.r⟩
    · have fM : FSr M (upd2 M1 199 1 (M1 199 1 + 1)) := fun o k g => by
        have : upd2 M1 199 1 (M1 199 1 + 1) o k = M1 o k := by
          by_cases z : o = 199
          · subst z; exact u2k _ _ (by omega)
          · exact u2o _ _ z
        rw [this]; exact c4 o k (by omega)
      have f1 : FLT 204 (upd2 M1 199 1 (M1 199 1 + 1)) N1 := FLT_M c3 (by decide)
      rw [c1, c2]
      simp only [bnp_some, bnd_some]
      rw [goes_no (FLT_ne f1)]
      simp only [bnd_some]
      rw [c17_end, c25_0]
      obtain ⟨v1, v2⟩ := flt_val f1
      rw [v1]
      exact Or.inr ⟨_, _, _, rfl, rfl, v2, rfl, fM, c5.r⟩
/-- one STEP is done -/
theorem OPR_if {b : Nat} {M N : Mem} {f : Nat → Int32} {x y : Option (Int32 × Mem)} {P : Int32 → Prop} {dP : DecidablePred P} (h : OPR b M N f x y) : OPR b M N f (bnd x fun r M => if P r then some ((0 : Int32), M) else some ((1 : Int32), M)) (bnd y fun r M => if P r then some ((0 : Int32), M) else some ((1 : Int32), M)) := by
  obtain ⟨r, M', N', f', h1, h2, h3, h4, h5, h6⟩ := h
  rw [h1, h2]
  simp only [bnd_some]
  by_cases z : P r
  · rw [if_pos z, if_pos z]; exact ⟨_, M', N', f', rfl, rfl, h3, h4, h5, h6⟩
  · rw [if_neg z, if_neg z]; exact ⟨_, M', N', f', rfl, rfl, h3, h4, h5, h6⟩
theorem do_one {b n i s : Nat} {M N : Mem} {f : Nat → Int32} (hS : SIM b M N f) (hn : 20000 ≤ n) (hs : s ≤ 24) (hi : i < s) (h1 : M 199 1 = nI s) (hP : STP i M N) : OPR b M N f (mX4_isDone n (nI i) b M) (mX11_does n (nI i) (stF N f)) := by
  obtain ⟨t, t1, t2, t3, t4, t5, t6, t7⟩ := hP
  obtain ⟨w, c⟩ := t
  have t2' : M 200 i = nI w := t2
  have t3' : lcb (N 212 (2 * i)) (N 212 (2 * i + 1)) = Int64.ofNat c := t3
  unfold mX4_isDone mX11_does
  rw [if_neg (nI_pos (by omega)), h1, if_neg (show ¬ nI s ≤ nI i by rw [nI_leI (by omega) (by omega)]; omega), if_pos (show nI i < (24 : Int32) by rw [show (24 : Int32) = nI 24 from rfl, nI_ltI (by omega) (by omega)]; omega)]
  have ck : ∀ (y : Option (Int32 × Mem)), chk (nI i) 24 y = y := fun y => chk_n (by omega) (by decide)
  simp only [ck]
  rw [show Int32.toNatClampNeg (nI i) = i from nI_clamp (by omega), t2', show stF N f 212 = N 212 from stF_o _ _ (by decide), show stF N f 213 = N 213 from stF_o _ _ (by decide), show stF N f 214 = N 214 from stF_o _ _ (by decide), show stF N f 215 = N 215 from stF_o _ _ (by decide), t3']
  rw [CW_2] at t1
  simp only [List.mem_cons, List.not_mem_nil, or_false, Prod.mk.injEq] at t1
  rcases t1 with ⟨rfl, rfl⟩ | ⟨rfl, rfl⟩ | ⟨rfl, rfl⟩ | ⟨rfl, rfl⟩ | ⟨rfl, rfl⟩ | ⟨rfl, rfl⟩ | ⟨rfl, rfl⟩ | ⟨rfl, rfl⟩ | ⟨rfl, rfl⟩ | ⟨rfl, rfl⟩ | ⟨rfl, rfl⟩ | ⟨rfl, rfl⟩ | ⟨rfl, rfl⟩
  · rw [if_pos (by decide), if_pos (by decide), t4 (by decide) (by decide), t5 (by decide), t6 (by decide)]
    exact OPR_if (P := fun r => r < 0) (op_begin hS (by omega) _ _ _)
  · rw [if_neg (by decide), if_pos (by decide), if_neg (by decide), if_pos (by decide), t4 (by decide) (by decide), t5 (by decide)]
    exact OPR_if (P := fun r => r ≤ (-1000000 : Int32)) (op_change hS (by omega) _ _)
  · rw [if_neg (by decide), if_neg (by decide), if_pos (by decide), if_neg (by decide), if_neg (by decide), if_pos (by decide), t4 (by decide) (by decide), t6 (by decide)]
    exact OPR_if (P := fun r => r ≤ (-1000000 : Int32)) (op_seats hS (by omega) _ _)
  · rw [if_neg (by decide), if_neg (by decide), if_neg (by decide), if_pos (by decide), if_neg (by decide), if_neg (by decide), if_neg (by decide), if_neg (by decide), if_neg (by decide), if_pos (by decide), t4 (by decide) (by decide)]
    unfold mX11_does_c180
    rw [if_pos (by decide)]
    exact OPR_if (P := fun r => r ≤ (-1000000 : Int32)) (op_pause hS (by omega) _ _ (Or.inr rfl))
  · rw [if_neg (by decide), if_neg (by decide), if_neg (by decide), if_neg (by decide), if_pos (by decide), if_neg (by decide), if_neg (by decide), if_neg (by decide), if_neg (by decide), if_neg (by decide), if_neg (by decide), if_pos (by decide), t4 (by decide) (by decide)]
    unfold mX11_does_c180
    rw [if_neg (by decide)]
    exact OPR_if (P := fun r => r ≤ (-1000000 : Int32)) (op_pause hS (by omega) _ _ (Or.inl rfl))
  · rw [if_neg (by decide), if_neg (by decide), if_neg (by decide), if_neg (by decide), if_neg (by decide), if_pos (by decide), if_neg (by decide), if_neg (by decide), if_neg (by decide), if_neg (by decide), if_neg (by decide), if_neg (by decide), if_neg (by decide), if_pos (by decide), t4 (by decide) (by decide)]
    exact OPR_if (P := fun r => r ≤ (-1000000 : Int32)) (op_quit hS (by omega) _)
  · rw [if_neg (by decide), if_neg (by decide), if_neg (by decide), if_neg (by decide), if_neg (by decide), if_neg (by decide), if_pos (by decide), if_neg (by decide), if_neg (by decide), if_neg (by decide), if_neg (by decide), if_neg (by decide), if_neg (by decide), if_neg (by decide), if_neg (by decide), if_pos (by decide), t4 (by decide) (by decide), t6 (by decide)]
    exact OPR_if (P := fun r => r < 0) (op_use hS _ _)
  · rw [if_neg (by decide), if_neg (by decide), if_neg (by decide), if_neg (by decide), if_neg (by decide), if_neg (by decide), if_neg (by decide), if_pos (by decide), if_neg (by decide), if_neg (by decide), if_neg (by decide), if_neg (by decide), if_neg (by decide), if_neg (by decide), if_neg (by decide), if_neg (by decide), if_neg (by decide), if_pos (by decide), t7 (by decide)]
    exact OPR_if (P := fun r => r < 0) (op_days hS (by omega) _)
  · rw [if_neg (by decide), if_neg (by decide), if_neg (by decide), if_neg (by decide), if_neg (by decide), if_neg (by decide), if_neg (by decide), if_neg (by decide), if_pos (by decide), if_neg (by decide), if_neg (by decide), if_neg (by decide), if_neg (by decide), if_neg (by decide), if_neg (by decide), if_neg (by decide), if_neg (by decide), if_neg (by decide), if_neg (by decide), if_pos (by decide), t4 (by decide) (by decide), t6 (by decide)]
    exact OPR_if (P := fun r => r ≤ (-1000000 : Int32)) (op_favour hS (by omega) _ _)
  · rw [if_neg (by decide), if_neg (by decide), if_neg (by decide), if_neg (by decide), if_neg (by decide), if_neg (by decide), if_neg (by decide), if_neg (by decide), if_neg (by decide), if_pos (by decide), if_neg (by decide), if_neg (by decide), if_neg (by decide), if_pos (by decide), t4 (by decide) (by decide), t6 (by decide)]
    exact OPR_if (P := fun r => r < 0) (op_pay hS _ _)
  · rw [if_neg (by decide), if_neg (by decide), if_neg (by decide), if_neg (by decide), if_neg (by decide), if_neg (by decide), if_neg (by decide), if_neg (by decide), if_neg (by decide), if_neg (by decide), if_pos (by decide), if_neg (by decide), if_neg (by decide), if_neg (by decide), if_neg (by decide), if_pos (by decide), t4 (by decide) (by decide)]
    exact OPR_if (P := fun r => r < 0) (op_remind hS (by omega) _)
  · rw [if_neg (by decide), if_neg (by decide), if_neg (by decide), if_neg (by decide), if_neg (by decide), if_neg (by decide), if_neg (by decide), if_neg (by decide), if_neg (by decide), if_neg (by decide), if_neg (by decide), if_pos (by decide), if_neg (by decide), if_neg (by decide), if_neg (by decide), if_neg (by decide), if_neg (by decide), if_neg (by decide), if_neg (by decide), if_neg (by decide), if_neg (by decide), if_neg (by decide), if_neg (by decide), if_pos (by decide), t4 (by decide) (by decide), t6 (by decide)]
    exact OPR_if (P := fun r => r ≤ (-1000000 : Int32)) (op_move hS (by omega) _ _)
  · rw [if_neg (by decide), if_neg (by decide), if_neg (by decide), if_neg (by decide), if_neg (by decide), if_neg (by decide), if_neg (by decide), if_neg (by decide), if_neg (by decide), if_neg (by decide), if_neg (by decide), if_neg (by decide), if_neg (by decide), if_neg (by decide), if_neg (by decide), if_neg (by decide), if_neg (by decide), if_neg (by decide), if_neg (by decide), if_neg (by decide), if_neg (by decide), if_neg (by decide), if_neg (by decide), if_neg (by decide), t7 (by decide)]
    exact OPR_if (P := fun r => r < 0) (op_turn hS (by omega) _)
theorem do_go {b n s : Nat} (hb : b = 4 ∨ b = 110) (hn : 20000 ≤ n) (hs : s ≤ 24) : ∀ (d k i : Nat) (M N : Mem) (f : Nat → Int32), i + d = s → d < k → SIM b M N f → M 199 1 = nI s → N 207 17 = nI s → (∀ j, i ≤ j → j < s → STP j M N) →
    ∃ r M' N' f', (b = 4 → mX10_deeds_c32 n k (nI i) M = some (r, M')) ∧ (b = 110 → ∀ x, mX10_tried_c51 n k x (nI i) M = mX10_tried_c85 n x M') ∧ mX11_doesAll_c2 n k (nI i) (stF N f) = some (r, stF N' f') ∧ SIM b M' N' f' ∧ FD b M M' ∧ NE N N' ∧ FX f f' := by
  intro d
  induction d with
  | zero =>
    intro k i M N f e hk hS h1 h17 hP
    obtain ⟨k, rfl⟩ : ∃ k', k = k' + 1 := ⟨k - 1, by omega⟩
    have z : nI s ≤ nI i := by rw [nI_leI (by omega) (by omega)]; omega
    refine ⟨nI i, M, N, f, fun _ => ?_, fun _ x => ?_, ?_, hS, FD.rfl', NE.rfl', FX.rfl'⟩
    · rw [mX10_deeds_c32, h1, if_pos z]
    · rw [mX10_tried_c51, h1, if_pos z]
    · rw [mX11_doesAll_c2, stF_o _ _ (by decide), h17, if_pos z]
  | succ d ih =>
    intro k i M N f e hk hS h1 h17 hP
    obtain ⟨k, rfl⟩ : ∃ k', k = k' + 1 := ⟨k - 1, by omega⟩
    have z : ¬ nI s ≤ nI i := by rw [nI_leI (by omega) (by omega)]; omega
    obtain ⟨r, M1, N1, f1, a1, a2, a3, a4, a5, a6⟩ := do_one hS hn hs (show i < s by omega) h1 (hP i (Nat.le_refl _) (by omega))
    have b1 : M1 199 1 = nI s := by rw [a4 199 1 (by omega)]; exact h1
    have b17 : N1 207 17 = nI s := by rw [a5 207 17 (by decide) (by decide) (by decide)]; exact h17
    have bP : ∀ j, i + 1 ≤ j → j < s → STP j M1 N1 := fun j j1 j2 => STP_cg (hP j (by omega) j2) (fun o x y => a4 o j (by omega)) (fun o x y => a5 o j (by omega) (fun h => by omega) (by omega)) (a5 212 _ (by decide) (fun h => absurd h (by decide)) (by decide)) (a5 212 _ (by decide) (fun h => absurd h (by decide)) (by decide))
    by_cases hr : r = 0
    · refine ⟨nI i, M1, N1, f1, fun hb => ?_, fun hb x => ?_, ?_, a3, a4, a5, a6⟩
      · subst hb
        rw [mX10_deeds_c32, h1, if_neg z, a1]
        simp only [bnd_some]
        rw [if_pos hr]
      · subst hb
        rw [mX10_tried_c51, h1, if_neg z, a1]
        simp only [bnd_some]
        rw [if_pos hr]
      · rw [mX11_doesAll_c2, stF_o _ _ (by decide), h17, if_neg z, a2]
        simp only [bnd_some]
        rw [if_pos hr]
    · obtain ⟨r', M2, N2, f2, c1, c2, c3, c4, c5, c6, c7⟩ := ih k (i + 1) M1 N1 f1 (by omega) (by omega) a3 b1 b17 bP
      refine ⟨r', M2, N2, f2, fun hb => ?_, fun hb x => ?_, ?_, c4, a4.trans c5, a5.trans c6, a6.trans c7⟩
      · have c1' := c1 hb
        subst hb
        rw [mX10_deeds_c32, h1, if_neg z, a1]
        simp only [bnd_some]
        rw [if_neg hr, place_s]; exact c1'
      · have c2' := c2 hb x
        subst hb
        rw [mX10_tried_c51, h1, if_neg z, a1]
        simp only [bnd_some]
        rw [if_neg hr, place_s]; exact c2'
      · rw [mX11_doesAll_c2, stF_o _ _ (by decide), h17, if_neg z, a2]
        simp only [bnd_some]
        rw [if_neg hr, place_s]; exact c3
end
section
/-! deeds, tried -/
theorem text_c {M N : Mem} {T : Nat} (hT : T ≤ 400) (h1 : M 0 1 = nI T) (h2 : N 207 4 = nI T) (a : Int32) : (∃ L, 1 ≤ L ∧ L ≤ 200 ∧ L ≤ T ∧ a = nI L ∧ mX10_hasText a M = some 1 ∧ mX11_isLong a N = some 1 ∧ mX11_in a (1 : Int32) (200 : Int32) = some 1 ∧ a ≤ N 207 4) ∨
    (mX10_hasText a M = some 0 ∧ mX11_isLong a N = some 0 ∧ (mX11_in a (1 : Int32) (200 : Int32) = some 0 ∨ (mX11_in a (1 : Int32) (200 : Int32) = some 1 ∧ ¬ a ≤ N 207 4))) := by
  unfold mX10_hasText mX11_isLong
  rw [h1, h2]
  rcases in_c a 1 200 201 1 200 rfl rfl rfl (by decide) (by decide) with ⟨q, hq1, hq, rfl, g1, g2, g3, g4⟩ | ⟨g4, g1⟩
  · rw [if_neg g1, if_neg g2, g4]
    simp only [bnp_some]
    rw [if_neg (show ¬ (1 : Int32) = 0 by decide)]
    by_cases z : nI T < nI q
    · rw [if_pos z]; exact Or.inr ⟨rfl, rfl, Or.inr ⟨trivial, Int32.not_le.mpr z⟩⟩
    · rw [if_neg z]
      have z' := z
      rw [nI_ltI (by omega) (by omega)] at z'
      exact Or.inl ⟨q, hq1, hq, by omega, rfl, rfl, rfl, trivial, Int32.not_lt.mp z⟩
  · rw [g4]
    simp only [bnp_some]
    rw [if_pos trivial]
    refine Or.inr ⟨?_, rfl, Or.inl trivial⟩
    rcases g1 with g1 | ⟨g1, g2, g3⟩
    · rw [if_pos g1]
    · rw [if_neg g1, if_pos g2]
theorem start_c {rd L : Nat} {M : Mem} (hL : L ≤ 200) : mX8_start rd (nI L) M = some (upd2 (upd2 (upd2 (upd2 M rd 1 (nI L)) rd 2 0) rd 3 0) rd 4 0) := by
  have hm : (if (0 : Int32) < (if (400 : Int32) < nI L then (400 : Int32) else nI L) then (if (400 : Int32) < nI L then (400 : Int32) else nI L) else (0 : Int32)) = nI L := by
    rw [if_neg (show ¬ (400 : Int32) < nI L by rw [show (400 : Int32) = nI 400 from rfl, nI_ltI (by omega) (by omega)]; omega)]
    by_cases h : (0 : Int32) < nI L
    · rw [if_pos h]
    · rw [if_neg h]
      have : ¬ 0 < L := fun q => h (by rw [show (0 : Int32) = nI 0 from rfl, nI_ltI (by omega) (by omega)]; exact q)
      have h0 : L = 0 := by omega
      rw [h0]; rfl
  unfold mX8_start
  rw [hm]; rfl
theorem deeds_read {M N : Mem} {n L T : Nat} (hn : 20000 ≤ n) (hL : L ≤ 200) (hLT : L ≤ T) (t4 : ∀ i, i < T → M 1 i = N 210 i) : ∃ M0 N0, RdO M0 N0 (mX4_read n (nI L) (upd2 M 0 1 0)) (mX11_readsDeeds n (nI L) N) ∧ FT M M0 ∧ GT N N0 ∧ M0 0 1 = 0 ∧ N0 207 4 = 0 := by
  obtain ⟨M0, hM0⟩ : ∃ M0, M0 = upd2 (upd2 (upd2 (upd2 (upd2 (upd2 M 0 1 0) 204 1 (nI L)) 204 2 0) 204 3 0) 204 4 0) 199 1 0 := ⟨_, rfl⟩
  obtain ⟨N0, hN0⟩ : ∃ N0, N0 = upd2 (upd2 (upd2 (upd2 N 207 5 0) 207 6 (nI L)) 207 4 0) 207 17 0 := ⟨_, rfl⟩
  have e1 : mX4_read n (nI L) (upd2 M 0 1 0) = mX4_read_c17 n n 1 (nI 0) M0 := by
    unfold mX4_read
    rw [start_c hL, hM0]; rfl
  have e2 : mX11_readsDeeds n (nI L) N = refG n n N0 := by
    rw [hN0]; rfl
  have hR : RD 204 L 0 M0 N0 := by
    subst hM0; subst hN0
    refine ⟨Nat.zero_le _, hL, ?_, ?_, ?_, ?_, ?_, ?_, fun i hi => ?_⟩
    · rw [u2o _ _ (by decide), u2k _ _ (by decide), u2k _ _ (by decide), u2k _ _ (by decide), u2s]
    · rw [u2o _ _ (by decide), u2k _ _ (by decide), u2k _ _ (by decide), u2s]; rfl
    · rw [u2o _ _ (by decide), u2k _ _ (by decide), u2s]
    · rw [u2o _ _ (by decide), u2s]
    · rw [u2k _ _ (by decide), u2k _ _ (by decide), u2s]
    · rw [u2k _ _ (by decide), u2k _ _ (by decide), u2k _ _ (by decide), u2s]; rfl
    · rw [u2o _ _ (by decide), u2o _ _ (by decide), u2o _ _ (by decide), u2o _ _ (by decide), u2o _ _ (by decide), u2o _ _ (by decide), u2o _ _ (by decide), u2o _ _ (by decide), u2o _ _ (by decide), u2o _ _ (by decide)]
      exact t4 i (by omega)
  rw [e1, e2]
  refine ⟨M0, N0, read_go hn 24 n 0 0 M0 N0 rfl (by omega) hR (by rw [hM0, u2s]; rfl) (by rw [hN0, u2s]; rfl) (fun j hj => absurd hj (Nat.not_lt_zero _)), fun o k g => ?_, fun o k g => ?_, ?_, ?_⟩
  · rw [hM0, u2o _ _ (by omega), u2o _ _ (by omega), u2o _ _ (by omega), u2o _ _ (by omega), u2o _ _ (by omega)]
    by_cases z : o = 0
    · subst z; exact u2k _ _ (by omega)
    · exact u2o _ _ z
  · rw [hN0]
    by_cases z : o = 207
    · subst z; rw [u2k _ _ (by omega), u2k _ _ (by omega), u2k _ _ (by omega), u2k _ _ (by omega)]
    · rw [u2o _ _ z, u2o _ _ z, u2o _ _ z, u2o _ _ z]
  · rw [hM0, u2o _ _ (by decide), u2o _ _ (by decide), u2o _ _ (by decide), u2o _ _ (by decide), u2o _ _ (by decide), u2s]
  · rw [hN0, u2k _ _ (by decide), u2s]
theorem FSr.ft {M M' : Mem} (h : FSr M M') : FT M M' := fun o k g => h o k (by omega)
theorem GSr.gt {N N' : Mem} (h : GSr N N') : GT N N' := fun o k g => h o k (by
  have := hHI 2 (by decide)
  rcases g with g | g | g <;> omega)
theorem T_read {M N M0 N0 M' N' : Mem} (hT : TOT M N) (f1 : FT M M0) (f2 : GT N N0) (z1 : M0 0 1 = 0) (z2 : N0 207 4 = 0) (g1 : FSr M0 M') (g2 : GSr N0 N') : TOT M' N' :=
  T_tape hT (f1.trans g1.ft) (f2.trans g2.gt) ⟨0, by omega, by rw [g1 0 1 (by omega)]; exact z1, by rw [g2 207 4 (by have := hHI 4 (by decide); omega)]; exact z2, fun i hi => absurd hi (Nat.not_lt_zero _)⟩
theorem q_deeds {M N : Mem} {n : Nat} (hT : TOT M N) (hn : 20000 ≤ n) (a : Int32) : RES (mX10_deeds n a M) (mX11_deeds n a N) := by
  obtain ⟨hS, h57, h110, ⟨T, t1, t2, t3, t4⟩, h6, hK⟩ := id hT
  unfold mX10_deeds mX11_deeds
  rcases text_c t1 t2 t3 a with ⟨L, l1, l2, l3, rfl, e1, e2, -, -⟩ | ⟨e1, e2, -⟩
  · rw [e1, e2]
    simp only [bnp_some]
    rw [if_neg (show ¬ (1 : Int32) = 0 by decide), if_neg (show ¬ (1 : Int32) = 0 by decide)]
    obtain ⟨M0, N0, hO, f1, f2, z1, z2⟩ := deeds_read hn l2 l3 t4
    rcases hO with ⟨s, M1, N1, a1, a2, a3, a4, a5, a6, a7, a8⟩ | ⟨r, M1, N1, a1, a2, a3, a4, a5, a6⟩
    · have hT1 := T_read hT f1 f2 z1 z2 a7 a8
      rw [a1, a2]
      simp only [bnd_some]
      rw [if_pos trivial, if_neg (show ¬ (1 : Int32) = 0 by decide), bnd_id]
      obtain ⟨r, M2, N2, f', b1, b2, b3, b4, b5, b6, b7⟩ := do_go (b := 4) (Or.inl rfl) hn a3 s n 0 M1 N1 (N1 209) (by omega) (by omega) hT1.1 a4 a5 (fun j _ hj => a6 j hj)
      rw [stF_self] at b3
      have b1' := b1 rfl
      exact T_op hT1 ⟨r, M2, N2, f', b1', b3, b4, b5, b6, b7⟩
    · have hT1 := T_read hT f1 f2 z1 z2 a5 a6
      rw [a1, a2]
      simp only [bnd_some]
      rw [if_neg a3, if_pos trivial, a4]
      exact ⟨_, _, _, rfl, rfl, hT1⟩
  · rw [e1, e2]; exact ⟨_, _, _, rfl, rfl, hT⟩
theorem q_tried {M N : Mem} {n : Nat} (hT : TOT M N) (hn : 20000 ≤ n) (a b : Int32) : RES (mX10_tried n a b M) (mX11_tried n a b N) := by
  obtain ⟨hS, h57, h110, ⟨T, t1, t2, t3, t4⟩, h6, hK⟩ := id hT
  unfold mX10_tried mX11_tried
  rcases text_c t1 t2 t3 a with ⟨L, l1, l2, l3, rfl, e1, e2, -, -⟩ | ⟨e1, e2, -⟩
  · rcases isAccount_c b with ⟨x, -, hx5, rfl, g1, g2⟩ | ⟨g1, g2⟩
    · rw [e1, e2, g1, g2]
      simp only [bnp_some]
      rw [if_neg (show ¬ (1 : Int32) = 0 by decide), if_neg (show ¬ (1 : Int32) = 0 by decide), if_neg (show ¬ (1 : Int32) = 0 by decide), if_neg (show ¬ (1 : Int32) = 0 by decide)]
      obtain ⟨M0, N0, hO, f1, f2, z1, z2⟩ := deeds_read hn l2 l3 t4
      rcases hO with ⟨s, M1, N1, a1, a2, a3, a4, a5, a6, a7, a8⟩ | ⟨r, M1, N1, a1, a2, a3, a4, a5, a6⟩
      · have hT1 := T_read hT f1 f2 z1 z2 a7 a8
        rw [a1, a2]
        simp only [bnd_some]
        rw [if_pos trivial, if_neg (show ¬ (1 : Int32) = 0 by decide)]
        obtain ⟨M4, p1, p2, p3, p4⟩ := T_start (n := n) hT1 hn
        rw [p1, p3]
        simp only [bnp_some]
        obtain ⟨r, M2, N2, f', b1, b2, b3, b4, b5, b6, b7⟩ := do_go (b := 110) (Or.inr rfl) hn a3 s n 0 M4 N1 (cpR (N1 209) 0 2 4250) (by omega) (by omega) p4 (by rw [p2 199 1 (by omega)]; exact a4) a5 (fun j _ hj => STP_cg (a6 j hj) (fun o u v => p2 o j (by omega)) (fun _ _ _ => rfl) rfl rfl)
        have hfin := T_trial hT1 p2 b4 b5 b6 b7
        have b3' : mX11_doesAll n (stF N1 (cpR (N1 209) 0 2 4250)) = some (r, stF N2 f') := b3
        rw [show mX10_tried_c51 n n (nI x) 0 M4 = _ from b2 rfl (nI x), b3']
        simp only [bnd_some]
        unfold mX10_tried_c85
        have hbc := beg_c b4 (nI x)
        rcases hbc with ⟨y, hy, hxy, hA, k1, k2⟩ | ⟨k1, k2⟩
        · have hyx : y = x := by
            have := hxy
            rw [nI_eq (by omega) (by omega)] at this
            omega
          subst hyx
          rw [k1, k2]
          simp only [bnp_some]
          rw [if_neg (show ¬ (1 : Int32) = 0 by decide), if_neg (show ¬ (1 : Int32) = 0 by decide), chk_n hy (by decide), nI_clamp (by omega), show 145 + 12 + y = 110 + 35 + 12 + y by omega, RA13 b4.2.2.2.1 hy, m_all b4.2.2.2.2.1 (by omega), T_end hn]
          exact ⟨_, _, _, rfl, rfl, hfin⟩
        · rw [k1, k2]
          simp only [bnp_some]
          rw [if_pos trivial, if_pos trivial, T_end hn]
          exact ⟨_, _, _, rfl, rfl, hfin⟩
      · have hT1 := T_read hT f1 f2 z1 z2 a5 a6
        rw [a1, a2]
        simp only [bnd_some]
        rw [if_neg a3, if_pos trivial, a4]
        exact ⟨_, _, _, rfl, rfl, hT1⟩
    · rw [e1, e2, g1, g2]; exact ⟨_, _, _, rfl, rfl, hT⟩
  · rw [e1, e2]
    rcases isAccount_c b with ⟨x, -, hx5, rfl, g1, g2⟩ | ⟨g1, g2⟩
    · rw [g1]; exact ⟨_, _, _, rfl, rfl, hT⟩
    · rw [g1]; exact ⟨_, _, _, rfl, rfl, hT⟩
end
section
/-! the draft of THE BOOK, on both sides -/
theorem IT_plan {g g' : Nat → Int32} {p : Nat} (h : IT g) (hp : p < 6) (hf : ∀ j, (j < 20 + 24 * p ∨ 44 + 24 * p ≤ j) → g' j = g j) (hP : IP g' p) : IT g' := by
  obtain ⟨i0, i1, i2, i3, i4, i5⟩ := h
  have eX : nX g' = nX g := by unfold nX; rw [hf 6 (by omega)]
  unfold IT
  rw [eX, hf 2 (by omega), hf 3 (by omega), hf 5 (by omega), hf 6 (by omega)]
  refine ⟨i0, i1, i2, i3, fun i hi => ?_, fun q hq => ?_⟩
  · rw [hf _ (by omega), hf _ (by omega)]; exact i4 i hi
  · by_cases z : q = p
    · subst z; exact hP
    · exact IP_congr (i5 q hq) (fun w hw => hf _ (by omega))
theorem RT_plan {M M' : Mem} {g g' : Nat → Int32} {p : Nat} (h : RT 164 M g) (hI : IT g) (hp : p < 6) (hM : ∀ o k, 164 ≤ o → o < 198 → ¬ (168 + 5 * p ≤ o ∧ o ≤ 172 + 5 * p) → M' o k = M o k) (hf : ∀ j, (j < 20 + 24 * p ∨ 44 + 24 * p ≤ j) → g' j = g j) (hP : RP (168 + 5 * p) p M' g') : RT 164 M' g' := by
  obtain ⟨r0, r1, r2, r3, r4, r5⟩ := h
  have hX := hI.2.2.2.1.2
  have eX : nX g' = nX g := by unfold nX; rw [hf 6 (by omega)]
  unfold RT
  rw [eX]
  refine ⟨?_, ?_, ?_, ?_, fun i hi => ?_, fun q hq => ?_⟩
  · rw [hM _ _ (by omega) (by omega) (by omega), hf _ (by omega)]; exact r0
  · rw [hM _ _ (by omega) (by omega) (by omega), hf _ (by omega)]; exact r1
  · rw [hM _ _ (by omega) (by omega) (by omega), hf _ (by omega)]; exact r2
  · rw [hM _ _ (by omega) (by omega) (by omega), hf _ (by omega)]; exact r3
  · obtain ⟨g1, g2⟩ := r4 i hi
    rw [hM _ _ (by omega) (by omega) (by omega), hM _ _ (by omega) (by omega) (by omega), hf _ (by omega), hf _ (by omega)]; exact ⟨g1, g2⟩
  · by_cases z : q = p
    · subst z; exact hP
    · have j := hI.2.2.2.2.2 q hq
      exact RP_congr (r5 q hq) j.2.2.1.2 j.2.2.2.2.2.2.1.2 (fun o k h1 h2 => hM o k (by omega) (by omega) (by omega)) (fun w hw => hf _ (by omega))
/-- a number of THE BOOK itself -/
theorem putT {M : Mem} {g : Nat → Int32} {k j B v : Nat} (hk : (k = 1 ∧ j = 2 ∧ B = 100) ∨ (k = 2 ∧ j = 3 ∧ B = 99) ∨ (k = 3 ∧ j = 5 ∧ B = 20)) (h : RT 164 M g) (hI : IT g) (hv : v ≤ B) : RT 164 (upd2 M 164 k (nI v)) (upd g j (nI v)) ∧ IT (upd g j (nI v)) := by
  obtain ⟨r0, r1, r2, r3, r4, r5⟩ := h
  obtain ⟨i0, i1, i2, i3, i4, i5⟩ := hI
  have hX := i3.2
  have e : ∀ j', j' ≠ j → upd g j (nI v) j' = g j' := fun j' h => upd_n _ _ h
  have eX : nX (upd g j (nI v)) = nX g := by unfold nX; rw [e 6 (by omega)]
  have hP : ∀ p, p < 6 → ∀ w, w < 24 → fP (upd g j (nI v)) p w = fP g p w := fun p hp w hw => e _ (by omega)
  have eM : ∀ o k', o ≠ 164 ∨ k' ≠ k → upd2 M 164 k (nI v) o k' = M o k' := fun o k' h => by
    by_cases z : o = 164
    · subst z; exact u2k _ _ (by omega)
    · exact u2o _ _ z
  unfold RT IT
  rw [eX]
  refine ⟨⟨?_, ?_, ?_, ?_, fun i hi => ?_, fun p hp => ?_⟩, ?_, ?_, ?_, ?_, fun i hi => ?_, fun p hp => IP_congr (i5 p hp) (hP p hp)⟩
  · rcases hk with ⟨rfl, rfl, rfl⟩ | ⟨rfl, rfl, rfl⟩ | ⟨rfl, rfl, rfl⟩
    · rw [u2s, upd_s]
    · rw [eM _ _ (by decide), e _ (by decide)]; exact r0
    · rw [eM _ _ (by decide), e _ (by decide)]; exact r0
  · rcases hk with ⟨rfl, rfl, rfl⟩ | ⟨rfl, rfl, rfl⟩ | ⟨rfl, rfl, rfl⟩
    · rw [eM _ _ (by decide), e _ (by decide)]; exact r1
    · rw [u2s, upd_s]
    · rw [eM _ _ (by decide), e _ (by decide)]; exact r1
  · rcases hk with ⟨rfl, rfl, rfl⟩ | ⟨rfl, rfl, rfl⟩ | ⟨rfl, rfl, rfl⟩
    · rw [eM _ _ (by decide), e _ (by decide)]; exact r2
    · rw [eM _ _ (by decide), e _ (by decide)]; exact r2
    · rw [u2s, upd_s]
  · rw [eM _ _ (by omega), e _ (by omega)]; exact r3
  · rw [eM _ _ (by omega), eM _ _ (by omega), e _ (by omega), e _ (by omega)]; exact r4 i hi
  · have q := i5 p hp
    exact RP_congr (r5 p hp) q.2.2.1.2 q.2.2.2.2.2.2.1.2 (fun o k' h1 h2 => eM _ _ (by omega)) (hP p hp)
  · rcases hk with ⟨rfl, rfl, rfl⟩ | ⟨rfl, rfl, rfl⟩ | ⟨rfl, rfl, rfl⟩
    · rw [upd_s]; exact isN_of hv (by decide)
    · rw [e _ (by decide)]; exact i0
    · rw [e _ (by decide)]; exact i0
  · rcases hk with ⟨rfl, rfl, rfl⟩ | ⟨rfl, rfl, rfl⟩ | ⟨rfl, rfl, rfl⟩
    · rw [e _ (by decide)]; exact i1
    · rw [upd_s]; exact isN_of hv (by decide)
    · rw [e _ (by decide)]; exact i1
  · rcases hk with ⟨rfl, rfl, rfl⟩ | ⟨rfl, rfl, rfl⟩ | ⟨rfl, rfl, rfl⟩
    · rw [e _ (by decide)]; exact i2
    · rw [e _ (by decide)]; exact i2
    · rw [upd_s]; exact isN_of hv (by decide)
  · rw [e _ (by omega)]; exact i3
  · rw [e _ (by omega), e _ (by omega)]; exact i4 i hi
theorem fP_us {g : Nat → Int32} {p w : Nat} {v : Int32} : fP (upd g (20 + 24 * p + w) v) p w = v := upd_s _ _ _
theorem fP_un {g : Nat → Int32} {p w w' : Nat} {v : Int32} (h : w' ≠ w) : fP (upd g (20 + 24 * p + w) v) p w' = fP g p w' := upd_n _ _ (by omega)
/-- a number of a PLAN -/
theorem putP {M : Mem} {g : Nat → Int32} {p k w B v : Nat} (hp : p < 6) (hk : (k = 0 ∧ w = 0 ∧ B = 99999) ∨ (k = 1 ∧ w = 1 ∧ B = 9999) ∨ (k = 5 ∧ w = 3 ∧ B = 99) ∨ (k = 6 ∧ w = 4 ∧ B = 1) ∨ (k = 7 ∧ w = 5 ∧ B = 100)) (h : RT 164 M g) (hI : IT g) (hv : v ≤ B) : RT 164 (upd2 M (168 + 5 * p) k (nI v)) (upd g (20 + 24 * p + w) (nI v)) ∧ IT (upd g (20 + 24 * p + w) (nI v)) := by
  have hf : ∀ j, (j < 20 + 24 * p ∨ 44 + 24 * p ≤ j) → upd g (20 + 24 * p + w) (nI v) j = g j := fun j hj => upd_n _ _ (by omega)
  obtain ⟨i0, i1, i2, i3, i4, i5, i6, i7, i8, i9, i10⟩ := hI.2.2.2.2.2 p hp
  have hT2 := i2.2; have hK2 := i6.2
  have e2 : pT (upd g (20 + 24 * p + w) (nI v)) p = pT g p := by unfold pT; rw [fP_un (by omega)]
  have e14 : pK (upd g (20 + 24 * p + w) (nI v)) p = pK g p := by unfold pK; rw [fP_un (by omega)]
  have eB : ∀ i, pB (upd g (20 + 24 * p + w) (nI v)) p i = pB g p i := fun i => by unfold pB; rw [fP_un (by omega)]
  have eC : ∀ i, pC (upd g (20 + 24 * p + w) (nI v)) p i = pC g p i := fun i => by unfold pC; rw [fP_un (by omega)]
  have eS : ∀ i, pS (upd g (20 + 24 * p + w) (nI v)) p i = pS g p i := fun i => by unfold pS; rw [fP_un (by omega)]
  have eO : ∀ i, pO (upd g (20 + 24 * p + w) (nI v)) p i = pO g p i := fun i => by unfold pO; rw [fP_un (by omega)]
  have hIP : IP (upd g (20 + 24 * p + w) (nI v)) p := by
    unfold IP
    rw [e2, e14, fP_un (w' := 2) (by omega), fP_un (w' := 14) (by omega)]
    simp only [eB, eC, eS, eO]
    refine ⟨?_, ?_, i2, ?_, ?_, ?_, i6, fun i hi => by rw [fP_un (by omega), fP_un (by omega)]; exact i7 i hi, fun i hi => by rw [fP_un (by omega), fP_un (by omega)]; exact i8 i hi, i9, i10⟩
    · unfold pP
      by_cases z : w = 0
      · subst z; rw [fP_us]; exact isM_nI (by omega) (by decide)
      · rw [fP_un (by omega)]; exact i0
    · unfold pF
      by_cases z : w = 1
      · subst z; rw [fP_us]; exact isM_nI (by omega) (by decide)
      · rw [fP_un (by omega)]; exact i1
    · unfold pR
      by_cases z : w = 3
      · subst z; rw [fP_us]; exact isM_nI (by omega) (by decide)
      · rw [fP_un (by omega)]; exact i3
    · unfold pW
      by_cases z : w = 4
      · subst z; rw [fP_us]; exact isM_nI (by omega) (by decide)
      · rw [fP_un (by omega)]; exact i4
    · unfold pZ
      by_cases z : w = 5
      · subst z; rw [fP_us]; exact isM_nI (by omega) (by decide)
      · rw [fP_un (by omega)]; exact i5
  have hR := h.2.2.2.2.2 p hp
  rw [show 164 + 4 + 5 * p = 168 + 5 * p by omega] at hR
  obtain ⟨r0, r1, r2, r3, r4, r5, r6, r7, r8⟩ := hR
  have hRP : RP (168 + 5 * p) p (upd2 M (168 + 5 * p) k (nI v)) (upd g (20 + 24 * p + w) (nI v)) := by
    unfold RP
    rw [e2, e14]
    refine ⟨?_, ?_, ?_, ?_, ?_, ?_, ?_, fun i hi => by rw [fP_un (by omega), fP_un (by omega), u2o _ _ (by omega), u2o _ _ (by omega)]; exact r7 i hi, fun i hi => by rw [fP_un (by omega), fP_un (by omega), u2o _ _ (by omega), u2o _ _ (by omega)]; exact r8 i hi⟩
    · by_cases z : w = 0
      · have : k = 0 := by omega
        subst z; subst this; rw [fP_us, u2s]
      · rw [fP_un (by omega), u2k _ _ (by omega)]; exact r0
    · by_cases z : w = 1
      · have : k = 1 := by omega
        subst z; subst this; rw [fP_us, u2s]
      · rw [fP_un (by omega), u2k _ _ (by omega)]; exact r1
    · rw [fP_un (by omega), u2k _ _ (by omega)]; exact r2
    · by_cases z : w = 3
      · have : k = 5 := by omega
        subst z; subst this; rw [fP_us, u2s]
      · rw [fP_un (by omega), u2k _ _ (by omega)]; exact r3
    · by_cases z : w = 4
      · have : k = 6 := by omega
        subst z; subst this; rw [fP_us, u2s]
      · rw [fP_un (by omega), u2k _ _ (by omega)]; exact r4
    · by_cases z : w = 5
      · have : k = 7 := by omega
        subst z; subst this; rw [fP_us, u2s]
      · rw [fP_un (by omega), u2k _ _ (by omega)]; exact r5
    · rw [fP_un (by omega), u2k _ _ (by omega)]; exact r6
  exact ⟨RT_plan h hI hp (fun o k' h1 h2 h3 => u2o _ _ (by omega)) hf hRP, IT_plan hI hp hf hIP⟩
/-- a row of two numbers is added -/
def addM (oc kc a1 a2 m : Nat) (r s : Int32) (M : Mem) : Mem := upd2 (upd2 (upd2 M a1 m r) a2 m s) oc kc (nI (m + 1))
def addG (jc j1 j2 m : Nat) (r s : Int32) (g : Nat → Int32) : Nat → Int32 := upd (upd (upd g (j1 + m) r) (j2 + m) s) jc (nI (m + 1))
theorem add_tax {M : Mem} {g : Nat → Int32} {m b c : Nat} (h : RT 164 M g) (hI : IT g) (hm : nX g = m) (hm4 : m < 4) (hb : b ≤ 3652) (hc : c ≤ 100) : RT 164 (addM 164 4 166 167 m (nI b) (nI c) M) (addG 6 7 11 m (nI b) (nI c) g) ∧ IT (addG 6 7 11 m (nI b) (nI c) g) := by
  obtain ⟨r0, r1, r2, r3, r4, r5⟩ := h
  obtain ⟨i0, i1, i2, i3, i4, i5⟩ := hI
  have e : ∀ j, j ≠ 6 → j ≠ 7 + m → j ≠ 11 + m → addG 6 7 11 m (nI b) (nI c) g j = g j := fun j h1 h2 h3 => by
    unfold addG; rw [upd_n _ _ h1, upd_n _ _ h3, upd_n _ _ h2]
  have e6 : addG 6 7 11 m (nI b) (nI c) g 6 = nI (m + 1) := upd_s _ _ _
  have e7 : addG 6 7 11 m (nI b) (nI c) g (7 + m) = nI b := by unfold addG; rw [upd_n _ _ (by omega), upd_n _ _ (by omega), upd_s]
  have e11 : addG 6 7 11 m (nI b) (nI c) g (11 + m) = nI c := by unfold addG; rw [upd_n _ _ (by omega), upd_s]
  have eX : nX (addG 6 7 11 m (nI b) (nI c) g) = m + 1 := by unfold nX; rw [e6]; exact na_nI (by omega)
  have hP : ∀ p, p < 6 → ∀ w, w < 24 → fP (addG 6 7 11 m (nI b) (nI c) g) p w = fP g p w := fun p hp w hw => e _ (by omega) (by omega) (by omega)
  have eM : ∀ o k, o ≠ 166 → o ≠ 167 → (o = 164 → k ≠ 4) → addM 164 4 166 167 m (nI b) (nI c) M o k = M o k := fun o k h1 h2 h3 => by
    unfold addM
    by_cases z : o = 164
    · subst z; rw [u2k _ _ (h3 rfl), u2o _ _ h2, u2o _ _ h1]
    · rw [u2o _ _ z, u2o _ _ h2, u2o _ _ h1]
  refine ⟨?_, ?_⟩
  · unfold RT
    rw [eX]
    refine ⟨?_, ?_, ?_, ?_, fun i hi => ?_, fun p hp => ?_⟩
    · rw [eM _ _ (by decide) (by decide) (by decide), e _ (by decide) (by omega) (by omega)]; exact r0
    · rw [eM _ _ (by decide) (by decide) (by decide), e _ (by decide) (by omega) (by omega)]; exact r1
    · rw [eM _ _ (by decide) (by decide) (by decide), e _ (by decide) (by omega) (by omega)]; exact r2
    · rw [e6]; exact u2s _ _ _ _
    · have k166 : addM 164 4 166 167 m (nI b) (nI c) M 166 i = upd2 M 166 m (nI b) 166 i := by unfold addM; rw [u2o _ _ (by decide), u2o _ _ (by decide)]
      have k167 : addM 164 4 166 167 m (nI b) (nI c) M 167 i = upd2 (upd2 M 166 m (nI b)) 167 m (nI c) 167 i := by unfold addM; rw [u2o _ _ (by decide)]
      rw [show 164 + 2 = 166 from rfl, show 164 + 3 = 167 from rfl, k166, k167]
      by_cases z : i = m
      · subst z; rw [u2s, u2s, e7, e11]; exact ⟨rfl, rfl⟩
      · rw [u2k _ _ z, u2k _ _ z, u2o _ _ (by decide), e _ (by omega) (by omega) (by omega), e _ (by omega) (by omega) (by omega)]; exact r4 i (by omega)
    · have q := i5 p hp
      exact RP_congr (r5 p hp) q.2.2.1.2 q.2.2.2.2.2.2.1.2 (fun o k h1 h2 => eM _ _ (by omega) (by omega) (by omega)) (hP p hp)
  · unfold IT
    rw [eX, e 2 (by decide) (by omega) (by omega), e 3 (by decide) (by omega) (by omega), e 5 (by decide) (by omega) (by omega), e6]
    refine ⟨i0, i1, i2, ⟨rfl, by omega⟩, fun i hi => ?_, fun p hp => IP_congr (i5 p hp) (hP p hp)⟩
    by_cases z : i = m
    · subst z; rw [e7, e11]; exact ⟨isN_of hb (by decide), isN_of hc (by decide)⟩
    · rw [e _ (by omega) (by omega) (by omega), e _ (by omega) (by omega) (by omega)]; exact i4 i hi
theorem add_tier {M : Mem} {g : Nat → Int32} {p m b c : Nat} (hp : p < 6) (h : RT 164 M g) (hI : IT g) (hm : pT g p = m) (hm4 : m < 4) (hb1 : 1 ≤ b) (hb : b ≤ 9999) (hc : c ≤ 99) (hl : 0 < m → pB g p (m - 1) < b) :
    RT 164 (addM (168 + 5 * p) 2 (168 + 5 * p + 1) (168 + 5 * p + 2) m (nI b) (nI c) M) (addG (20 + 24 * p + 2) (20 + 24 * p + 6) (20 + 24 * p + 10) m (nI b) (nI c) g) ∧ IT (addG (20 + 24 * p + 2) (20 + 24 * p + 6) (20 + 24 * p + 10) m (nI b) (nI c) g) := by
  obtain ⟨g', hg'⟩ : ∃ g', g' = addG (20 + 24 * p + 2) (20 + 24 * p + 6) (20 + 24 * p + 10) m (nI b) (nI c) g := ⟨_, rfl⟩
  obtain ⟨M', hM'⟩ : ∃ M', M' = addM (168 + 5 * p) 2 (168 + 5 * p + 1) (168 + 5 * p + 2) m (nI b) (nI c) M := ⟨_, rfl⟩
  rw [← hg', ← hM']
  have hf : ∀ j, (j < 20 + 24 * p ∨ 44 + 24 * p ≤ j) → g' j = g j := fun j hj => by
    rw [hg']; unfold addG; rw [upd_n _ _ (by omega), upd_n _ _ (by omega), upd_n _ _ (by omega)]
  have e : ∀ w, w ≠ 2 → w ≠ 6 + m → w ≠ 10 + m → fP g' p w = fP g p w := fun w h1 h2 h3 => by
    rw [hg']; unfold addG fP; rw [upd_n _ _ (by omega), upd_n _ _ (by omega), upd_n _ _ (by omega)]
  have e2 : fP g' p 2 = nI (m + 1) := by rw [hg']; exact upd_s _ _ _
  have e6 : fP g' p (6 + m) = nI b := by
    rw [hg']; unfold addG fP; rw [upd_n _ _ (by omega), upd_n _ _ (by omega), show 20 + 24 * p + (6 + m) = 20 + 24 * p + 6 + m by omega, upd_s]
  have e10 : fP g' p (10 + m) = nI c := by
    rw [hg']; unfold addG fP; rw [upd_n _ _ (by omega), show 20 + 24 * p + (10 + m) = 20 + 24 * p + 10 + m by omega, upd_s]
  obtain ⟨i0, i1, i2, i3, i4, i5, i6, i7, i8, i9, i10⟩ := hI.2.2.2.2.2 p hp
  have hK2 := i6.2
  have eT : pT g' p = m + 1 := by unfold pT; rw [e2]; exact na_nI (by omega)
  have eK : pK g' p = pK g p := by unfold pK; rw [e 14 (by omega) (by omega) (by omega)]
  have eB : ∀ i, i < 4 → i ≠ m → pB g' p i = pB g p i := fun i hi h => by unfold pB; rw [e _ (by omega) (by omega) (by omega)]
  have eBm : pB g' p m = b := by unfold pB; rw [e6]; exact na_nI (by omega)
  have hIP : IP g' p := by
    unfold IP
    rw [eT, eK, e 0 (by omega) (by omega) (by omega), e 1 (by omega) (by omega) (by omega), e2, e 3 (by omega) (by omega) (by omega), e 4 (by omega) (by omega) (by omega), e 5 (by omega) (by omega) (by omega), e 14 (by omega) (by omega) (by omega)]
    refine ⟨?_, ?_, ⟨rfl, by omega⟩, ?_, ?_, ?_, i6, fun i hi => ?_, fun i hi => ?_, fun i hi => ?_, fun i hi => ?_⟩
    · unfold pP; rw [e 0 (by omega) (by omega) (by omega)]; exact i0
    · unfold pF; rw [e 1 (by omega) (by omega) (by omega)]; exact i1
    · unfold pR; rw [e 3 (by omega) (by omega) (by omega)]; exact i3
    · unfold pW; rw [e 4 (by omega) (by omega) (by omega)]; exact i4
    · unfold pZ; rw [e 5 (by omega) (by omega) (by omega)]; exact i5
    · by_cases z : i = m
      · subst z; unfold pB pC; rw [e6, e10]; exact ⟨isM_nI hb (by decide), isM_nI hc (by decide)⟩
      · unfold pB pC; rw [e _ (by omega) (by omega) (by omega), e _ (by omega) (by omega) (by omega)]; exact i7 i hi
    · unfold pS pO; rw [e _ (by omega) (by omega) (by omega), e _ (by omega) (by omega) (by omega)]; exact i8 i hi
    · by_cases z : i + 1 = m
      · rw [z, eBm, eB i (by omega) (by omega)]
        have := hl (by omega)
        rw [show m - 1 = i by omega] at this
        exact this
      · rw [eB i (by omega) (by omega), eB (i + 1) (by omega) (by omega)]; exact i9 i (by omega)
    · by_cases z : i = m
      · subst z; rw [eBm]; exact hb1
      · rw [eB i (by omega) z]; exact i10 i (by omega)
  have hR := h.2.2.2.2.2 p hp
  rw [show 164 + 4 + 5 * p = 168 + 5 * p by omega] at hR
  obtain ⟨r0, r1, r2, r3, r4, r5, r6, r7, r8⟩ := hR
  have eM : ∀ o k, o ≠ 168 + 5 * p + 1 → o ≠ 168 + 5 * p + 2 → (o = 168 + 5 * p → k ≠ 2) → M' o k = M o k := fun o k h1 h2 h3 => by
    rw [hM']; unfold addM
    by_cases z : o = 168 + 5 * p
    · subst z; rw [u2k _ _ (h3 rfl), u2o _ _ h2, u2o _ _ h1]
    · rw [u2o _ _ z, u2o _ _ h2, u2o _ _ h1]
  have hRP : RP (168 + 5 * p) p M' g' := by
    unfold RP
    rw [eT, eK, e 0 (by omega) (by omega) (by omega), e 1 (by omega) (by omega) (by omega), e2, e 3 (by omega) (by omega) (by omega), e 4 (by omega) (by omega) (by omega), e 5 (by omega) (by omega) (by omega), e 14 (by omega) (by omega) (by omega)]
    refine ⟨?_, ?_, ?_, ?_, ?_, ?_, ?_, fun i hi => ?_, fun i hi => ?_⟩
    · rw [eM _ _ (by omega) (by omega) (by omega)]; exact r0
    · rw [eM _ _ (by omega) (by omega) (by omega)]; exact r1
    · rw [hM']; exact u2s _ _ _ _
    · rw [eM _ _ (by omega) (by omega) (by omega)]; exact r3
    · rw [eM _ _ (by omega) (by omega) (by omega)]; exact r4
    · rw [eM _ _ (by omega) (by omega) (by omega)]; exact r5
    · rw [eM _ _ (by omega) (by omega) (by omega)]; exact r6
    · have k1 : M' (168 + 5 * p + 1) i = upd2 M (168 + 5 * p + 1) m (nI b) (168 + 5 * p + 1) i := by rw [hM']; unfold addM; rw [u2o _ _ (by omega), u2o _ _ (by omega)]
      have k2 : M' (168 + 5 * p + 2) i = upd2 (upd2 M (168 + 5 * p + 1) m (nI b)) (168 + 5 * p + 2) m (nI c) (168 + 5 * p + 2) i := by rw [hM']; unfold addM; rw [u2o _ _ (by omega)]
      rw [k1, k2]
      by_cases z : i = m
      · subst z; rw [u2s, u2s, e6, e10]; exact ⟨rfl, rfl⟩
      · rw [u2k _ _ z, u2k _ _ z, u2o _ _ (by omega), e _ (by omega) (by omega) (by omega), e _ (by omega) (by omega) (by omega)]; exact r7 i (by omega)
    · rw [eM _ _ (by omega) (by omega) (by omega), eM _ _ (by omega) (by omega) (by omega), e _ (by omega) (by omega) (by omega), e _ (by omega) (by omega) (by omega)]; exact r8 i hi
  exact ⟨RT_plan h hI hp (fun o k h1 h2 h3 => eM o k (by omega) (by omega) (by omega)) hf hRP, IT_plan hI hp hf hIP⟩
theorem add_bulk {M : Mem} {g : Nat → Int32} {p m b c : Nat} (hp : p < 6) (h : RT 164 M g) (hI : IT g) (hm : pK g p = m) (hm3 : m < 3) (hb : b ≤ 9) (hc : c ≤ 100) :
    RT 164 (addM (168 + 5 * p) 8 (168 + 5 * p + 3) (168 + 5 * p + 4) m (nI b) (nI c) M) (addG (20 + 24 * p + 14) (20 + 24 * p + 15) (20 + 24 * p + 18) m (nI b) (nI c) g) ∧ IT (addG (20 + 24 * p + 14) (20 + 24 * p + 15) (20 + 24 * p + 18) m (nI b) (nI c) g) := by
  obtain ⟨g', hg'⟩ : ∃ g', g' = addG (20 + 24 * p + 14) (20 + 24 * p + 15) (20 + 24 * p + 18) m (nI b) (nI c) g := ⟨_, rfl⟩
  obtain ⟨M', hM'⟩ : ∃ M', M' = addM (168 + 5 * p) 8 (168 + 5 * p + 3) (168 + 5 * p + 4) m (nI b) (nI c) M := ⟨_, rfl⟩
  rw [← hg', ← hM']
  have hf : ∀ j, (j < 20 + 24 * p ∨ 44 + 24 * p ≤ j) → g' j = g j := fun j hj => by
    rw [hg']; unfold addG; rw [upd_n _ _ (by omega), upd_n _ _ (by omega), upd_n _ _ (by omega)]
  have e : ∀ w, w ≠ 14 → w ≠ 15 + m → w ≠ 18 + m → fP g' p w = fP g p w := fun w h1 h2 h3 => by
    rw [hg']; unfold addG fP; rw [upd_n _ _ (by omega), upd_n _ _ (by omega), upd_n _ _ (by omega)]
  have e14 : fP g' p 14 = nI (m + 1) := by rw [hg']; exact upd_s _ _ _
  have e15 : fP g' p (15 + m) = nI b := by
    rw [hg']; unfold addG fP; rw [upd_n _ _ (by omega), upd_n _ _ (by omega), show 20 + 24 * p + (15 + m) = 20 + 24 * p + 15 + m by omega, upd_s]
  have e18 : fP g' p (18 + m) = nI c := by
    rw [hg']; unfold addG fP; rw [upd_n _ _ (by omega), show 20 + 24 * p + (18 + m) = 20 + 24 * p + 18 + m by omega, upd_s]
  obtain ⟨i0, i1, i2, i3, i4, i5, i6, i7, i8, i9, i10⟩ := hI.2.2.2.2.2 p hp
  have hT2 := i2.2
  have eK : pK g' p = m + 1 := by unfold pK; rw [e14]; exact na_nI (by omega)
  have eT : pT g' p = pT g p := by unfold pT; rw [e 2 (by omega) (by omega) (by omega)]
  have eB : ∀ i, i < 4 → pB g' p i = pB g p i := fun i hi => by unfold pB; rw [e _ (by omega) (by omega) (by omega)]
  have hIP : IP g' p := by
    unfold IP
    rw [eT, eK, e 0 (by omega) (by omega) (by omega), e 1 (by omega) (by omega) (by omega), e 2 (by omega) (by omega) (by omega), e 3 (by omega) (by omega) (by omega), e 4 (by omega) (by omega) (by omega), e 5 (by omega) (by omega) (by omega), e14]
    refine ⟨?_, ?_, i2, ?_, ?_, ?_, ⟨rfl, by omega⟩, fun i hi => ?_, fun i hi => ?_, fun i hi => ?_, fun i hi => ?_⟩
    · unfold pP; rw [e 0 (by omega) (by omega) (by omega)]; exact i0
    · unfold pF; rw [e 1 (by omega) (by omega) (by omega)]; exact i1
    · unfold pR; rw [e 3 (by omega) (by omega) (by omega)]; exact i3
    · unfold pW; rw [e 4 (by omega) (by omega) (by omega)]; exact i4
    · unfold pZ; rw [e 5 (by omega) (by omega) (by omega)]; exact i5
    · unfold pB pC; rw [e _ (by omega) (by omega) (by omega), e _ (by omega) (by omega) (by omega)]; exact i7 i hi
    · by_cases z : i = m
      · subst z; unfold pS pO; rw [e15, e18]; exact ⟨isM_nI hb (by decide), isM_nI hc (by decide)⟩
      · unfold pS pO; rw [e _ (by omega) (by omega) (by omega), e _ (by omega) (by omega) (by omega)]; exact i8 i hi
    · rw [eB i (by omega), eB (i + 1) (by omega)]; exact i9 i hi
    · rw [eB i (by omega)]; exact i10 i hi
  have hR := h.2.2.2.2.2 p hp
  rw [show 164 + 4 + 5 * p = 168 + 5 * p by omega] at hR
  obtain ⟨r0, r1, r2, r3, r4, r5, r6, r7, r8⟩ := hR
  have eM : ∀ o k, o ≠ 168 + 5 * p + 3 → o ≠ 168 + 5 * p + 4 → (o = 168 + 5 * p → k ≠ 8) → M' o k = M o k := fun o k h1 h2 h3 => by
    rw [hM']; unfold addM
    by_cases z : o = 168 + 5 * p
    · subst z; rw [u2k _ _ (h3 rfl), u2o _ _ h2, u2o _ _ h1]
    · rw [u2o _ _ z, u2o _ _ h2, u2o _ _ h1]
  have hRP : RP (168 + 5 * p) p M' g' := by
    unfold RP
    rw [eT, eK, e 0 (by omega) (by omega) (by omega), e 1 (by omega) (by omega) (by omega), e 2 (by omega) (by omega) (by omega), e 3 (by omega) (by omega) (by omega), e 4 (by omega) (by omega) (by omega), e 5 (by omega) (by omega) (by omega), e14]
    refine ⟨?_, ?_, ?_, ?_, ?_, ?_, ?_, fun i hi => ?_, fun i hi => ?_⟩
    · rw [eM _ _ (by omega) (by omega) (by omega)]; exact r0
    · rw [eM _ _ (by omega) (by omega) (by omega)]; exact r1
    · rw [eM _ _ (by omega) (by omega) (by omega)]; exact r2
    · rw [eM _ _ (by omega) (by omega) (by omega)]; exact r3
    · rw [eM _ _ (by omega) (by omega) (by omega)]; exact r4
    · rw [eM _ _ (by omega) (by omega) (by omega)]; exact r5
    · rw [hM']; exact u2s _ _ _ _
    · rw [eM _ _ (by omega) (by omega) (by omega), eM _ _ (by omega) (by omega) (by omega), e _ (by omega) (by omega) (by omega), e _ (by omega) (by omega) (by omega)]; exact r7 i hi
    · have k1 : M' (168 + 5 * p + 3) i = upd2 M (168 + 5 * p + 3) m (nI b) (168 + 5 * p + 3) i := by rw [hM']; unfold addM; rw [u2o _ _ (by omega), u2o _ _ (by omega)]
      have k2 : M' (168 + 5 * p + 4) i = upd2 (upd2 M (168 + 5 * p + 3) m (nI b)) (168 + 5 * p + 4) m (nI c) (168 + 5 * p + 4) i := by rw [hM']; unfold addM; rw [u2o _ _ (by omega)]
      rw [k1, k2]
      by_cases z : i = m
      · subst z; rw [u2s, u2s, e15, e18]; exact ⟨rfl, rfl⟩
      · rw [u2k _ _ z, u2k _ _ z, u2o _ _ (by omega), e _ (by omega) (by omega) (by omega), e _ (by omega) (by omega) (by omega)]; exact r8 i (by omega)
  exact ⟨RT_plan h hI hp (fun o k h1 h2 h3 => eM o k (by omega) (by omega) (by omega)) hf hRP, IT_plan hI hp hf hIP⟩
end
section
/-! parts of a CLAUSE, on both sides -/
def FB (M M' : Mem) : Prop := ∀ o k, (o < 164 ∨ 199 ≤ o ∨ (o = 164 ∧ k = 7) ∨ (o = 198 ∧ k = 1)) → M' o k = M o k
def GB (N N' : Mem) : Prop := ∀ o k, ¬ ((o = 207 ∧ (k = 5 ∨ k = 7 ∨ k = 8 ∨ k = 9 ∨ k = 10 ∨ k = 10 + HI)) ∨ o = 211) → N' o k = N o k
theorem FB.trans {M M1 M2 : Mem} (h1 : FB M M1) (h2 : FB M1 M2) : FB M M2 := fun o k h => (h2 o k h).trans (h1 o k h)
theorem GB.trans {M M1 M2 : Mem} (h1 : GB M M1) (h2 : GB M1 M2) : GB M M2 := fun o k h => (h2 o k h).trans (h1 o k h)
theorem FR.b {M M' : Mem} (h : FR 198 M M') : FB M M' := fun o k g => h o k (by omega)
theorem GR.b {N N' : Mem} (h : GR N N') : GB N N' := fun o k g => h o k (by omega)
theorem FB_up {M : Mem} {o k : Nat} {v : Int32} (h1 : 164 ≤ o) (h2 : o ≤ 197) (h3 : o = 164 → k ≠ 7) : FB M (upd2 M o k v) := fun o' k' g => by
  by_cases z : o' = o
  · subst z
    exact u2k _ _ (by
      intro e; subst e
      rcases g with g | g | g | g
      · omega
      · omega
      · exact h3 g.1 g.2
      · omega)
  · exact u2o _ _ z
theorem GB_up {N : Mem} {k : Nat} {v : Int32} : GB N (upd2 N 211 k v) := fun o' k' g => u2o _ _ (by omega)
theorem row211 {N : Mem} {k : Nat} {v : Int32} : upd2 N 211 k v 211 = upd (N 211) k v := by
  funext i; unfold upd2 upd; simp
theorem DR_fr {M M2 N N2 : Mem} (h : RT 164 M (N 211)) (hI : IT (N 211)) (h1 : FR 198 M M2) (h2 : GR N N2) : RT 164 M2 (N2 211) ∧ IT (N2 211) := by
  have e : N2 211 = N 211 := funext fun k => h2 211 k (Or.inl (by decide))
  rw [e]
  exact ⟨RT_congr h hI (fun o k a b => h1 o k (by omega)) (fun _ _ _ _ => rfl), hI⟩
def ClO (L : Nat) (M N : Mem) (mc : Option Mem) (mm : Option (Int32 × Mem)) : Prop :=
  (∃ q M' N', mc = some M' ∧ mm = some (1, N') ∧ RD 198 L q M' N' ∧ RT 164 M' (N' 211) ∧ IT (N' 211) ∧ FB M M' ∧ GB N N') ∨
  (∃ M' N', mc = some M' ∧ mm = some (0, N') ∧ FLT 198 M' N' ∧ FB M M' ∧ GB N N')
theorem ClO.pre {L : Nat} {M N M1 N1 : Mem} {mc : Option Mem} {mm : Option (Int32 × Mem)} (h : ClO L M1 N1 mc mm) (hM : FB M M1) (hN : GB N N1) : ClO L M N mc mm := by
  rcases h with ⟨q, M', N', a1, a2, a3, a4, a5, a6, a7⟩ | ⟨M', N', a1, a2, a3, a4, a5⟩
  · exact Or.inl ⟨q, M', N', a1, a2, a3, a4, a5, hM.trans a6, hN.trans a7⟩
  · exact Or.inr ⟨M', N', a1, a2, a3, hM.trans a4, hN.trans a5⟩
def KT (mm : Option (Int32 × Mem)) (j : Nat) : Option (Int32 × Mem) := (bnd mm fun r1 M2 => (if r1 = 0 then (some ((0 : Int32), M2)) else (bnd (mX11_keepsNumber (nI j) M2) fun r4 M5 => (if r4 = 0 then (some ((0 : Int32), M5)) else (some ((1 : Int32), M5))))))
theorem keep_ok {j : Nat} {M : Mem} (hj : j < 164) : mX11_keepsNumber (nI j) M = some (1, upd2 M 211 j (M 207 8)) := by
  unfold mX11_keepsNumber
  rw [chk_n hj (by decide), nI_clamp (by omega)]
/-- one NUMBER that is kept -/
theorem B_one {n L p hi o slot j : Nat} {M N : Mem} (hn : 20000 ≤ n) (ho1 : 164 ≤ o) (ho2 : o ≤ 197) (hos : o = 164 → slot ≠ 7) (hhi : hi ≤ 99999) (hj : j < 164)
    (put : ∀ (M : Mem) (g : Nat → Int32) (v : Nat), RT 164 M g → IT g → v ≤ hi → RT 164 (upd2 M o slot (nI v)) (upd g j (nI v)) ∧ IT (upd g j (nI v))) (h : RD 198 L p M N) (hT : RT 164 M (N 211)) (hI : IT (N 211)) :
    ClO L M N (bnd (mX8_number n 198 (nI 0) (nI hi) M) fun r5 M6 => some (upd2 M6 o slot r5)) (KT (numC n (nI 0) (nI hi) N) j) := by
  unfold KT
  rcases R_num (n := n) (lo := 0) (hi := hi) (by decide) (Nat.zero_le _) hhi hn h with ⟨v, q, M2, N2, c1, c2, c3, c4, c5, c6, c7, c8, c9⟩ | ⟨r, M2, N2, c1, c2, c3, c4, c5⟩
  · obtain ⟨t1, t2⟩ := DR_fr hT hI c8 c9
    obtain ⟨p1, p2⟩ := put M2 _ v t1 t2 c5
    rw [c1, c2]
    simp only [bnd_some]
    rw [if_neg (show ¬ (1 : Int32) = 0 by decide), keep_ok hj, c3]
    simp only [bnd_some]
    rw [if_neg (show ¬ (1 : Int32) = 0 by decide)]
    exact Or.inl ⟨q, _, _, rfl, rfl, RD_N (RD_M c7 (by omega) (by omega)) (Or.inl (by decide)) (by decide), by rw [row211]; exact p1, by rw [row211]; exact p2, c8.b.trans (FB_up ho1 ho2 hos), c9.b.trans GB_up⟩
  · rw [c1, c2]
    simp only [bnd_some]
    rw [if_pos trivial]
    exact Or.inr ⟨_, _, rfl, rfl, FLT_M c3 (by omega), c4.b.trans (FB_up ho1 ho2 hos), c5.b⟩
/-- a row of two NUMBERS that is added -/
theorem B_list {n L p many oc kc a1 a2 jc j1 j2 lo1 hi1 hi2 : Nat} {M N : Mem} {isA : Int32 → Mem → Option Int32} {add : Int32 → Int32 → Mem → Option Mem} {c79 : Mem → Option (Int32 × Mem)} (hn : 20000 ≤ n)
    (hlo : lo1 ≤ hi1) (hhi1 : hi1 ≤ 99999) (hhi2 : hi2 ≤ 99999) (hm : many ≤ 3) (o1 : 164 ≤ oc ∧ oc ≤ 197 ∧ (oc = 164 → kc ≠ 7)) (o2 : 164 < a1 ∧ a1 ≤ 197) (o3 : 164 < a2 ∧ a2 ≤ 197) (hj1 : j1 + 3 < 164) (hj2 : j2 + 3 < 164) (hjc : jc < 164)
    (hisA : ∀ r M', M' oc kc = nI many → (∀ k, M' a1 k = M a1 k) → isA r M' = some (if many = 0 then 1 else if r ≤ M a1 (many - 1) then 0 else 1))
    (hlast : 0 < many → M a1 (many - 1) = N 211 (j1 + (many - 1)))
    (hadd : ∀ r s M', M' oc kc = nI many → add r s M' = some (addM oc kc a1 a2 many r s M'))
    (hcnt : M oc kc = nI many)
    (hfin : ∀ (M' : Mem) (b c : Nat), RT 164 M' (N 211) → lo1 ≤ b → b ≤ hi1 → c ≤ hi2 → (0 < many → M a1 (many - 1) < nI b) → RT 164 (addM oc kc a1 a2 many (nI b) (nI c) M') (addG jc j1 j2 many (nI b) (nI c) (N 211)) ∧ IT (addG jc j1 j2 many (nI b) (nI c) (N 211)))
    (hc79 : ∀ M6, c79 M6 = chk (nI (j1 + many)) 164 (bnd (mX11_readsNumber n (nI 0) (nI hi2) (upd2 M6 211 (j1 + many) (M6 207 8))) fun r1 M2 => (if r1 = 0 then (some ((0 : Int32), M2)) else (some ((1 : Int32), upd2 (upd2 M2 211 (j2 + many) (M2 207 8)) 211 jc (nI (many + 1)))))))
    (h : RD 198 L p M N) (hT : RT 164 M (N 211)) (hI : IT (N 211)) :
    ClO L M N (bnd (mX8_number n 198 (nI lo1) (nI hi1) M) fun r1 M2 => (bnp (isA r1 M2) fun r3 => (if r3 = 0 then (bnp (mX8_mark 198 (6 : Int32) (M 198 2) M2) fun M12 => (bnp (mX8_blank 198 M12) fun M14 => (bnd (mX8_number n 198 (nI 0) (nI hi2) M14) fun r15 M16 => (add r1 r15 M16)))) else (bnp (mX8_blank 198 M2) fun M6 => (bnd (mX8_number n 198 (nI 0) (nI hi2) M6) fun r7 M8 => (add r1 r7 M8))))))
      (bnd (numC n (nI lo1) (nI hi1) N) fun r5 M6 => (if r5 = 0 then (some ((0 : Int32), M6)) else (if nI many ≤ 0 then c79 M6 else (chk (nI (j1 + many) - 1) 164 (if (M6 211 (Int32.toNatClampNeg (nI (j1 + many) - 1))) < (M6 207 8) then c79 M6 else (bnd (mX11_wrongAt (6 : Int32) (nI p) M6) fun r8 M9 => (some (r8, M9)))))))) := by
  have hp : M 198 2 = nI p := h.2.2.2.1
  have hpL : p ≤ 200 := by have := h.1; have := h.2.1; omega
  have fbA : ∀ (r s : Int32) (M' : Mem), FB M' (addM oc kc a1 a2 many r s M') := fun r s M' => by
    unfold addM
    exact ((FB_up (by omega) (by omega) (by omega)).trans (FB_up (by omega) (by omega) (by omega))).trans (FB_up o1.1 o1.2.1 o1.2.2)
  have flA : ∀ (r s : Int32) (M' N' : Mem), FLT 198 M' N' → FLT 198 (addM oc kc a1 a2 many r s M') N' := fun r s M' N' g => FLT_M (FLT_M (FLT_M g (by omega)) (by omega)) (by omega)
  rw [hp]
  rcases R_num (n := n) (lo := lo1) (hi := hi1) (by decide) hlo hhi1 hn h with ⟨b, q, M2, N2, c1, c2, c3, c4, c5, c6, c7, c8, c9⟩ | ⟨r, M2, N2, c1, c2, c3, c4, c5⟩
  · have k1 : M2 oc kc = nI many := by rw [c8 oc kc (by omega)]; exact hcnt
    have k2 : ∀ k, M2 a1 k = M a1 k := fun k => c8 a1 k (by omega)
    have e211 : N2 211 = N 211 := funext fun k => c9 211 k (Or.inl (by decide))
    rw [c1, c2]
    simp only [bnd_some]
    rw [hisA _ _ k1 k2, if_neg (show ¬ (1 : Int32) = 0 by decide), c3, e211]
    simp only [bnp_some]
    -- above all that stand there
    have above : (0 < many → M a1 (many - 1) < nI b) → ClO L M N (bnp (mX8_blank 198 M2) fun M6 => (bnd (mX8_number n 198 (nI 0) (nI hi2) M6) fun r7 M8 => (add (nI b) r7 M8))) (c79 N2) := by
      intro hab
      rw [hc79, chk_n (show j1 + many < 164 by omega) (by decide), c3]
      have hR2 : RD 198 L q M2 (upd2 N2 211 (j1 + many) (nI b)) := RD_N c7 (Or.inl (by decide)) (by decide)
      rcases P_num (n := n) (lo := 0) (hi := hi2) (by decide) (Nat.zero_le _) hhi2 hn hR2 with ⟨v, q', M3, M4, N4, v1, v2, b1, b2, b3, b4, b5, b6, b7⟩ | ⟨r, M3, M4, N4, b1, b2, b3, b4, b5, b6⟩
      · have k3 : M4 oc kc = nI many := by rw [b6 oc kc (by omega)]; exact k1
        rw [b1, b3]
        simp only [bnp_some, bnd_some]
        rw [b2, if_neg (show ¬ (1 : Int32) = 0 by decide), b4]
        simp only [bnd_some]
        rw [hadd _ _ _ k3]
        have t1 : RT 164 M4 (N 211) := RT_congr hT hI (fun o k x y => by rw [b6 o k (by omega), c8 o k (by omega)]) (fun _ _ _ _ => rfl)
        obtain ⟨f1, f2⟩ := hfin M4 b v t1 c4 c5 v2 hab
        have e4 : N4 211 = upd (N 211) (j1 + many) (nI b) := by
          have : N4 211 = upd2 N2 211 (j1 + many) (nI b) 211 := funext fun k => b7 211 k (Or.inl (by decide))
          rw [this, row211, e211]
        have e5 : upd2 (upd2 N4 211 (j2 + many) (nI v)) 211 jc (nI (many + 1)) 211 = addG jc j1 j2 many (nI b) (nI v) (N 211) := by
          rw [row211, row211, e4]; rfl
        refine Or.inl ⟨q', _, _, rfl, rfl, ?_, by rw [e5]; exact f1, by rw [e5]; exact f2, (c8.b.trans b6.b).trans (fbA _ _ _), ((c9.b.trans GB_up).trans b7.b).trans (GB_up.trans GB_up)⟩
        exact RD_N (RD_N (RD_M (RD_M (RD_M b5 (by omega) (by omega)) (by omega) (by omega)) (by omega) (by omega)) (Or.inl (by decide)) (by decide)) (Or.inl (by decide)) (by decide)
      · have k3 : M4 oc kc = nI many := by rw [b5 oc kc (by omega)]; exact k1
        rw [b1, b3]
        simp only [bnp_some, bnd_some]
        rw [b2, if_pos trivial]
        simp only [bnd_some]
        rw [hadd _ _ _ k3]
        exact Or.inr ⟨_, _, rfl, rfl, flA _ _ _ _ b4, (c8.b.trans b5.b).trans (fbA _ _ _), (c9.b.trans GB_up).trans b6.b⟩
    rcases Nat.eq_zero_or_pos many with z | z
    · rw [if_pos z, if_neg (show ¬ (1 : Int32) = 0 by decide), if_pos (show nI many ≤ 0 by rw [z]; decide)]
      exact above (fun g => by omega)
    · have hidx : nI (j1 + many) - 1 = nI (j1 + (many - 1)) := by
        rw [show (1 : Int32) = nI 1 from rfl, pk_sub (by omega)]; congr 1; omega
      rw [if_neg (show ¬ many = 0 by omega), if_neg (show ¬ nI many ≤ 0 by rw [show (0 : Int32) = nI 0 from rfl, nI_leI (by omega) (by omega)]; omega), hidx, chk_n (show j1 + (many - 1) < 164 by omega) (by decide), nI_clamp (by omega), ← hlast z]
      by_cases g : nI b ≤ M a1 (many - 1)
      · rw [if_pos g, if_pos rfl, if_neg (Int32.not_lt.mpr g)]
        obtain ⟨f1, f2, f3⟩ := RD_fault (c := 6) (at' := p) c7 (by decide) (by decide) hpL
        have hne := FLT_ne f1
        rw [show mX8_mark 198 (6 : Int32) (nI p) M2 = _ from mark_ok (c := 6) c7.2.2.2.2.1]
        simp only [bnp_some]
        rw [blank_no hne]
        simp only [bnp_some]
        rw [number_no hne]
        simp only [bnd_some]
        rw [hadd _ _ _ (by rw [u2o _ _ (by omega), u2o _ _ (by omega)]; exact k1)]
        unfold mX11_wrongAt
        simp only [bnd_some]
        exact Or.inr ⟨_, _, rfl, rfl, flA _ _ _ _ f1, (c8.b.trans f2.b).trans (fbA _ _ _), c9.b.trans f3.b⟩
      · rw [if_neg g, if_neg (show ¬ (1 : Int32) = 0 by decide), if_pos (Int32.not_le.mp g)]
        exact above (fun _ => Int32.not_le.mp g)
  · have k1 : M2 oc kc = nI many := by rw [c4 oc kc (by omega)]; exact hcnt
    have k2 : ∀ k, M2 a1 k = M a1 k := fun k => c4 a1 k (by omega)
    have hne := FLT_ne c3
    rw [c1, c2]
    simp only [bnd_some]
    rw [hisA _ _ k1 k2, if_pos trivial, mark_no hne]
    simp only [bnp_some]
    rw [blank_no hne]
    simp only [bnp_some]
    rw [number_no hne]
    simp only [bnd_some]
    rw [hadd _ _ _ k1]
    refine Or.inr ⟨addM oc kc a1 a2 many r (nI 0) M2, N2, ?_, rfl, flA _ _ _ _ c3, c4.b.trans (fbA _ _ _), c5.b⟩
    simp only [ite_self]
end
section
/-! what follows each word of a CLAUSE -/
theorem c_isT {t : Nat} {M M' : Mem} {many : Nat} (hm : many ≤ 3) (r : Int32) (h1 : M' t 4 = nI many) (h2 : ∀ k, M' (t + 2) k = M (t + 2) k) : mX9_isAboveTaxes t r M' = some (if many = 0 then 1 else if r ≤ M (t + 2) (many - 1) then 0 else 1) := by
  unfold mX9_isAboveTaxes
  rw [h1]
  by_cases z : many = 0
  · subst z; rfl
  · rw [if_neg z, if_neg (show ¬ nI many < (1 : Int32) by rw [show (1 : Int32) = nI 1 from rfl, nI_ltI (by omega) (by omega)]; omega), if_neg (show ¬ (4 : Int32) < nI many by rw [show (4 : Int32) = nI 4 from rfl, nI_ltI (by omega) (by omega)]; omega), show nI many - (1 : Int32) = nI (many - 1) by rw [show (1 : Int32) = nI 1 from rfl]; exact pk_sub (by omega), chk_n (show many - 1 < 4 by omega) (by decide), nI_clamp (by omega), h2]
    split <;> rfl
theorem c_isB {t : Nat} {M M' : Mem} {many : Nat} (hm : many ≤ 3) (r : Int32) (h1 : M' t 2 = nI many) (h2 : ∀ k, M' (t + 1) k = M (t + 1) k) : mX7_isAboveBounds t r M' = some (if many = 0 then 1 else if r ≤ M (t + 1) (many - 1) then 0 else 1) := by
  unfold mX7_isAboveBounds
  rw [h1]
  by_cases z : many = 0
  · subst z; rfl
  · rw [if_neg z, if_neg (show ¬ nI many < (1 : Int32) by rw [show (1 : Int32) = nI 1 from rfl, nI_ltI (by omega) (by omega)]; omega), if_neg (show ¬ (4 : Int32) < nI many by rw [show (4 : Int32) = nI 4 from rfl, nI_ltI (by omega) (by omega)]; omega), show nI many - (1 : Int32) = nI (many - 1) by rw [show (1 : Int32) = nI 1 from rfl]; exact pk_sub (by omega), chk_n (show many - 1 < 4 by omega) (by decide), nI_clamp (by omega), h2]
    split <;> rfl
theorem c_isU {t : Nat} {M M' : Mem} {many : Nat} (hm : many ≤ 2) (r : Int32) (h1 : M' t 8 = nI many) (h2 : ∀ k, M' (t + 3) k = M (t + 3) k) : mX7_isAboveBulks t r M' = some (if many = 0 then 1 else if r ≤ M (t + 3) (many - 1) then 0 else 1) := by
  unfold mX7_isAboveBulks
  rw [h1]
  by_cases z : many = 0
  · subst z; rfl
  · rw [if_neg z, if_neg (show ¬ nI many < (1 : Int32) by rw [show (1 : Int32) = nI 1 from rfl, nI_ltI (by omega) (by omega)]; omega), if_neg (show ¬ (3 : Int32) < nI many by rw [show (3 : Int32) = nI 3 from rfl, nI_ltI (by omega) (by omega)]; omega), show nI many - (1 : Int32) = nI (many - 1) by rw [show (1 : Int32) = nI 1 from rfl]; exact pk_sub (by omega), chk_n (show many - 1 < 3 by omega) (by decide), nI_clamp (by omega), h2]
    split <;> rfl
theorem c_addT {t many : Nat} {M : Mem} (hm : many ≤ 3) (r s : Int32) (h1 : M t 4 = nI many) : mX9_addTax t r s M = some (addM t 4 (t + 2) (t + 3) many r s M) := by
  have e : ∀ v, upd2 M (t + 2) many v t 4 = nI many := fun v => (u2o _ _ (by omega)).trans h1
  unfold mX9_addTax addM
  rw [h1, if_neg (nI_pos (by omega)), if_neg (show ¬ (4 : Int32) ≤ nI many by rw [show (4 : Int32) = nI 4 from rfl, nI_leI (by omega) (by omega)]; omega), nI_clamp (by omega), e, chk_n (show many < 4 by omega) (by decide), chk_n (show many < 4 by omega) (by decide), nI_clamp (by omega)]
  simp only [lt_eq]
  rw [u2o _ _ (show t ≠ t + 3 by omega), e, show (1 : Int32) = nI 1 from rfl, nI_add]
theorem c_addB {t many : Nat} {M : Mem} (hm : many ≤ 3) (r s : Int32) (h1 : M t 2 = nI many) : mX7_addTier t r s M = some (addM t 2 (t + 1) (t + 2) many r s M) := by
  have e : ∀ v, upd2 M (t + 1) many v t 2 = nI many := fun v => (u2o _ _ (by omega)).trans h1
  unfold mX7_addTier addM
  rw [h1, if_neg (nI_pos (by omega)), if_neg (show ¬ (4 : Int32) ≤ nI many by rw [show (4 : Int32) = nI 4 from rfl, nI_leI (by omega) (by omega)]; omega), nI_clamp (by omega), e, chk_n (show many < 4 by omega) (by decide), chk_n (show many < 4 by omega) (by decide), nI_clamp (by omega)]
  simp only [lt_eq]
  rw [u2o _ _ (show t ≠ t + 2 by omega), e, show (1 : Int32) = nI 1 from rfl, nI_add]
theorem c_addU {t many : Nat} {M : Mem} (hm : many ≤ 2) (r s : Int32) (h1 : M t 8 = nI many) : mX7_addBulk t r s M = some (addM t 8 (t + 3) (t + 4) many r s M) := by
  have e : ∀ v, upd2 M (t + 3) many v t 8 = nI many := fun v => (u2o _ _ (by omega)).trans h1
  unfold mX7_addBulk addM
  rw [h1, if_neg (nI_pos (by omega)), if_neg (show ¬ (3 : Int32) ≤ nI many by rw [show (3 : Int32) = nI 3 from rfl, nI_leI (by omega) (by omega)]; omega), nI_clamp (by omega), e, chk_n (show many < 3 by omega) (by decide), chk_n (show many < 3 by omega) (by decide), nI_clamp (by omega)]
  simp only [lt_eq]
  rw [u2o _ _ (show t ≠ t + 4 by omega), e, show (1 : Int32) = nI 1 from rfl, nI_add]
/-- TAX behind its blank -/
theorem B_tax {n L p many : Nat} {M N N0 : Mem} (hn : 20000 ≤ n) (hmx : many ≤ 3) (hX : nX (N 211) = many) (h6 : N0 211 6 = nI many) (h5 : N0 207 5 + 1 = nI p) (h : RD 198 L p M N) (hT : RT 164 M (N 211)) (hI : IT (N 211)) :
    ClO L M N (mX2_readTax n M) (bnd (numC n (0 : Int32) (3652 : Int32) N) fun r5 M6 => (if r5 = 0 then (some ((0 : Int32), M6)) else (if (N0 211 (Int32.toNatClampNeg (6 : Int32))) ≤ 0 then (mX11_readsTax_c74 n (N0 211 (Int32.toNatClampNeg (6 : Int32))) M6) else (chk (((7 : Int32) + (N0 211 (Int32.toNatClampNeg (6 : Int32)))) - (1 : Int32)) 164 (if (M6 211 (Int32.toNatClampNeg (((7 : Int32) + (N0 211 (Int32.toNatClampNeg (6 : Int32)))) - (1 : Int32)))) < (M6 207 8) then (mX11_readsTax_c74 n (N0 211 (Int32.toNatClampNeg (6 : Int32))) M6) else (bnd (mX11_wrongAt (6 : Int32) ((N0 207 5) + (1 : Int32)) M6) fun r8 M9 => (some (r8, M9)))))))) := by
  have hcnt : M 164 4 = nI many := by rw [hT.2.2.2.1, hI.2.2.2.1.1, hX]
  rw [show Int32.toNatClampNeg (6 : Int32) = 6 from rfl, h6, h5, show (7 : Int32) + nI many = nI (7 + many) from nI_add .., nI_lit 3652, show (0 : Int32) = nI 0 from rfl]
  have := B_list (n := n) (p := p) (many := many) (oc := 164) (kc := 4) (a1 := 166) (a2 := 167) (jc := 6) (j1 := 7) (j2 := 11) (lo1 := 0) (hi1 := 3652) (hi2 := 100) (isA := mX9_isAboveTaxes 164) (add := mX9_addTax 164) (c79 := mX11_readsTax_c74 n (nI many)) (L := L) (M := M) (N := N) hn (by decide) (by decide) (by decide) hmx (by decide) (by decide) (by decide) (by decide) (by decide) (by decide)
    (fun r M' g1 g2 => c_isT hmx r g1 g2) (fun g => (hT.2.2.2.2.1 (many - 1) (by omega)).1) (fun r s M' g => c_addT hmx r s g) hcnt
    (fun M' b c g1 g2 g3 g4 g5 => add_tax g1 hI hX (by omega) g3 g4)
    (fun M6 => by
      unfold mX11_readsTax_c74
      rw [show (7 : Int32) + nI many = nI (7 + many) from nI_add .., show (11 : Int32) + nI many = nI (11 + many) from nI_add .., nI_clamp (by omega), nI_clamp (by omega), show nI many + (1 : Int32) = nI (many + 1) from nI_add .., chk_n (show 7 + many < 164 by omega) (by decide), chk_n (show 7 + many < 164 by omega) (by decide)]
      have ck : ∀ (i : Nat) (y : Option (Int32 × Mem)), i < 164 → chk (nI i) 164 y = y := fun i y hi => chk_n hi (by decide)
      simp only [lt_eq, ck _ _ (show 11 + many < 164 by omega), show (6 : Int32) = nI 6 from rfl, ck _ _ (show 6 < 164 by decide), nI_clamp (show 6 < 2 ^ 31 by decide)]
      rfl) h hT hI
  unfold mX2_readTax
  rw [nI_lit 3652, show (0 : Int32) = nI 0 from rfl, show (100 : Int32) = nI 100 from rfl]
  simp only [bnp_id]
  exact this
end
section
/-! CLAUSES of a PLAN -/
theorem ckD {i : Nat} {y : Option (Int32 × Mem)} (hi : i < 164) : chk (nI i) 164 y = y := chk_n hi (by decide)
theorem RP_at {M : Mem} {g : Nat → Int32} {v : Nat} (h : RT 164 M g) (hv : v < 6) : RP (168 + 5 * v) v M g := by
  have := h.2.2.2.2.2 v hv
  rw [show 164 + 4 + 5 * v = 168 + 5 * v by omega] at this
  exact this
theorem B_tier {n L p v many : Nat} {M N N0 : Mem} (hn : 20000 ≤ n) (hv : v < 6) (hmx : many ≤ 3) (hX : pT (N 211) v = many) (h6 : N0 211 (20 + 24 * v + 2) = nI many) (h5 : N0 207 5 + 1 = nI p) (h : RD 198 L p M N) (hT : RT 164 M (N 211)) (hI : IT (N 211)) :
    ClO L M N (mX2_readTier n (168 + 5 * v) M) (bnd (numC n (1 : Int32) (9999 : Int32) N) fun r5 M6 => (if r5 = 0 then (some ((0 : Int32), M6)) else (if (N0 211 (Int32.toNatClampNeg ((nI (20 + 24 * v)) + (2 : Int32)))) ≤ 0 then (mX11_readsTier_c79 n (nI (20 + 24 * v)) (N0 211 (Int32.toNatClampNeg ((nI (20 + 24 * v)) + (2 : Int32)))) M6) else (chk ((((nI (20 + 24 * v)) + (6 : Int32)) + (N0 211 (Int32.toNatClampNeg ((nI (20 + 24 * v)) + (2 : Int32))))) - (1 : Int32)) 164 (if (M6 211 (Int32.toNatClampNeg ((((nI (20 + 24 * v)) + (6 : Int32)) + (N0 211 (Int32.toNatClampNeg ((nI (20 + 24 * v)) + (2 : Int32))))) - (1 : Int32)))) < (M6 207 8) then (mX11_readsTier_c79 n (nI (20 + 24 * v)) (N0 211 (Int32.toNatClampNeg ((nI (20 + 24 * v)) + (2 : Int32)))) M6) else (bnd (mX11_wrongAt (6 : Int32) ((N0 207 5) + (1 : Int32)) M6) fun r8 M9 => (some (r8, M9)))))))) := by
  have hRP := RP_at hT hv
  have hIP := hI.2.2.2.2.2 v hv
  have hcnt : M (168 + 5 * v) 2 = nI many := by rw [hRP.2.2.1, hIP.2.2.1.1, hX]
  rw [show (nI (20 + 24 * v)) + (2 : Int32) = nI (20 + 24 * v + 2) from nI_add .., show (nI (20 + 24 * v)) + (6 : Int32) = nI (20 + 24 * v + 6) from nI_add .., nI_clamp (show 20 + 24 * v + 2 < 2 ^ 31 by omega), h6, h5, show nI (20 + 24 * v + 6) + nI many = nI (20 + 24 * v + 6 + many) from nI_add .., nI_lit 9999, show (1 : Int32) = nI 1 from rfl]
  have := B_list (n := n) (p := p) (many := many) (oc := 168 + 5 * v) (kc := 2) (a1 := 168 + 5 * v + 1) (a2 := 168 + 5 * v + 2) (jc := 20 + 24 * v + 2) (j1 := 20 + 24 * v + 6) (j2 := 20 + 24 * v + 10) (lo1 := 1) (hi1 := 9999) (hi2 := 99) (isA := mX7_isAboveBounds (168 + 5 * v)) (add := mX7_addTier (168 + 5 * v)) (c79 := mX11_readsTier_c79 n (nI (20 + 24 * v)) (nI many)) (L := L) (M := M) (N := N) hn (by decide) (by decide) (by decide) hmx ⟨by omega, by omega, fun _ => by decide⟩ (by omega) (by omega) (by omega) (by omega) (by omega)
    (fun r M' g1 g2 => c_isB hmx r g1 g2) (fun g => by
      have := (hRP.2.2.2.2.2.2.2.1 (many - 1) (by omega)).1
      rw [this]; unfold fP; congr 1; omega) (fun r s M' g => c_addB hmx r s g) hcnt
    (fun M' b c g1 g2 g3 g4 g5 => add_tier hv g1 hI hX (by omega) g2 g3 g4 (fun z => by
      have a := g5 z
      have b1 := (hRP.2.2.2.2.2.2.2.1 (many - 1) (by omega)).1
      have b2 := (hIP.2.2.2.2.2.2.2.1 (many - 1) (by omega)).1
      rw [b1, b2.1, nI_ltI (by have := b2.2; omega) (by omega)] at a
      exact a))
    (fun M6 => by
      unfold mX11_readsTier_c79
      rw [show (nI (20 + 24 * v)) + (2 : Int32) = nI (20 + 24 * v + 2) from nI_add .., show (nI (20 + 24 * v)) + (6 : Int32) = nI (20 + 24 * v + 6) from nI_add .., show (nI (20 + 24 * v)) + (10 : Int32) = nI (20 + 24 * v + 10) from nI_add .., show nI (20 + 24 * v + 6) + nI many = nI (20 + 24 * v + 6 + many) from nI_add .., show nI (20 + 24 * v + 10) + nI many = nI (20 + 24 * v + 10 + many) from nI_add .., nI_clamp (show 20 + 24 * v + 6 + many < 2 ^ 31 by omega), nI_clamp (show 20 + 24 * v + 10 + many < 2 ^ 31 by omega), nI_clamp (show 20 + 24 * v + 2 < 2 ^ 31 by omega), show nI many + (1 : Int32) = nI (many + 1) from nI_add .., ckD (show 20 + 24 * v + 6 + many < 164 by omega), ckD (show 20 + 24 * v + 6 + many < 164 by omega)]
      simp only [lt_eq, ckD (show 20 + 24 * v + 10 + many < 164 by omega), ckD (show 20 + 24 * v + 2 < 164 by omega)]
      rfl) h hT hI
  unfold mX2_readTier
  rw [nI_lit 9999, show (1 : Int32) = nI 1 from rfl, show (0 : Int32) = nI 0 from rfl, show (99 : Int32) = nI 99 from rfl]
  simp only [bnp_id]
  exact this
theorem B_bulk {n L p v many : Nat} {M N N0 : Mem} (hn : 20000 ≤ n) (hv : v < 6) (hmx : many ≤ 2) (hX : pK (N 211) v = many) (h6 : N0 211 (20 + 24 * v + 14) = nI many) (h5 : N0 207 5 + 1 = nI p) (h : RD 198 L p M N) (hT : RT 164 M (N 211)) (hI : IT (N 211)) :
    ClO L M N (mX2_readBulk n (168 + 5 * v) M) (bnd (numC n (2 : Int32) (9 : Int32) N) fun r5 M6 => (if r5 = 0 then (some ((0 : Int32), M6)) else (if (N0 211 (Int32.toNatClampNeg ((nI (20 + 24 * v)) + (14 : Int32)))) ≤ 0 then (mX11_readsBulk_c79 n (nI (20 + 24 * v)) (N0 211 (Int32.toNatClampNeg ((nI (20 + 24 * v)) + (14 : Int32)))) M6) else (chk ((((nI (20 + 24 * v)) + (15 : Int32)) + (N0 211 (Int32.toNatClampNeg ((nI (20 + 24 * v)) + (14 : Int32))))) - (1 : Int32)) 164 (if (M6 211 (Int32.toNatClampNeg ((((nI (20 + 24 * v)) + (15 : Int32)) + (N0 211 (Int32.toNatClampNeg ((nI (20 + 24 * v)) + (14 : Int32))))) - (1 : Int32)))) < (M6 207 8) then (mX11_readsBulk_c79 n (nI (20 + 24 * v)) (N0 211 (Int32.toNatClampNeg ((nI (20 + 24 * v)) + (14 : Int32)))) M6) else (bnd (mX11_wrongAt (6 : Int32) ((N0 207 5) + (1 : Int32)) M6) fun r8 M9 => (some (r8, M9)))))))) := by
  have hRP := RP_at hT hv
  have hIP := hI.2.2.2.2.2 v hv
  have hcnt : M (168 + 5 * v) 8 = nI many := by rw [hRP.2.2.2.2.2.2.1, hIP.2.2.2.2.2.2.1.1, hX]
  rw [show (nI (20 + 24 * v)) + (14 : Int32) = nI (20 + 24 * v + 14) from nI_add .., show (nI (20 + 24 * v)) + (15 : Int32) = nI (20 + 24 * v + 15) from nI_add .., nI_clamp (show 20 + 24 * v + 14 < 2 ^ 31 by omega), h6, h5, show nI (20 + 24 * v + 15) + nI many = nI (20 + 24 * v + 15 + many) from nI_add .., show (2 : Int32) = nI 2 from rfl, show (9 : Int32) = nI 9 from rfl]
  have := B_list (n := n) (p := p) (many := many) (oc := 168 + 5 * v) (kc := 8) (a1 := 168 + 5 * v + 3) (a2 := 168 + 5 * v + 4) (jc := 20 + 24 * v + 14) (j1 := 20 + 24 * v + 15) (j2 := 20 + 24 * v + 18) (lo1 := 2) (hi1 := 9) (hi2 := 100) (isA := mX7_isAboveBulks (168 + 5 * v)) (add := mX7_addBulk (168 + 5 * v)) (c79 := mX11_readsBulk_c79 n (nI (20 + 24 * v)) (nI many)) (L := L) (M := M) (N := N) hn (by decide) (by decide) (by decide) (by omega) ⟨by omega, by omega, fun _ => by decide⟩ (by omega) (by omega) (by omega) (by omega) (by omega)
    (fun r M' g1 g2 => c_isU hmx r g1 g2) (fun g => by
      have := (hRP.2.2.2.2.2.2.2.2 (many - 1) (by omega)).1
      rw [this]; unfold fP; congr 1; omega) (fun r s M' g => c_addU hmx r s g) hcnt
    (fun M' b c g1 g2 g3 g4 g5 => add_bulk hv g1 hI hX (by omega) g3 g4)
    (fun M6 => by
      unfold mX11_readsBulk_c79
      rw [show (nI (20 + 24 * v)) + (14 : Int32) = nI (20 + 24 * v + 14) from nI_add .., show (nI (20 + 24 * v)) + (15 : Int32) = nI (20 + 24 * v + 15) from nI_add .., show (nI (20 + 24 * v)) + (18 : Int32) = nI (20 + 24 * v + 18) from nI_add .., show nI (20 + 24 * v + 15) + nI many = nI (20 + 24 * v + 15 + many) from nI_add .., show nI (20 + 24 * v + 18) + nI many = nI (20 + 24 * v + 18 + many) from nI_add .., nI_clamp (show 20 + 24 * v + 15 + many < 2 ^ 31 by omega), nI_clamp (show 20 + 24 * v + 18 + many < 2 ^ 31 by omega), nI_clamp (show 20 + 24 * v + 14 < 2 ^ 31 by omega), show nI many + (1 : Int32) = nI (many + 1) from nI_add .., ckD (show 20 + 24 * v + 15 + many < 164 by omega), ckD (show 20 + 24 * v + 15 + many < 164 by omega)]
      simp only [lt_eq, ckD (show 20 + 24 * v + 18 + many < 164 by omega), ckD (show 20 + 24 * v + 14 < 164 by omega)]
      rfl) h hT hI
  unfold mX2_readBulk
  rw [show (2 : Int32) = nI 2 from rfl, show (9 : Int32) = nI 9 from rfl, show (0 : Int32) = nI 0 from rfl, show (100 : Int32) = nI 100 from rfl]
  simp only [bnp_id]
  exact this
def chain60 (n : Nat) (v1 : Int32) (v3 : Nat) (M2 : Mem) : Option Mem := (if v1 = (0 : Int32) then (bnd (mX8_number n 198 (0 : Int32) (99999 : Int32) M2) fun r5 M6 => (some (upd2 M6 v3 0 r5))) else (if v1 = (1 : Int32) then (bnd (mX8_number n 198 (0 : Int32) (9999 : Int32) M2) fun r8 M9 => (some (upd2 M9 v3 1 r8))) else (if v1 = (2 : Int32) then (bnp (mX2_readTier n v3 M2) fun M12 => (some M12)) else (if v1 = (3 : Int32) then (bnd (mX8_number n 198 (0 : Int32) (99 : Int32) M2) fun r14 M15 => (some (upd2 M15 v3 5 r14))) else (if v1 = (4 : Int32) then (bnd (mX8_word n 198 1 M2) fun r17 M18 => (if r17 = (1 : Int32) then (some (upd2 M18 v3 6 (1 : Int32))) else (some (upd2 M18 v3 6 (0 : Int32))))) else (if v1 = (5 : Int32) then (bnd (mX8_number n 198 (0 : Int32) (100 : Int32) M2) fun r20 M21 => (some (upd2 M21 v3 7 r20))) else (bnp (mX2_readBulk n v3 M2) fun M24 => (some M24))))))))
theorem c60_ok {n : Nat} {v1 : Int32} {v3 : Nat} {M M1 : Mem} (h1 : mX8_blank 198 M = some M1) (h0 : M1 198 3 = 0) : mX2_readOfPlan_c60 n v1 v3 M = chain60 n v1 v3 M1 := by
  unfold mX2_readOfPlan_c60
  rw [h1, bnp_some, sound_ok h0, bnp_some, if_neg (show ¬ (1 : Int32) = 0 by decide)]; rfl
theorem c60_bad {n : Nat} {v1 : Int32} {v3 : Nat} {M M1 : Mem} (h1 : mX8_blank 198 M = some M1) (h0 : ¬ M1 198 3 = 0) : mX2_readOfPlan_c60 n v1 v3 M = some M1 := by
  unfold mX2_readOfPlan_c60
  rw [h1, bnp_some, sound_no h0, bnp_some, if_pos rfl]
theorem c60_no {n : Nat} {v1 : Int32} {v3 : Nat} {M : Mem} (h0 : ¬ M 198 3 = 0) : mX2_readOfPlan_c60 n v1 v3 M = some M := c60_bad (blank_no h0) h0
/-- MODE behind its blank -/
theorem B_mode {n L p v : Nat} {M N : Mem} (hn : 20000 ≤ n) (hv : v < 6) (h : RD 198 L p M N) (hT : RT 164 M (N 211)) (hI : IT (N 211)) :
    ClO L M N (bnd (mX8_word n 198 1 M) fun r17 M18 => (if r17 = (1 : Int32) then (some (upd2 M18 (168 + 5 * v) 6 (1 : Int32))) else (some (upd2 M18 (168 + 5 * v) 6 (0 : Int32)))))
      (bnp (mX11_readsWord n N) fun M5 => (if (lg_cmp (lcb (M5 207 10) (M5 207 (10 + HI))) (37889479 : Int64)) = 0 then (mX11_readsMode_c47 n (nI (20 + 24 * v)) M5) else (if (lg_cmp (lcb (M5 207 10) (M5 207 (10 + HI))) (24395141 : Int64)) = 0 then (mX11_readsMode_c47 n (nI (20 + 24 * v)) M5) else (bnd (mX11_wrongAt (1 : Int32) (M5 207 9) M5) fun r6 M7 => (some (r6, M7)))))) := by
  obtain ⟨e, N1, e1, e2, w1, w2, w3, w4⟩ := R_word (n := n) (a := 1) (by decide) (by decide) hn h
  rw [w1]
  simp only [bnp_some]
  have fin : ∀ b, b ≤ 1 → RD 198 L e (upd2 M 198 2 (nI e)) N1 → ClO L M N (some (upd2 (upd2 M 198 2 (nI e)) (168 + 5 * v) 6 (nI b))) (some (1, upd2 N1 211 (20 + 24 * v + 4) (nI b))) := fun b hb hR => by
    obtain ⟨t1, t2⟩ := DR_fr hT hI (FR_up (k := 2) (v := nI e) (by decide)) w3
    obtain ⟨p1, p2⟩ := putP hv (B := 1) (k := 6) (w := 4) (v := b) (by omega) t1 t2 hb
    exact Or.inl ⟨e, _, _, rfl, rfl, RD_N (RD_M hR (by omega) (by omega)) (Or.inl (by decide)) (by decide), by rw [row211]; exact p1, by rw [row211]; exact p2, (FR_up (k := 2) (by decide)).b.trans (FB_up (by omega) (by omega) (by omega)), w3.b.trans GB_up⟩
  rcases w4 with ⟨t, t1, t2, t3, t4⟩ | ⟨t1, t2, t3⟩
  · rw [CW_1] at t1
    simp only [List.mem_cons, List.not_mem_nil, or_false] at t1
    have hck : ∀ (y : Option (Int32 × Mem)), chk ((nI (20 + 24 * v)) + (4 : Int32)) 164 y = y := fun y => by
      rw [show (nI (20 + 24 * v)) + (4 : Int32) = nI (20 + 24 * v + 4) from nI_add ..]; exact chk_n (by omega) (by decide)
    have hcl : Int32.toNatClampNeg ((nI (20 + 24 * v)) + (4 : Int32)) = 20 + 24 * v + 4 := by
      rw [show (nI (20 + 24 * v)) + (4 : Int32) = nI (20 + 24 * v + 4) from nI_add ..]; exact nI_clamp (by omega)
    rcases t1 with rfl | rfl
    · have t2' : lcb (N1 207 10) (N1 207 (10 + HI)) = (37889479 : Int64) := t2
      have t3' : mX8_word n 198 1 M = some (0, upd2 M 198 2 (nI e)) := t3
      unfold mX11_readsMode_c47
      rw [t3', t2', if_pos (show lg_cmp (37889479 : Int64) (37889479 : Int64) = 0 by decide), if_neg (show ¬ lg_cmp (37889479 : Int64) (24395141 : Int64) = 0 by decide), hck, hcl]
      simp only [bnd_some]
      rw [if_neg (show ¬ (0 : Int32) = 1 by decide)]
      exact fin 0 (by decide) t4
    · have t2' : lcb (N1 207 10) (N1 207 (10 + HI)) = (24395141 : Int64) := t2
      have t3' : mX8_word n 198 1 M = some (1, upd2 M 198 2 (nI e)) := t3
      unfold mX11_readsMode_c47
      rw [t3', t2', if_neg (show ¬ lg_cmp (24395141 : Int64) (37889479 : Int64) = 0 by decide), if_pos (show lg_cmp (24395141 : Int64) (24395141 : Int64) = 0 by decide), if_pos (show lg_cmp (24395141 : Int64) (24395141 : Int64) = 0 by decide), hck, hcl]
      simp only [bnd_some]
      rw [if_pos trivial]
      exact fin 1 (by decide) t4
  · rw [CW_1] at t1
    have k : ∀ (j : Nat) (t : Nat × Nat), ([(0, 37889479), (1, 24395141)] : List (Nat × Nat))[j]? = some t → ∀ c : Int64, Int64.ofNat t.2 = c → ¬ lg_cmp (lcb (N1 207 10) (N1 207 (10 + HI))) c = 0 := fun j t ht c hc z => t1 t (List.mem_of_getElem? ht) (((lg_cmp_eq _ _).mp z).trans hc.symm)
    rw [t2, if_neg (k 0 (0, 37889479) rfl 37889479 rfl), if_neg (k 1 (1, 24395141) rfl 24395141 rfl), w2]
    unfold mX11_wrongAt
    simp only [bnd_some]
    rw [if_neg (show ¬ (-1 : Int32) = 1 by decide)]
    exact Or.inr ⟨_, _, rfl, rfl, FLT_M t3 (by omega), ((FR_up (k := 3) (by decide)).trans (FR_up (k := 4) (by decide))).b.trans (FB_up (by omega) (by omega) (by omega)), w3.b.trans (GR_up (by omega)).b⟩
/-- what the reference reads behind a PLAN's letter -/
def RWf (n w v : Nat) (N : Mem) : Option (Int32 × Mem) := match w with
  | 0 => KT (mX11_readsNumber n (nI 0) (nI 99999) N) (20 + 24 * v + 0)
  | 1 => KT (mX11_readsNumber n (nI 0) (nI 9999) N) (20 + 24 * v + 1)
  | 2 => mX11_readsTier n (nI (20 + 24 * v)) N
  | 3 => KT (mX11_readsNumber n (nI 0) (nI 99) N) (20 + 24 * v + 3)
  | 4 => mX11_readsMode n (nI (20 + 24 * v)) N
  | 5 => KT (mX11_readsNumber n (nI 0) (nI 100) N) (20 + 24 * v + 5)
  | _ => mX11_readsBulk n (nI (20 + 24 * v)) N
theorem KT_no {j : Nat} {N : Mem} : KT (some (0, N)) j = some (0, N) := rfl
/-- behind the letter, where no count is full -/
theorem B_c60 {n L p v w : Nat} {M N : Mem} (hn : 20000 ≤ n) (hv : v < 6) (hw : w < 7) (h2 : w = 2 → pT (N 211) v ≤ 3) (h6 : w = 6 → pK (N 211) v ≤ 2) (h : RD 198 L p M N) (hT : RT 164 M (N 211)) (hI : IT (N 211)) :
    ClO L M N (mX2_readOfPlan_c60 n (nI w) (168 + 5 * v) M) (RWf n w v N) := by
  rcases R_blank (by decide) h with ⟨M1, N1, b1, b2, b3, b4, b5⟩ | ⟨M1, N1, b1, b2, b3, b4, b5⟩
  · rw [c60_ok b1 b3.2.2.2.2.1]
    obtain ⟨t1, t2⟩ := DR_fr hT hI b4 b5
    have e211 : N1 211 = N 211 := funext fun k => b5 211 k (Or.inl (by decide))
    have h5 : N 207 5 + 1 = nI (p + 1) := by rw [h.2.2.2.2.2.2.2.1]; exact nI_add ..
    have hIP := hI.2.2.2.2.2 v hv
    refine ClO.pre ?_ b4.b b5.b
    unfold chain60
    rcases (show w = 0 ∨ w = 1 ∨ w = 2 ∨ w = 3 ∨ w = 4 ∨ w = 5 ∨ w = 6 by omega) with rfl | rfl | rfl | rfl | rfl | rfl | rfl
    · rw [if_pos (show nI 0 = (0 : Int32) by decide), nI_lit 99999]
      show ClO L M1 N1 _ (KT (mX11_readsNumber n (nI 0) (nI 99999) N) (20 + 24 * v + 0))
      rw [rn_ok b2]
      exact B_one hn (by omega) (by omega) (by omega) (by decide) (by omega) (fun M g x a b c => putP hv (k := 0) (w := 0) (B := 99999) (by omega) a b c) b3 t1 t2
    · rw [if_neg (show ¬ nI 1 = (0 : Int32) by decide), if_pos (show nI 1 = (1 : Int32) by decide), nI_lit 9999]
      show ClO L M1 N1 _ (KT (mX11_readsNumber n (nI 0) (nI 9999) N) (20 + 24 * v + 1))
      rw [rn_ok b2]
      exact B_one hn (by omega) (by omega) (by omega) (by decide) (by omega) (fun M g x a b c => putP hv (k := 1) (w := 1) (B := 9999) (by omega) a b c) b3 t1 t2
    · rw [if_neg (show ¬ nI 2 = (0 : Int32) by decide), if_neg (show ¬ nI 2 = (1 : Int32) by decide), if_pos (show nI 2 = (2 : Int32) by decide), bnp_id]
      have e2 : N 211 (20 + 24 * v + 2) = nI (pT (N 211) v) := hIP.2.2.1.1
      have hc := B_tier (n := n) (N0 := N) hn hv (h2 rfl) (by rw [e211]) e2 h5 b3 t1 t2
      have hm4 := h2 rfl
      show ClO L M1 N1 _ (mX11_readsTier n (nI (20 + 24 * v)) N)
      unfold mX11_readsTier
      rw [show chk (nI (20 + 24 * v) + (2 : Int32)) 164 = fun (y : Option (Int32 × Mem)) => y from funext fun y => by
        rw [show (nI (20 + 24 * v)) + (2 : Int32) = nI (20 + 24 * v + 2) from nI_add ..]; exact chk_n (by omega) (by decide)]
      rw [show N 211 (Int32.toNatClampNeg (nI (20 + 24 * v) + (2 : Int32))) = nI (pT (N 211) v) from by
        rw [show (nI (20 + 24 * v)) + (2 : Int32) = nI (20 + 24 * v + 2) from nI_add .., nI_clamp (by omega)]; exact e2] at hc ⊢
      rw [if_neg (show ¬ nI (pT (N 211) v) = (4 : Int32) by rw [show (4 : Int32) = nI 4 from rfl, nI_eq (by omega) (by omega)]; omega), show mX11_readsNumber n (1 : Int32) (9999 : Int32) N = _ from rn_ok b2]
      exact hc
    · rw [if_neg (show ¬ nI 3 = (0 : Int32) by decide), if_neg (show ¬ nI 3 = (1 : Int32) by decide), if_neg (show ¬ nI 3 = (2 : Int32) by decide), if_pos (show nI 3 = (3 : Int32) by decide), show (99 : Int32) = nI 99 from rfl]
      show ClO L M1 N1 _ (KT (mX11_readsNumber n (nI 0) (nI 99) N) (20 + 24 * v + 3))
      rw [rn_ok b2]
      exact B_one hn (by omega) (by omega) (by omega) (by decide) (by omega) (fun M g x a b c => putP hv (k := 5) (w := 3) (B := 99) (by omega) a b c) b3 t1 t2
    · rw [if_neg (show ¬ nI 4 = (0 : Int32) by decide), if_neg (show ¬ nI 4 = (1 : Int32) by decide), if_neg (show ¬ nI 4 = (2 : Int32) by decide), if_neg (show ¬ nI 4 = (3 : Int32) by decide), if_pos (show nI 4 = (4 : Int32) by decide)]
      show ClO L M1 N1 _ (mX11_readsMode n (nI (20 + 24 * v)) N)
      unfold mX11_readsMode
      rw [b2]
      simp only [bnd_some]
      rw [if_neg (show ¬ (1 : Int32) = 0 by decide)]
      exact B_mode hn hv b3 t1 t2
    · rw [if_neg (show ¬ nI 5 = (0 : Int32) by decide), if_neg (show ¬ nI 5 = (1 : Int32) by decide), if_neg (show ¬ nI 5 = (2 : Int32) by decide), if_neg (show ¬ nI 5 = (3 : Int32) by decide), if_neg (show ¬ nI 5 = (4 : Int32) by decide), if_pos (show nI 5 = (5 : Int32) by decide), show (100 : Int32) = nI 100 from rfl]
      show ClO L M1 N1 _ (KT (mX11_readsNumber n (nI 0) (nI 100) N) (20 + 24 * v + 5))
      rw [rn_ok b2]
      exact B_one hn (by omega) (by omega) (by omega) (by decide) (by omega) (fun M g x a b c => putP hv (k := 7) (w := 5) (B := 100) (by omega) a b c) b3 t1 t2
    · rw [if_neg (show ¬ nI 6 = (0 : Int32) by decide), if_neg (show ¬ nI 6 = (1 : Int32) by decide), if_neg (show ¬ nI 6 = (2 : Int32) by decide), if_neg (show ¬ nI 6 = (3 : Int32) by decide), if_neg (show ¬ nI 6 = (4 : Int32) by decide), if_neg (show ¬ nI 6 = (5 : Int32) by decide), bnp_id]
      have e2 : N 211 (20 + 24 * v + 14) = nI (pK (N 211) v) := hIP.2.2.2.2.2.2.1.1
      have hc := B_bulk (n := n) (N0 := N) hn hv (h6 rfl) (by rw [e211]) e2 h5 b3 t1 t2
      have hm4 := h6 rfl
      show ClO L M1 N1 _ (mX11_readsBulk n (nI (20 + 24 * v)) N)
      unfold mX11_readsBulk
      rw [show chk (nI (20 + 24 * v) + (14 : Int32)) 164 = fun (y : Option (Int32 × Mem)) => y from funext fun y => by
        rw [show (nI (20 + 24 * v)) + (14 : Int32) = nI (20 + 24 * v + 14) from nI_add ..]; exact chk_n (by omega) (by decide)]
      rw [show N 211 (Int32.toNatClampNeg (nI (20 + 24 * v) + (14 : Int32))) = nI (pK (N 211) v) from by
        rw [show (nI (20 + 24 * v)) + (14 : Int32) = nI (20 + 24 * v + 14) from nI_add .., nI_clamp (by omega)]; exact e2] at hc ⊢
      rw [if_neg (show ¬ nI (pK (N 211) v) = (3 : Int32) by rw [show (3 : Int32) = nI 3 from rfl, nI_eq (by omega) (by omega)]; omega), show mX11_readsNumber n (2 : Int32) (9 : Int32) N = _ from rn_ok b2]
      exact hc
  · rw [c60_bad b1 (FLT_ne b3)]
    have hRW : RWf n w v N = some (0, N1) := by
      have hIP := hI.2.2.2.2.2 v hv
      rcases (show w = 0 ∨ w = 1 ∨ w = 2 ∨ w = 3 ∨ w = 4 ∨ w = 5 ∨ w = 6 by omega) with rfl | rfl | rfl | rfl | rfl | rfl | rfl
      · show KT (mX11_readsNumber n (nI 0) (nI 99999) N) _ = _
        rw [rn_no b2]; rfl
      · show KT (mX11_readsNumber n (nI 0) (nI 9999) N) _ = _
        rw [rn_no b2]; rfl
      · have e2 : N 211 (20 + 24 * v + 2) = nI (pT (N 211) v) := hIP.2.2.1.1
        have hm4 := h2 rfl
        show mX11_readsTier n (nI (20 + 24 * v)) N = _
        unfold mX11_readsTier
        rw [show (nI (20 + 24 * v)) + (2 : Int32) = nI (20 + 24 * v + 2) from nI_add .., nI_clamp (show 20 + 24 * v + 2 < 2 ^ 31 by omega), ckD (by omega), e2, if_neg (show ¬ nI (pT (N 211) v) = (4 : Int32) by rw [show (4 : Int32) = nI 4 from rfl, nI_eq (by omega) (by omega)]; omega), show mX11_readsNumber n (1 : Int32) (9999 : Int32) N = _ from rn_no b2]
        rfl
      · show KT (mX11_readsNumber n (nI 0) (nI 99) N) _ = _
        rw [rn_no b2]; rfl
      · show mX11_readsMode n (nI (20 + 24 * v)) N = _
        unfold mX11_readsMode
        rw [b2]; rfl
      · show KT (mX11_readsNumber n (nI 0) (nI 100) N) _ = _
        rw [rn_no b2]; rfl
      · have e2 : N 211 (20 + 24 * v + 14) = nI (pK (N 211) v) := hIP.2.2.2.2.2.2.1.1
        have hm4 := h6 rfl
        show mX11_readsBulk n (nI (20 + 24 * v)) N = _
        unfold mX11_readsBulk
        rw [show (nI (20 + 24 * v)) + (14 : Int32) = nI (20 + 24 * v + 14) from nI_add .., nI_clamp (show 20 + 24 * v + 14 < 2 ^ 31 by omega), ckD (by omega), e2, if_neg (show ¬ nI (pK (N 211) v) = (3 : Int32) by rw [show (3 : Int32) = nI 3 from rfl, nI_eq (by omega) (by omega)]; omega), show mX11_readsNumber n (2 : Int32) (9 : Int32) N = _ from rn_no b2]
        rfl
    rw [hRW]
    exact Or.inr ⟨_, _, rfl, rfl, b3, b4.b, b5.b⟩
end
section
/-! a CLAUSE of a PLAN, and of all PLANS, on both sides -/
theorem terms_c {v : Nat} (hv : v ≤ 5) : mX9_termsOf 164 (nI v) = some (168 + 5 * v) := by
  unfold mX9_termsOf
  rw [if_neg (nI_pos (by omega)), if_neg (show ¬ (6 : Int32) ≤ nI v by rw [show (6 : Int32) = nI 6 from rfl, nI_leI (by omega) (by omega)]; omega), chk_n (show v < 6 by omega) (by decide), nI_clamp (by omega)]
theorem rp_full {n w v p : Nat} {N : Mem} (hv : v < 6) (hw : (w = 2 ∧ N 211 (20 + 24 * v + 2) = nI 4) ∨ (w = 6 ∧ N 211 (20 + 24 * v + 14) = nI 3)) (h5 : N 207 5 = nI (p + 1)) (hp : p < 2 ^ 20) : RWf n w v N = some (0, upd2 N 207 7 ((-1000 : Int32) * nI 6 - nI p)) := by
  have e5 : N 207 5 - (1 : Int32) = nI p := by
    rw [h5, show (1 : Int32) = nI 1 from rfl, pk_sub (by omega)]; congr 1
  rcases hw with ⟨rfl, h⟩ | ⟨rfl, h⟩
  · show mX11_readsTier n (nI (20 + 24 * v)) N = _
    unfold mX11_readsTier mX11_wrongAt
    rw [show (nI (20 + 24 * v)) + (2 : Int32) = nI (20 + 24 * v + 2) from nI_add .., nI_clamp (show 20 + 24 * v + 2 < 2 ^ 31 by omega), ckD (by omega), h, if_pos (show nI 4 = (4 : Int32) by decide), e5]
    rfl
  · show mX11_readsBulk n (nI (20 + 24 * v)) N = _
    unfold mX11_readsBulk mX11_wrongAt
    rw [show (nI (20 + 24 * v)) + (14 : Int32) = nI (20 + 24 * v + 14) from nI_add .., nI_clamp (show 20 + 24 * v + 14 < 2 ^ 31 by omega), ckD (by omega), h, if_pos (show nI 3 = (3 : Int32) by decide), e5]
    rfl
theorem B_plan {n L p w : Nat} {M N : Mem} (hn : 20000 ≤ n) (hw : w < 7) (h : RD 198 L p M N) (hT : RT 164 M (N 211)) (hI : IT (N 211)) :
    (∃ v N2, v < 6 ∧ planC N = some (1, N2) ∧ N2 207 8 = nI v ∧ ClO L M N (mX2_readOfPlan n (nI w) M) (RWf n w v N2)) ∨
    (∃ N2, planC N = some (0, N2) ∧ ClO L M N (mX2_readOfPlan n (nI w) M) (some (0, N2))) := by
  have hp : M 198 2 = nI p := h.2.2.2.1
  have hpL : p ≤ 200 := by have := h.1; have := h.2.1; omega
  unfold mX2_readOfPlan mX2_readOfPlan_c36
  rw [hp]
  rcases R_plan (by decide) h with ⟨v, M2, N2, c0, c1, c2, c3, c4, c5, c6⟩ | ⟨M2, N2, c1, c2, c3, c4, c5⟩
  · obtain ⟨t1, t2⟩ := DR_fr hT hI c5 c6
    have hv : v < 6 := by omega
    have hIP := t2.2.2.2.2.2 v hv
    have hRP := RP_at t1 hv
    have k2 : M2 (168 + 5 * v) 2 = nI (pT (N2 211) v) := by rw [hRP.2.2.1]; exact hIP.2.2.1.1
    have k8 : M2 (168 + 5 * v) 8 = nI (pK (N2 211) v) := by rw [hRP.2.2.2.2.2.2.1]; exact hIP.2.2.2.2.2.2.1.1
    have hT4 := hIP.2.2.1.2
    have hK3 := hIP.2.2.2.2.2.2.1.2
    obtain ⟨f1, f2, f3⟩ := RD_fault (c := 6) (at' := p) c4 (by decide) (by decide) hpL
    refine Or.inl ⟨v, N2, hv, c2, c3, ?_⟩
    rw [c1]
    simp only [bnd_some]
    rw [terms_c c0]
    simp only [bnp_some]
    rw [k2, k8, show mX8_mark 198 (6 : Int32) (nI p) M2 = _ from mark_ok (c := 6) c4.2.2.2.2.1]
    simp only [bnp_some]
    have h5 := c4.2.2.2.2.2.2.2.1
    rw [c60_no (FLT_ne f1)]
    have hok : (w = 2 → pT (N2 211) v ≤ 3) → (w = 6 → pK (N2 211) v ≤ 2) → ClO L M N (mX2_readOfPlan_c60 n (nI w) (168 + 5 * v) M2) (RWf n w v N2) := fun a b => (B_c60 hn hv hw a b c4 t1 t2).pre c5.b c6.b
    have hbad : (w = 2 ∧ pT (N2 211) v = 4) ∨ (w = 6 ∧ pK (N2 211) v = 3) → ClO L M N (some (upd2 (upd2 M2 198 3 (nI 6)) 198 4 (nI p))) (RWf n w v N2) := fun a => by
      rw [rp_full (p := p) hv (by
        rcases a with ⟨a, b⟩ | ⟨a, b⟩
        · exact Or.inl ⟨a, (show N2 211 (20 + 24 * v + 2) = nI (pT (N2 211) v) from hIP.2.2.1.1).trans (by rw [b])⟩
        · exact Or.inr ⟨a, (show N2 211 (20 + 24 * v + 14) = nI (pK (N2 211) v) from hIP.2.2.2.2.2.2.1.1).trans (by rw [b])⟩) h5 (by omega)]
      exact Or.inr ⟨_, _, rfl, rfl, f1, c5.b.trans f2.b, c6.b.trans f3.b⟩
    by_cases w2 : w = 2
    · rw [if_pos (show nI w = (2 : Int32) by rw [w2]; rfl)]
      by_cases z : pT (N2 211) v = 4
      · rw [if_pos (show (4 : Int32) ≤ nI (pT (N2 211) v) by rw [z]; decide)]
        exact hbad (Or.inl ⟨w2, z⟩)
      · rw [if_neg (show ¬ (4 : Int32) ≤ nI (pT (N2 211) v) by rw [show (4 : Int32) = nI 4 from rfl, nI_leI (by omega) (by omega)]; omega), if_neg (show ¬ nI w = (6 : Int32) by rw [w2]; decide)]
        exact hok (fun _ => by omega) (fun g => by omega)
    · rw [if_neg (show ¬ nI w = (2 : Int32) by rw [show (2 : Int32) = nI 2 from rfl, nI_eq (by omega) (by omega)]; exact w2)]
      by_cases w6 : w = 6
      · rw [if_pos (show nI w = (6 : Int32) by rw [w6]; rfl)]
        by_cases z : pK (N2 211) v = 3
        · rw [if_neg (show ¬ nI (pK (N2 211) v) < (3 : Int32) by rw [z]; decide)]
          exact hbad (Or.inr ⟨w6, z⟩)
        · rw [if_pos (show nI (pK (N2 211) v) < (3 : Int32) by rw [show (3 : Int32) = nI 3 from rfl, nI_ltI (by omega) (by omega)]; omega)]
          exact hok (fun g => absurd g w2) (fun _ => by omega)
      · rw [if_neg (show ¬ nI w = (6 : Int32) by rw [show (6 : Int32) = nI 6 from rfl, nI_eq (by omega) (by omega)]; exact w6)]
        exact hok (fun g => absurd g w2) (fun g => absurd g w6)
  · refine Or.inr ⟨N2, c2, ?_⟩
    rw [c1]
    simp only [bnd_some]
    rw [show mX9_termsOf 164 (0 : Int32) = some 168 from terms_c (v := 0) (by decide)]
    simp only [bnp_some]
    rw [mark_no (FLT_ne c3)]
    simp only [bnp_some]
    rw [c60_no (FLT_ne c3)]
    simp only [ite_self]
    exact Or.inr ⟨_, _, rfl, rfl, c3, c4.b, c5.b⟩
end
section
/-- what a CLAUSE asks behind its word -/
def RC (n : Nat) (W : Int64) (N3 : Mem) : Option (Int32 × Mem) := (if (lg_cmp W (398963 : Int64)) = 0 then (bnd (mX11_readsOfAll n W N3) fun r5 M6 => (some (r5, M6))) else (if (lg_cmp W (6309 : Int64)) = 0 then (bnd (mX11_readsOfAll n W N3) fun r8 M9 => (some (r8, M9))) else (if (lg_cmp W (20536 : Int64)) = 0 then (bnd (mX11_readsOfAll n W N3) fun r47 M48 => (some (r47, M48))) else (bnd (mX11_readsPlan N3) fun r11 M12 => (if r11 = 0 then (some ((0 : Int32), M12)) else (if (lg_cmp W (664754 : Int64)) = 0 then (bnd (mX11_readsTier n ((20 : Int32) + ((24 : Int32) * (M12 207 8))) M12) fun r44 M45 => (some (r44, M45))) else (if (lg_cmp W (87435 : Int64)) = 0 then (bnd (mX11_readsBulk n ((20 : Int32) + ((24 : Int32) * (M12 207 8))) M12) fun r41 M42 => (some (r41, M42))) else (if (lg_cmp W (441477 : Int64)) = 0 then (bnd (mX11_readsMode n ((20 : Int32) + ((24 : Int32) * (M12 207 8))) M12) fun r38 M39 => (some (r38, M39))) else (if (lg_cmp W (17376357 : Int64)) = 0 then (bnd (mX11_readsNumber n (0 : Int32) (99999 : Int32) M12) fun r32 M33 => (if r32 = 0 then (some ((0 : Int32), M33)) else (bnd (mX11_keepsNumber (((20 : Int32) + ((24 : Int32) * (M12 207 8))) + (0 : Int32)) M33) fun r35 M36 => (if r35 = 0 then (some ((0 : Int32), M36)) else (some ((1 : Int32), M36)))))) else (if (lg_cmp W (215205 : Int64)) = 0 then (bnd (mX11_readsNumber n (0 : Int32) (9999 : Int32) M12) fun r26 M27 => (if r26 = 0 then (some ((0 : Int32), M27)) else (bnd (mX11_keepsNumber (((20 : Int32) + ((24 : Int32) * (M12 207 8))) + (1 : Int32)) M27) fun r29 M30 => (if r29 = 0 then (some ((0 : Int32), M30)) else (some ((1 : Int32), M30)))))) else (if (lg_cmp W (595572 : Int64)) = 0 then (bnd (mX11_readsNumber n (0 : Int32) (99 : Int32) M12) fun r20 M21 => (if r20 = 0 then (some ((0 : Int32), M21)) else (bnd (mX11_keepsNumber (((20 : Int32) + ((24 : Int32) * (M12 207 8))) + (3 : Int32)) M21) fun r23 M24 => (if r23 = 0 then (some ((0 : Int32), M24)) else (some ((1 : Int32), M24)))))) else (bnd (mX11_readsNumber n (0 : Int32) (100 : Int32) M12) fun r14 M15 => (if r14 = 0 then (some ((0 : Int32), M15)) else (bnd (mX11_keepsNumber (((20 : Int32) + ((24 : Int32) * (M12 207 8))) + (5 : Int32)) M15) fun r17 M18 => (if r17 = 0 then (some ((0 : Int32), M18)) else (some ((1 : Int32), M18)))))))))))))))))
theorem rc_eq {n : Nat} {N N1 : Mem} {W : Int64} (h12 : ¬ N 207 12 = (20 : Int32)) (h1 : mX11_readsWord n N = some N1) (h2 : lcb (N1 207 10) (N1 207 (10 + HI)) = W) (h3 : mX11_isClauseWord W = some 1) : mX11_readsClause n N = RC n W (upd2 N1 207 12 ((N1 207 12) + (1 : Int32))) := by
  unfold mX11_readsClause
  rw [if_neg h12, h1]
  simp only [bnp_some]
  rw [h2, h3]
  simp only [bnp_some]
  rw [if_neg (show ¬ (1 : Int32) = 0 by decide)]
  rfl
theorem rc_no {n : Nat} {N N1 : Mem} (h12 : ¬ N 207 12 = (20 : Int32)) (h1 : mX11_readsWord n N = some N1) (h3 : mX11_isClauseWord (lcb (N1 207 10) (N1 207 (10 + HI))) = some 0) : mX11_readsClause n N = some (0, upd2 N1 207 7 (((-1000 : Int32) * 1) - (N1 207 9))) := by
  unfold mX11_readsClause
  rw [if_neg h12, h1]
  simp only [bnp_some]
  rw [h3]
  simp only [bnp_some]
  rw [if_pos trivial]
  rfl
theorem word_no10 {W : Int64} (h : ∀ t ∈ CW 0, W ≠ Int64.ofNat t.2) : mX11_isClauseWord W = some 0 := by
  rw [CW_0] at h
  have k : ∀ (j : Nat) (t : Nat × Nat), ([(0, 17376357), (1, 215205), (2, 664754), (3, 595572), (4, 441477), (5, 16832101), (6, 87435), (7, 398963), (8, 6309), (9, 20536)] : List (Nat × Nat))[j]? = some t → ∀ c : Int64, Int64.ofNat t.2 = c → ¬ lg_cmp W c = 0 := fun j t ht c hc z => h t (List.mem_of_getElem? ht) (((lg_cmp_eq _ _).mp z).trans hc.symm)
  unfold mX11_isClauseWord
  rw [if_neg (k 0 (0, 17376357) rfl 17376357 rfl), if_neg (k 1 (1, 215205) rfl 215205 rfl), if_neg (k 2 (2, 664754) rfl 664754 rfl), if_neg (k 3 (3, 595572) rfl 595572 rfl), if_neg (k 4 (4, 441477) rfl 441477 rfl), if_neg (k 5 (5, 16832101) rfl 16832101 rfl), if_neg (k 7 (7, 398963) rfl 398963 rfl), if_neg (k 8 (8, 6309) rfl 6309 rfl), if_neg (k 6 (6, 87435) rfl 87435 rfl), if_neg (k 9 (9, 20536) rfl 20536 rfl)]
theorem base_c {v : Nat} : (20 : Int32) + ((24 : Int32) * nI v) = nI (20 + 24 * v) := by
  rw [show (24 : Int32) = nI 24 from rfl, pk_mul, show (20 : Int32) = nI 20 from rfl, nI_add]
theorem bnd_id' {x : Option (Int32 × Mem)} : (bnd x fun r M => some (r, M)) = x := bnd_id
theorem rc_plan {n w c v : Nat} {N3 N2 : Mem} (hm : (w, c) ∈ CW 0) (hw : w < 7) (hr : mX11_readsPlan N3 = some (1, N2)) (h8 : N2 207 8 = nI v) : RC n (Int64.ofNat c) N3 = RWf n w v N2 := by
  rw [CW_0] at hm
  simp only [List.mem_cons, List.not_mem_nil, or_false, Prod.mk.injEq] at hm
  unfold RC
  rw [hr]
  simp only [bnd_some]
  rw [if_neg (show ¬ (1 : Int32) = 0 by decide), h8, base_c]
  rcases hm with ⟨rfl, rfl⟩ | ⟨rfl, rfl⟩ | ⟨rfl, rfl⟩ | ⟨rfl, rfl⟩ | ⟨rfl, rfl⟩ | ⟨rfl, rfl⟩ | ⟨rfl, rfl⟩ | ⟨rfl, rfl⟩ | ⟨rfl, rfl⟩ | ⟨rfl, rfl⟩
  · rw [if_neg (by decide), if_neg (by decide), if_neg (by decide), if_neg (by decide), if_neg (by decide), if_neg (by decide), if_pos (by decide), show (nI (20 + 24 * v)) + (0 : Int32) = nI (20 + 24 * v + 0) from nI_add .., show (99999 : Int32) = nI 99999 from nI_lit 99999]; rfl
  · rw [if_neg (by decide), if_neg (by decide), if_neg (by decide), if_neg (by decide), if_neg (by decide), if_neg (by decide), if_neg (by decide), if_pos (by decide)]
    rw [show (nI (20 + 24 * v)) + (1 : Int32) = nI (20 + 24 * v + 1) from nI_add .., show (9999 : Int32) = nI 9999 from nI_lit 9999]; rfl
  · rw [if_neg (by decide), if_neg (by decide), if_neg (by decide), if_pos (by decide), bnd_id]; rfl
  · rw [if_neg (by decide), if_neg (by decide), if_neg (by decide), if_neg (by decide), if_neg (by decide), if_neg (by decide), if_neg (by decide), if_neg (by decide), if_pos (by decide)]
    rw [show (nI (20 + 24 * v)) + (3 : Int32) = nI (20 + 24 * v + 3) from nI_add .., show (99 : Int32) = nI 99 from rfl]; rfl
  · rw [if_neg (by decide), if_neg (by decide), if_neg (by decide), if_neg (by decide), if_neg (by decide), if_pos (by decide), bnd_id]; rfl
  · rw [if_neg (by decide), if_neg (by decide), if_neg (by decide), if_neg (by decide), if_neg (by decide), if_neg (by decide), if_neg (by decide), if_neg (by decide), if_neg (by decide)]
    rw [show (nI (20 + 24 * v)) + (5 : Int32) = nI (20 + 24 * v + 5) from nI_add .., show (100 : Int32) = nI 100 from rfl]; rfl
  · rw [if_neg (by decide), if_neg (by decide), if_neg (by decide), if_neg (by decide), if_pos (by decide), bnd_id]; rfl
  · exact absurd hw (by decide)
  · exact absurd hw (by decide)
  · exact absurd hw (by decide)
theorem rc_planno {n w c : Nat} {N3 N2 : Mem} (hm : (w, c) ∈ CW 0) (hw : w < 7) (hr : mX11_readsPlan N3 = some (0, N2)) : RC n (Int64.ofNat c) N3 = some (0, N2) := by
  rw [CW_0] at hm
  simp only [List.mem_cons, List.not_mem_nil, or_false, Prod.mk.injEq] at hm
  unfold RC
  rw [hr]
  simp only [bnd_some]
  rw [if_pos trivial]
  rcases hm with ⟨rfl, rfl⟩ | ⟨rfl, rfl⟩ | ⟨rfl, rfl⟩ | ⟨rfl, rfl⟩ | ⟨rfl, rfl⟩ | ⟨rfl, rfl⟩ | ⟨rfl, rfl⟩ | ⟨rfl, rfl⟩ | ⟨rfl, rfl⟩ | ⟨rfl, rfl⟩
  · rw [if_neg (by decide), if_neg (by decide), if_neg (by decide)]
  · rw [if_neg (by decide), if_neg (by decide), if_neg (by decide)]
  · rw [if_neg (by decide), if_neg (by decide), if_neg (by decide)]
  · rw [if_neg (by decide), if_neg (by decide), if_neg (by decide)]
  · rw [if_neg (by decide), if_neg (by decide), if_neg (by decide)]
  · rw [if_neg (by decide), if_neg (by decide), if_neg (by decide)]
  · rw [if_neg (by decide), if_neg (by decide), if_neg (by decide)]
  · exact absurd hw (by decide)
  · exact absurd hw (by decide)
  · exact absurd hw (by decide)
theorem rc_less {n : Nat} {N3 : Mem} : RC n (398963 : Int64) N3 = mX11_readsLess n N3 := by
  unfold RC mX11_readsOfAll
  rw [if_pos (show lg_cmp (398963 : Int64) (398963 : Int64) = 0 by decide), if_pos (show lg_cmp (398963 : Int64) (398963 : Int64) = 0 by decide), bnd_id, bnd_id]
theorem rc_fee {n : Nat} {N3 : Mem} : RC n (6309 : Int64) N3 = KT (mX11_readsNumber n (nI 0) (nI 20) N3) 5 := by
  unfold RC mX11_readsOfAll
  rw [if_neg (show ¬ lg_cmp (6309 : Int64) (398963 : Int64) = 0 by decide), if_pos (show lg_cmp (6309 : Int64) (6309 : Int64) = 0 by decide), if_neg (show ¬ lg_cmp (6309 : Int64) (398963 : Int64) = 0 by decide), if_neg (show ¬ lg_cmp (6309 : Int64) (20536 : Int64) = 0 by decide), bnd_id]; rfl
theorem rc_tax {n : Nat} {N3 : Mem} : RC n (20536 : Int64) N3 = mX11_readsTax n N3 := by
  unfold RC mX11_readsOfAll
  rw [if_neg (show ¬ lg_cmp (20536 : Int64) (398963 : Int64) = 0 by decide), if_neg (show ¬ lg_cmp (20536 : Int64) (6309 : Int64) = 0 by decide), if_pos (show lg_cmp (20536 : Int64) (20536 : Int64) = 0 by decide), if_neg (show ¬ lg_cmp (20536 : Int64) (398963 : Int64) = 0 by decide), if_pos (show lg_cmp (20536 : Int64) (20536 : Int64) = 0 by decide), bnd_id, bnd_id]
end
section
/-! a whole CLAUSE, on both sides -/
theorem B_oneB {n L p hi o slot j : Nat} {M N : Mem} (hn : 20000 ≤ n) (ho1 : 164 ≤ o) (ho2 : o ≤ 197) (hos : o = 164 → slot ≠ 7) (hhi : hi ≤ 99999) (hj : j < 164)
    (put : ∀ (M : Mem) (g : Nat → Int32) (v : Nat), RT 164 M g → IT g → v ≤ hi → RT 164 (upd2 M o slot (nI v)) (upd g j (nI v)) ∧ IT (upd g j (nI v))) (h : RD 198 L p M N) (hT : RT 164 M (N 211)) (hI : IT (N 211)) :
    ClO L M N (bnp (mX8_blank 198 M) fun M8 => bnd (mX8_number n 198 (nI 0) (nI hi) M8) fun r5 M6 => some (upd2 M6 o slot r5)) (KT (mX11_readsNumber n (nI 0) (nI hi) N) j) := by
  rcases R_blank (by decide) h with ⟨M1, N1, b1, b2, b3, b4, b5⟩ | ⟨M1, N1, b1, b2, b3, b4, b5⟩
  · obtain ⟨t1, t2⟩ := DR_fr hT hI b4 b5
    rw [b1, rn_ok b2]
    simp only [bnp_some]
    exact (B_one hn ho1 ho2 hos hhi hj put b3 t1 t2).pre b4.b b5.b
  · rw [b1, rn_no b2]
    simp only [bnp_some]
    rw [number_no (FLT_ne b3)]
    simp only [bnd_some]
    exact Or.inr ⟨_, _, rfl, rfl, FLT_M b3 (by omega), b4.b.trans (FB_up ho1 ho2 hos), b5.b⟩
theorem less_eq {n : Nat} {N : Mem} : mX11_readsLess n N = bnd (KT (mX11_readsNumber n (nI 0) (nI 100) N) 2) fun r M5 => if r = 0 then some (0, M5) else KT (mX11_readsNumber n (nI 0) (nI 99) M5) 3 := by
  unfold mX11_readsLess KT
  rw [show (100 : Int32) = nI 100 from rfl, show (99 : Int32) = nI 99 from rfl, show mX11_readsNumber n (0 : Int32) (nI 100) N = mX11_readsNumber n (nI 0) (nI 100) N from rfl]
  rcases mX11_readsNumber n (nI 0) (nI 100) N with _ | ⟨r, M2⟩
  · rfl
  · simp only [bnd_some]
    by_cases z : r = 0
    · rw [if_pos z, if_pos z]; rfl
    · rw [if_neg z, if_neg z, show mX11_keepsNumber (2 : Int32) M2 = some (1, upd2 M2 211 2 (M2 207 8)) from keep_ok (j := 2) (by decide), show mX11_keepsNumber (nI 2) M2 = some (1, upd2 M2 211 2 (M2 207 8)) from keep_ok (j := 2) (by decide)]
      simp only [bnd_some]
      rw [if_neg (show ¬ (1 : Int32) = 0 by decide), if_neg (show ¬ (1 : Int32) = 0 by decide)]
      simp only [bnd_some]
      rw [if_neg (show ¬ (1 : Int32) = 0 by decide)]; rfl
theorem bnd_bnp {x : Option (Int32 × Mem)} {F : Int32 → Mem → Mem} {K : Mem → Option Mem} : (bnd x fun r M => bnp (some (F r M)) K) = bnp (bnd x fun r M => some (F r M)) K := by
  rcases x with _ | ⟨r, M⟩
  · rfl
  · rfl
theorem B_less {n L p : Nat} {M N N0 : Mem} (hn : 20000 ≤ n) (h0 : mX11_takesSign (32 : Int32) N0 = some (1, N)) (h : RD 198 L p M N) (hT : RT 164 M (N 211)) (hI : IT (N 211)) :
    ClO L M N (bnd (mX8_number n 198 (0 : Int32) (100 : Int32) M) fun r5 M6 => (bnp (mX8_blank 198 (upd2 M6 164 1 r5)) fun M8 => (bnd (mX8_number n 198 (0 : Int32) (99 : Int32) M8) fun r9 M10 => (some (upd2 M10 164 2 r9))))) (mX11_readsLess n N0) := by
  have e : (bnd (mX8_number n 198 (0 : Int32) (100 : Int32) M) fun r5 M6 => (bnp (mX8_blank 198 (upd2 M6 164 1 r5)) fun M8 => (bnd (mX8_number n 198 (0 : Int32) (99 : Int32) M8) fun r9 M10 => (some (upd2 M10 164 2 r9))))) =
      bnp (bnd (mX8_number n 198 (nI 0) (nI 100) M) fun r5 M6 => some (upd2 M6 164 1 r5)) fun M7 => (bnp (mX8_blank 198 M7) fun M8 => bnd (mX8_number n 198 (nI 0) (nI 99) M8) fun r5 M6 => some (upd2 M6 164 2 r5)) := bnd_bnp (x := mX8_number n 198 (nI 0) (nI 100) M) (F := fun r M6 => upd2 M6 164 1 r) (K := fun M7 => (bnp (mX8_blank 198 M7) fun M8 => bnd (mX8_number n 198 (nI 0) (nI 99) M8) fun r5 M6 => some (upd2 M6 164 2 r5)))
  rw [e, less_eq, rn_ok h0]
  rcases B_one (n := n) (o := 164) (slot := 1) (j := 2) (hi := 100) hn (by decide) (by decide) (by decide) (by decide) (by decide) (fun M g v a b c => putT (k := 1) (j := 2) (B := 100) (Or.inl ⟨rfl, rfl, rfl⟩) a b c) h hT hI with ⟨q, M1, N1, a1, a2, a3, a4, a5, a6, a7⟩ | ⟨M1, N1, a1, a2, a3, a4, a5⟩
  · rw [a1, a2]
    simp only [bnp_some, bnd_some]
    rw [if_neg (show ¬ (1 : Int32) = 0 by decide)]
    exact (B_oneB (n := n) (o := 164) (slot := 2) (j := 3) (hi := 99) hn (by decide) (by decide) (by decide) (by decide) (by decide) (fun M g v a b c => putT (k := 2) (j := 3) (B := 99) (Or.inr (Or.inl ⟨rfl, rfl, rfl⟩)) a b c) a3 a4 a5).pre a6 a7
  · rw [a1, a2]
    simp only [bnp_some, bnd_some]
    rw [if_pos trivial, blank_no (FLT_ne a3)]
    simp only [bnp_some]
    rw [number_no (FLT_ne a3)]
    simp only [bnd_some]
    exact Or.inr ⟨_, _, rfl, rfl, FLT_M a3 (by decide), a4.trans (FB_up (by decide) (by decide) (by decide)), a5⟩
/-- behind the word -/
theorem B_c45 {n L p w c : Nat} {M N : Mem} (hn : 20000 ≤ n) (hm : (w, c) ∈ CW 0) (h9 : w = 9 → nX (N 211) ≤ 3) (h : RD 198 L p M N) (hT : RT 164 M (N 211)) (hI : IT (N 211)) :
    ClO L M N (mX2_readClause_c45 n (nI w) M) (RC n (Int64.ofNat c) N) := by
  have hm' := hm
  rw [CW_0] at hm'
  simp only [List.mem_cons, List.not_mem_nil, or_false, Prod.mk.injEq] at hm'
  have hw : w < 10 := by omega
  have hX := hI.2.2.2.1.1
  have k7 : (nI w = (7 : Int32)) = (w = 7) := by rw [show (7 : Int32) = nI 7 from rfl, nI_eq (by omega) (by omega)]
  have k8 : (nI w = (8 : Int32)) = (w = 8) := by rw [show (8 : Int32) = nI 8 from rfl, nI_eq (by omega) (by omega)]
  have k9 : (nI w = (9 : Int32)) = (w = 9) := by rw [show (9 : Int32) = nI 9 from rfl, nI_eq (by omega) (by omega)]
  unfold mX2_readClause_c45
  simp only [k7, k8, k9]
  rcases R_blank (by decide) h with ⟨M1, N1, b1, b2, b3, b4, b5⟩ | ⟨M1, N1, b1, b2, b3, b4, b5⟩
  · obtain ⟨t1, t2⟩ := DR_fr hT hI b4 b5
    have e211 : N1 211 = N 211 := funext fun k => b5 211 k (Or.inl (by decide))
    have h5 : N 207 5 + 1 = nI (p + 1) := by rw [h.2.2.2.2.2.2.2.1]; exact nI_add ..
    rw [b1]
    simp only [bnp_some]
    rw [sound_ok b3.2.2.2.2.1]
    simp only [bnp_some]
    rw [if_neg (show ¬ (1 : Int32) = 0 by decide)]
    refine ClO.pre ?_ b4.b b5.b
    by_cases w7 : w < 7
    · rw [if_neg (show ¬ w = 7 by omega), if_neg (show ¬ w = 8 by omega), if_neg (show ¬ w = 9 by omega), bnp_id]
      rcases B_plan (n := n) (w := w) hn w7 b3 t1 t2 with ⟨v, N2, v1, v2, v3, v4⟩ | ⟨N2, v1, v2⟩
      · rw [rc_plan hm w7 ((rp_ok b2).trans v2) v3]; exact v4
      · rw [rc_planno hm w7 ((rp_ok b2).trans v1)]; exact v2
    · rcases (show (w = 7 ∧ c = 398963) ∨ (w = 8 ∧ c = 6309) ∨ (w = 9 ∧ c = 20536) by omega) with ⟨rfl, rfl⟩ | ⟨rfl, rfl⟩ | ⟨rfl, rfl⟩
      · rw [if_pos rfl, show RC n (Int64.ofNat 398963) N = mX11_readsLess n N from rc_less]
        exact B_less hn b2 b3 t1 t2
      · rw [if_neg (show ¬ (8 : Nat) = 7 by decide), if_pos rfl, show RC n (Int64.ofNat 6309) N = _ from rc_fee, rn_ok b2]
        exact B_one (n := n) (o := 164) (slot := 3) (j := 5) (hi := 20) hn (by decide) (by decide) (by decide) (by decide) (by decide) (fun M g v a b c => putT (k := 3) (j := 5) (B := 20) (Or.inr (Or.inr ⟨rfl, rfl, rfl⟩)) a b c) b3 t1 t2
      · have hX3 := h9 rfl
        have hc := B_tax (n := n) (N0 := N) hn hX3 (by rw [e211]) hX h5 b3 t1 t2
        rw [if_neg (show ¬ (9 : Nat) = 7 by decide), if_neg (show ¬ (9 : Nat) = 8 by decide), if_pos rfl, bnp_id, show RC n (Int64.ofNat 20536) N = mX11_readsTax n N from rc_tax]
        unfold mX11_readsTax
        rw [show N 211 (Int32.toNatClampNeg (6 : Int32)) = nI (nX (N 211)) from hX] at hc ⊢
        rw [show chk (6 : Int32) 164 = fun (y : Option (Int32 × Mem)) => y from funext fun y => chk_n (show 6 < 164 by decide) (by decide)]
        rw [if_neg (show ¬ nI (nX (N 211)) = (4 : Int32) by rw [show (4 : Int32) = nI 4 from rfl, nI_eq (by omega) (by omega)]; omega), show mX11_readsNumber n (0 : Int32) (3652 : Int32) N = _ from rn_ok b2]
        exact hc
  · rw [b1]
    simp only [bnp_some]
    rw [sound_no (FLT_ne b3)]
    simp only [bnp_some]
    rw [if_pos trivial]
    have hR : RC n (Int64.ofNat c) N = some (0, N1) := by
      by_cases w7 : w < 7
      · exact rc_planno hm w7 (rp_no b2)
      · rcases (show (w = 7 ∧ c = 398963) ∨ (w = 8 ∧ c = 6309) ∨ (w = 9 ∧ c = 20536) by omega) with ⟨rfl, rfl⟩ | ⟨rfl, rfl⟩ | ⟨rfl, rfl⟩
        · rw [show RC n (Int64.ofNat 398963) N = mX11_readsLess n N from rc_less, less_eq, rn_no b2]; rfl
        · rw [show RC n (Int64.ofNat 6309) N = _ from rc_fee, rn_no b2]; rfl
        · have hX3 := h9 rfl
          rw [show RC n (Int64.ofNat 20536) N = mX11_readsTax n N from rc_tax]
          unfold mX11_readsTax
          rw [show N 211 (Int32.toNatClampNeg (6 : Int32)) = nI (nX (N 211)) from hX, if_neg (show ¬ nI (nX (N 211)) = (4 : Int32) by rw [show (4 : Int32) = nI 4 from rfl, nI_eq (by omega) (by omega)]; omega), show mX11_readsNumber n (0 : Int32) (3652 : Int32) N = _ from rn_no b2]
          exact chk_n (show 6 < 164 by decide) (by decide)
    rw [hR]
    exact Or.inr ⟨_, _, rfl, rfl, b3, b4.b, b5.b⟩
def GB2 (N N' : Mem) : Prop := ∀ o k, ¬ ((o = 207 ∧ (k = 5 ∨ k = 7 ∨ k = 8 ∨ k = 9 ∨ k = 10 ∨ k = 10 + HI ∨ k = 12)) ∨ o = 211) → N' o k = N o k
theorem GB2.trans {N N1 N2 : Mem} (h1 : GB2 N N1) (h2 : GB2 N1 N2) : GB2 N N2 := fun o k h => (h2 o k h).trans (h1 o k h)
theorem GB.b2 {N N' : Mem} (h : GB N N') : GB2 N N' := fun o k g => h o k (by omega)
theorem GR.b2 {N N' : Mem} (h : GR N N') : GB2 N N' := h.b.b2
theorem GB2_up {N : Mem} {v : Int32} : GB2 N (upd2 N 207 12 v) := fun o k g => by
  by_cases z : o = 207
  · subst z; exact u2k _ _ (by omega)
  · exact u2o _ _ z
def ClR (L i : Nat) (M N : Mem) (mc : Option Mem) (mm : Option (Int32 × Mem)) : Prop :=
  (∃ q M' N', mc = some M' ∧ mm = some (1, N') ∧ RD 198 L q M' N' ∧ RT 164 M' (N' 211) ∧ IT (N' 211) ∧ N' 207 12 = nI (i + 1) ∧ FB M M' ∧ GB2 N N') ∨
  (∃ M' N', mc = some M' ∧ mm = some (0, N') ∧ FLT 198 M' N' ∧ FB M M' ∧ GB2 N N')
theorem B_clause {n L p i : Nat} {M N : Mem} (hn : 20000 ≤ n) (hi : i < 20) (h12 : N 207 12 = nI i) (h : RD 198 L p M N) (hT : RT 164 M (N 211)) (hI : IT (N 211)) : ClR L i M N (mX2_readClause n M) (mX11_readsClause n N) := by
  have hp : M 198 2 = nI p := h.2.2.2.1
  have hpL : p ≤ 200 := by have := h.1; have := h.2.1; omega
  have n20 : ¬ N 207 12 = (20 : Int32) := by rw [h12, show (20 : Int32) = nI 20 from rfl, nI_eq (by omega) (by omega)]; omega
  obtain ⟨e, N1, e1, e2, w1, w2, w3, w4⟩ := R_word (n := n) (a := 0) (by decide) (by decide) hn h
  have g12 : N1 207 12 = nI i := (w3 207 12 (Or.inr ⟨by decide, by decide, by decide, by decide, by decide, hHI 12 (by decide)⟩)).trans h12
  unfold mX2_readClause
  rw [hp]
  rcases w4 with ⟨⟨w, c⟩, t1, t2, t3, t4⟩ | ⟨t1, t2, t3⟩
  · obtain ⟨f1, f2⟩ := DR_fr hT hI (FR_up (k := 2) (v := nI e) (by decide)) w3
    have hcw : mX11_isClauseWord (Int64.ofNat c) = some 1 := by
      have hm' := t1
      rw [CW_0] at hm'
      simp only [List.mem_cons, List.not_mem_nil, or_false, Prod.mk.injEq] at hm'
      rcases hm' with ⟨-, rfl⟩ | ⟨-, rfl⟩ | ⟨-, rfl⟩ | ⟨-, rfl⟩ | ⟨-, rfl⟩ | ⟨-, rfl⟩ | ⟨-, rfl⟩ | ⟨-, rfl⟩ | ⟨-, rfl⟩ | ⟨-, rfl⟩ <;> decide
    have t2' : lcb (N1 207 10) (N1 207 (10 + HI)) = Int64.ofNat c := t2
    have t3' : mX8_word n 198 0 M = some (nI w, upd2 M 198 2 (nI e)) := t3
    have hw10 : w < 10 ∧ (w = 9 → c = 20536) := by
      have hm' := t1
      rw [CW_0] at hm'
      simp only [List.mem_cons, List.not_mem_nil, or_false, Prod.mk.injEq] at hm'
      omega
    rw [rc_eq n20 w1 t2' hcw, t3', g12, show nI i + (1 : Int32) = nI (i + 1) from nI_add ..]
    simp only [bnd_some]
    obtain ⟨N3, hN3⟩ : ∃ N3, N3 = upd2 N1 207 12 (nI (i + 1)) := ⟨_, rfl⟩
    have q12 : N3 207 12 = nI (i + 1) := by rw [hN3]; exact u2s _ _ _ _
    have q211 : N3 211 = N1 211 := funext fun k => by rw [hN3]; exact u2o _ _ (by decide)
    have qR : RD 198 L e (upd2 M 198 2 (nI e)) N3 := by rw [hN3]; exact RD_N t4 (Or.inr ⟨by decide, by decide⟩) (by decide)
    have qG : GB2 N N3 := by rw [hN3]; exact w3.b2.trans GB2_up
    have qF : FB M (upd2 M 198 2 (nI e)) := (FR_up (k := 2) (by decide)).b
    rw [← q211] at f1 f2
    rw [← hN3]
    have hX : upd2 M 198 2 (nI e) 164 4 = nI (nX (N3 211)) := by rw [f1.2.2.2.1]; exact f2.2.2.2.1.1
    have hX4 := f2.2.2.2.1.2
    have hok : (w = 9 → nX (N3 211) ≤ 3) → ClR L i M N (mX2_readClause_c45 n (nI w) (upd2 M 198 2 (nI e))) (RC n (Int64.ofNat c) N3) := fun z => by
      rcases B_c45 hn t1 z qR f1 f2 with ⟨q, M', N', a1, a2, a3, a4, a5, a6, a7⟩ | ⟨M', N', a1, a2, a3, a4, a5⟩
      · exact Or.inl ⟨q, M', N', a1, a2, a3, a4, a5, (a7 207 12 (by have := hHI 12 (by decide); omega)).trans q12, qF.trans a6, qG.trans a7.b2⟩
      · exact Or.inr ⟨M', N', a1, a2, a3, qF.trans a4, qG.trans a5.b2⟩
    by_cases w9 : w = 9
    · rw [if_pos (show nI w = (9 : Int32) by rw [w9]; rfl), hX]
      by_cases z : nX (N3 211) = 4
      · rw [if_neg (show ¬ nI (nX (N3 211)) < (4 : Int32) by rw [z]; decide)]
        obtain ⟨c1, c2, c3⟩ := RD_fault (c := 6) (at' := p) qR (by decide) (by decide) hpL
        have q9 : N3 207 9 = nI p := by rw [hN3, u2k _ _ (by decide)]; exact w2
        have hr : RC n (Int64.ofNat c) N3 = some (0, upd2 N3 207 7 ((-1000 : Int32) * nI 6 - nI p)) := by
          rw [hw10.2 w9, show RC n (Int64.ofNat 20536) N3 = mX11_readsTax n N3 from rc_tax]
          unfold mX11_readsTax mX11_wrongAt
          rw [show N3 211 (Int32.toNatClampNeg (6 : Int32)) = nI 4 from (show N3 211 6 = nI (nX (N3 211)) from f2.2.2.2.1.1).trans (by rw [z]), if_pos (show nI 4 = (4 : Int32) by decide), q9]
          exact chk_n (show 6 < 164 by decide) (by decide)
        rw [hr, show mX8_mark 198 (6 : Int32) (nI p) (upd2 M 198 2 (nI e)) = _ from mark_ok (c := 6) qR.2.2.2.2.1]
        simp only [bnp_some]
        unfold mX2_readClause_c45
        rw [blank_no (FLT_ne c1)]
        simp only [bnp_some]
        rw [sound_no (FLT_ne c1)]
        simp only [bnp_some]
        rw [if_pos trivial]
        exact Or.inr ⟨_, _, rfl, rfl, c1, qF.trans c2.b, qG.trans c3.b2⟩
      · rw [if_pos (show nI (nX (N3 211)) < (4 : Int32) by rw [show (4 : Int32) = nI 4 from rfl, nI_ltI (by omega) (by omega)]; omega)]
        exact hok (fun _ => by omega)
    · rw [if_neg (show ¬ nI w = (9 : Int32) by rw [show (9 : Int32) = nI 9 from rfl, nI_eq (by omega) (by omega)]; exact w9)]
      exact hok (fun z => absurd z w9)
  · rw [rc_no n20 w1 (word_no10 t1), t2, w2]
    simp only [bnd_some]
    rw [if_neg (show ¬ (-1 : Int32) = 9 by decide)]
    unfold mX2_readClause_c45
    rw [blank_no (FLT_ne t3)]
    simp only [bnp_some]
    rw [sound_no (FLT_ne t3)]
    simp only [bnp_some]
    rw [if_pos trivial]
    exact Or.inr ⟨_, _, rfl, rfl, t3, ((FR_up (k := 3) (by decide)).trans (FR_up (k := 4) (by decide))).b, w3.b2.trans (GR_up (by omega)).b2⟩
end
section
/-! all CLAUSES of a text, on both sides -/
def FK (M M' : Mem) : Prop := ∀ o k, (o < 164 ∨ 199 ≤ o) → M' o k = M o k
theorem FK.trans {M M1 M2 : Mem} (h1 : FK M M1) (h2 : FK M1 M2) : FK M M2 := fun o k h => (h2 o k h).trans (h1 o k h)
theorem FB.k {M M' : Mem} (h : FB M M') : FK M M' := fun o k g => h o k (by omega)
theorem FR.k {M M' : Mem} (h : FR 198 M M') : FK M M' := h.b.k
theorem FK_up {M : Mem} {o k : Nat} {v : Int32} (h : 164 ≤ o ∧ o ≤ 198) : FK M (upd2 M o k v) := fun o' k' g => u2o _ _ (by omega)
def refB (n k : Nat) (N : Mem) : Option (Int32 × Mem) := (bnd (mX11_readsClause n N) fun r7 M8 => (mX11_book_c82 n k r7 M8))
theorem c19_end {n k : Nat} {v : Int32} {M : Mem} : mX2_read_c19 n (k + 1) 0 v M = some ((((-1000 : Int32) * (M 198 3)) - (M 198 4)), M) := by
  unfold mX2_read_c19 mX8_faultAnswer
  by_cases h : (20 : Int32) < v
  · rw [if_pos h]; rfl
  · rw [if_neg h, if_pos rfl]; rfl
theorem c82_0 {n k : Nat} {N : Mem} : mX11_book_c82 n (k + 1) 0 N = some (N 207 7, N) := by
  unfold mX11_book_c82
  rw [if_pos rfl, if_pos rfl]
def BkO (n : Nat) (M N : Mem) (mc mm : Option (Int32 × Mem)) : Prop :=
  (∃ s M' N', mc = some (0, M') ∧ mm = mX11_book_c133 n n 2 N' ∧ s ≤ 20 ∧ M' 164 7 = nI s ∧ N' 207 12 = nI s ∧ RT 164 M' (N' 211) ∧ IT (N' 211) ∧ FK M M' ∧ GB2 N N') ∨
  (∃ r M' N', mc = some (r, M') ∧ mm = some (r, N') ∧ ¬ r = 0 ∧ FK M M' ∧ GB2 N N')
theorem BkO.pre {n : Nat} {M N M1 N1 : Mem} {mc mm : Option (Int32 × Mem)} (h : BkO n M1 N1 mc mm) (hM : FK M M1) (hN : GB2 N N1) : BkO n M N mc mm := by
  rcases h with ⟨s, M', N', a1, a2, a3, a4, a5, a6, a7, a8, a9⟩ | ⟨r, M', N', a1, a2, a3, a4, a5⟩
  · exact Or.inl ⟨s, M', N', a1, a2, a3, a4, a5, a6, a7, hM.trans a8, hN.trans a9⟩
  · exact Or.inr ⟨r, M', N', a1, a2, a3, hM.trans a4, hN.trans a5⟩
theorem book_go {n L : Nat} (hn : 20000 ≤ n) : ∀ (d k i p : Nat) (M N : Mem), i + d = 20 → d + 2 < k → RD 198 L p M N → RT 164 M (N 211) → IT (N 211) → M 164 7 = nI i → N 207 12 = nI i → BkO n M N (mX2_read_c19 n k 1 (nI i) M) (refB n k N) := by
  intro d
  induction d with
  | zero =>
    intro k i p M N e hk h hT hI h7 h12
    obtain ⟨k, rfl⟩ : ∃ k', k = k' + 1 + 1 := ⟨k - 2, by omega⟩
    have hi : i = 20 := by omega
    subst hi
    obtain ⟨f1, f2, f3⟩ := RD_fault (c := 4) (at' := p) h (by decide) (by decide) (by have := h.1; have := h.2.1; omega)
    obtain ⟨h0, g1, g2, g3, g4, g5, g6, g7, hE⟩ := id h
    have c : mX2_read_c19 n (k + 1 + 1) 1 (nI 20) M = some ((((-1000 : Int32) * (upd2 (upd2 M 198 3 (nI 4)) 198 4 (nI p) 198 3)) - (upd2 (upd2 M 198 3 (nI 4)) 198 4 (nI p) 198 4)), upd2 (upd2 M 198 3 (nI 4)) 198 4 (nI p)) := by
      rw [mX2_read_c19, if_neg (show ¬ (20 : Int32) < nI 20 by decide), if_neg (show ¬ (1 : Int32) = 0 by decide), if_pos (show nI 20 = (20 : Int32) by decide), g3, show mX8_mark 198 (4 : Int32) (nI p) M = _ from mark_ok (c := 4) g4]
      simp only [bnp_some]
      rw [goes_no (FLT_ne f1)]
      simp only [bnd_some]
      rw [c19_end]
    have m : refB n (k + 1 + 1) N = some (upd2 N 207 7 ((-1000 : Int32) * nI 4 - nI p) 207 7, upd2 N 207 7 ((-1000 : Int32) * nI 4 - nI p)) := by
      unfold refB mX11_readsClause mX11_wrongAt
      rw [h12, if_pos (show nI 20 = (20 : Int32) by decide), g7]
      simp only [bnd_some]
      rw [c82_0]; rfl
    obtain ⟨v1, v2⟩ := flt_val f1
    rw [c, m, v1]
    exact Or.inr ⟨_, _, _, rfl, rfl, v2, f2.k, f3.b2⟩
  | succ d ih =>
    intro k i p M N e hk h hT hI h7 h12
    obtain ⟨k, rfl⟩ : ∃ k', k = k' + 1 + 1 := ⟨k - 2, by omega⟩
    have hi : i < 20 := by omega
    have hc : mX2_read_c19 n (k + 1 + 1) 1 (nI i) M = (bnp (mX2_readClause n M) fun M4 => (bnd (mX8_goesOn 198 (upd2 M4 164 7 ((M4 164 7) + (1 : Int32)))) fun r5 M6 => ((mX2_read_c19 n (k + 1)) r5 (nI (i + 1)) M6))) := by
      rw [mX2_read_c19, if_neg (show ¬ (20 : Int32) < nI i by rw [show (20 : Int32) = nI 20 from rfl, nI_ltI (by omega) (by omega)]; omega), if_neg (show ¬ (1 : Int32) = 0 by decide), if_neg (show ¬ nI i = (20 : Int32) by rw [show (20 : Int32) = nI 20 from rfl, nI_eq (by omega) (by omega)]; omega), place_s]
    rw [hc]
    unfold refB
    rcases B_clause (n := n) hn hi h12 h hT hI with ⟨q, M1, N1, c1, c2, c3, c4, c5, c6, c7, c8⟩ | ⟨M1, N1, c1, c2, c3, c4, c5⟩
    · have s1 : M1 164 7 = nI i := by rw [c7 164 7 (by omega)]; exact h7
      have hR : RD 198 L q (upd2 M1 164 7 (nI (i + 1))) N1 := RD_M c3 (by decide) (by decide)
      have fM : FK M (upd2 M1 164 7 (nI (i + 1))) := c7.k.trans (FK_up (by decide))
      have tM : RT 164 (upd2 M1 164 7 (nI (i + 1))) (N1 211) := by
        obtain ⟨r0, r1, r2, r3, r4, r5⟩ := c4
        have hX := c5.2.2.2.1.2
        refine ⟨by rw [u2k _ _ (by decide)]; exact r0, by rw [u2k _ _ (by decide)]; exact r1, by rw [u2k _ _ (by decide)]; exact r2, by rw [u2k _ _ (by decide)]; exact r3, fun j hj => by rw [u2o _ _ (by decide), u2o _ _ (by decide)]; exact r4 j hj, fun w hw => ?_⟩
        have z := c5.2.2.2.2.2 w hw
        exact RP_congr (r5 w hw) z.2.2.1.2 z.2.2.2.2.2.2.1.2 (fun o k a b => u2o _ _ (by omega)) (fun _ _ => rfl)
      have hh := m_here hR
      obtain ⟨h0, g1, g2, g3, g4, g5, g6, g7, hE⟩ := id hR
      rw [c1, c2]
      simp only [bnp_some, bnd_some]
      rw [s1, place_s]
      have hmm : mX11_book_c82 n (k + 1 + 1) 1 N1 = (if nI L ≤ nI q then mX11_book_c133 n n (2 : Int32) N1 else (bnd (mX11_takesSign (59 : Int32) N1) fun r1 M2 => (if r1 = 0 then ((mX11_book_c82 n (k + 1)) (0 : Int32) M2) else (bnd (mX11_readsClause n M2) fun r4 M5 => (if r4 = 0 then ((mX11_book_c82 n (k + 1)) (0 : Int32) M5) else ((mX11_book_c82 n (k + 1)) (1 : Int32) M5)))))) := by
        rw [mX11_book_c82, if_neg (show ¬ (1 : Int32) = 0 by decide), if_neg (show ¬ (1 : Int32) = 0 by decide), g6, g7]
      rw [hmm]
      unfold mX8_goesOn
      rw [if_pos g4, g3, g2]
      by_cases hq : q < L
      · rw [if_pos (show nI q < nI L by rw [nI_ltI (by omega) (by omega)]; exact hq), if_neg (show ¬ nI L ≤ nI q by rw [nI_leI (by omega) (by omega)]; omega), c_byte g2 g1 (by omega)]
        unfold mX11_takesSign mX11_wrongAt
        rw [hh, g7]
        simp only [bnp_some, bnd_some]
        by_cases hs : bt (upd2 M1 164 7 (nI (i + 1))) L q = (59 : Int32)
        · rw [if_pos hs, if_pos hs]
          simp only [bnd_some]
          rw [if_neg (show ¬ (1 : Int32) = 0 by decide), place_s]
          have hR2 : RD 198 L (q + 1) (upd2 (upd2 M1 164 7 (nI (i + 1))) 198 2 (nI (q + 1))) (upd2 N1 207 5 (nI (q + 1))) := RD_next (by decide) hR hq
          obtain ⟨t1, t2⟩ := DR_fr tM c5 (FR_up (k := 2) (v := nI (q + 1)) (by decide)) (GR_up (N := N1) (k := 5) (v := nI (q + 1)) (by omega))
          have j7 : upd2 (upd2 M1 164 7 (nI (i + 1))) 198 2 (nI (q + 1)) 164 7 = nI (i + 1) := by rw [u2o _ _ (by decide), u2s]
          have j12 : upd2 N1 207 5 (nI (q + 1)) 207 12 = nI (i + 1) := by rw [u2k _ _ (by decide)]; exact c6
          have ih2 := ih (k + 1) (i + 1) (q + 1) (upd2 (upd2 M1 164 7 (nI (i + 1))) 198 2 (nI (q + 1))) (upd2 N1 207 5 (nI (q + 1))) (by omega) (by omega) hR2 t1 t2 j7 j12
          have e2 : (bnd (mX11_readsClause n (upd2 N1 207 5 (nI (q + 1)))) fun r4 M5 => (if r4 = 0 then ((mX11_book_c82 n (k + 1)) (0 : Int32) M5) else ((mX11_book_c82 n (k + 1)) (1 : Int32) M5))) = refB n (k + 1) (upd2 N1 207 5 (nI (q + 1))) := by
            unfold refB
            rcases (show i + 1 < 20 ∨ i + 1 = 20 by omega) with z | z
            · rcases B_clause (n := n) hn z j12 hR2 t1 t2 with ⟨_, _, _, _, w2, _⟩ | ⟨_, _, _, w2, _⟩
              · rw [w2]; rfl
              · rw [w2]; rfl
            · unfold mX11_readsClause mX11_wrongAt
              rw [j12, z, if_pos (show nI 20 = (20 : Int32) by decide)]; rfl
          rw [e2]
          exact ih2.pre (fM.trans (FR_up (by decide)).k) (GB2.trans c8 (GR_up (by omega)).b2)
        · obtain ⟨f1, f2, f3⟩ := RD_fault (c := 1) (at' := q) hR (by decide) (by decide) (by omega)
          rw [if_neg hs, if_neg hs, show mX8_mark 198 (1 : Int32) (nI q) (upd2 M1 164 7 (nI (i + 1))) = _ from mark_ok (c := 1) g4]
          simp only [bnp_some, bnd_some]
          rw [if_pos trivial, c19_end, c82_0]
          obtain ⟨v1, v2⟩ := flt_val f1
          rw [v1]
          exact Or.inr ⟨_, _, _, rfl, rfl, v2, fM.trans f2.k, GB2.trans c8 f3.b2⟩
      · rw [if_neg (show ¬ nI q < nI L by rw [nI_ltI (by omega) (by omega)]; exact hq), if_pos (show nI L ≤ nI q by rw [nI_leI (by omega) (by omega)]; omega)]
        simp only [bnd_some]
        rw [c19_end, g4, g5]
        exact Or.inl ⟨i + 1, _, N1, rfl, rfl, by omega, u2s _ _ _ _, c6, tM, c5, fM, c8⟩
    · have fM : FK M (upd2 M1 164 7 (M1 164 7 + 1)) := c4.k.trans (FK_up (by decide))
      have f1 : FLT 198 (upd2 M1 164 7 (M1 164 7 + 1)) N1 := FLT_M c3 (by decide)
      rw [c1, c2]
      simp only [bnp_some, bnd_some]
      rw [goes_no (FLT_ne f1)]
      simp only [bnd_some]
      rw [c19_end, c82_0]
      obtain ⟨v1, v2⟩ := flt_val f1
      rw [v1]
      exact Or.inr ⟨_, _, _, rfl, rfl, v2, fM, c5⟩
end
section
/-! THE BOOK is begun anew and read, on both sides -/
def zP (q : Nat) (M : Mem) : Prop := M q 0 = 0 ∧ M q 1 = 0 ∧ M q 2 = 0 ∧ M q 5 = 0 ∧ M q 6 = 0 ∧ M q 7 = 0 ∧ M q 8 = 0
theorem c_clrP {q : Nat} {M : Mem} : ∃ M', mX7_clear q M = some M' ∧ zP q M' ∧ Fr q (q + 1) M M' := by
  unfold mX7_clear
  refine ⟨_, rfl, ⟨?_, ?_, ?_, ?_, ?_, ?_, ?_⟩, fun o k h => ?_⟩
  · rw [u2k _ _ (by decide), u2k _ _ (by decide), u2k _ _ (by decide), u2k _ _ (by decide), u2k _ _ (by decide), u2k _ _ (by decide), u2s]
  · rw [u2k _ _ (by decide), u2k _ _ (by decide), u2k _ _ (by decide), u2k _ _ (by decide), u2k _ _ (by decide), u2s]
  · rw [u2k _ _ (by decide), u2k _ _ (by decide), u2k _ _ (by decide), u2k _ _ (by decide), u2s]
  · rw [u2k _ _ (by decide), u2k _ _ (by decide), u2k _ _ (by decide), u2s]
  · rw [u2k _ _ (by decide), u2k _ _ (by decide), u2s]
  · rw [u2k _ _ (by decide), u2s]
  · rw [u2s]
  · have : o ≠ q := by omega
    rw [u2o _ _ this, u2o _ _ this, u2o _ _ this, u2o _ _ this, u2o _ _ this, u2o _ _ this, u2o _ _ this]
theorem zP_cg {q : Nat} {M M' : Mem} (h : zP q M) (e : ∀ k, M' q k = M q k) : zP q M' := by
  unfold zP
  simp only [e]
  exact h
theorem c_clr {n : Nat} : ∀ (d k i : Nat) (M : Mem), i + d = 6 → d < k → (∀ p, p < i → zP (168 + 5 * p) M) → ∃ M', mX9_clear_c2 n k 164 (nI i) M = some M' ∧ (∀ p, p < 6 → zP (168 + 5 * p) M') ∧ M' 164 1 = 0 ∧ M' 164 2 = 0 ∧ M' 164 3 = 0 ∧ M' 164 4 = 0 ∧ M' 164 7 = 0 ∧ Fr 164 198 M M' := by
  intro d
  induction d with
  | zero =>
    intro k i M e hk hP
    obtain ⟨k, rfl⟩ : ∃ k', k = k' + 1 := ⟨k - 1, by omega⟩
    have hi : i = 6 := by omega
    subst hi
    unfold mX9_clear_c2
    rw [if_pos (show (6 : Int32) ≤ nI 6 by decide)]
    refine ⟨_, rfl, fun p hp => zP_cg (hP p hp) (fun j => ?_), ?_, ?_, ?_, ?_, ?_, fun o k h => ?_⟩
    · have : 168 + 5 * p ≠ 164 := by omega
      rw [u2o _ _ this, u2o _ _ this, u2o _ _ this, u2o _ _ this, u2o _ _ this]
    · rw [u2k _ _ (by decide), u2k _ _ (by decide), u2k _ _ (by decide), u2k _ _ (by decide), u2s]
    · rw [u2k _ _ (by decide), u2k _ _ (by decide), u2k _ _ (by decide), u2s]
    · rw [u2k _ _ (by decide), u2k _ _ (by decide), u2s]
    · rw [u2k _ _ (by decide), u2s]
    · rw [u2s]
    · have : o ≠ 164 := by omega
      rw [u2o _ _ this, u2o _ _ this, u2o _ _ this, u2o _ _ this, u2o _ _ this]
  | succ d ih =>
    intro k i M e hk hP
    obtain ⟨k, rfl⟩ : ∃ k', k = k' + 1 := ⟨k - 1, by omega⟩
    obtain ⟨M1, a1, a2, a3⟩ := c_clrP (q := 168 + 5 * i) (M := M)
    obtain ⟨M2, b1, b2, b3, b4, b5, b6, b7, b8⟩ := ih k (i + 1) M1 (by omega) (by omega) (fun p hp => by
      rcases (show p = i ∨ p < i by omega) with rfl | g
      · exact a2
      · exact zP_cg (hP p g) (fun j => a3 _ _ (by omega)))
    refine ⟨M2, ?_, b2, b3, b4, b5, b6, b7, fun o k h => (b8 o k h).trans (a3 o k (by omega))⟩
    unfold mX9_clear_c2
    rw [if_neg (show ¬ (6 : Int32) ≤ nI i by rw [show (6 : Int32) = nI 6 from rfl, nI_leI (by omega) (by omega)]; omega), chk_n (show i < 6 by omega) (by decide), nI_clamp (by omega), show 164 + 1 + 3 + 5 * i = 168 + 5 * i by omega, a1]
    simp only [bnp_some]
    rw [place_s]
    exact b1
theorem IT_zero {g : Nat → Int32} (h : ∀ j, j < 164 → g j = nI 0) : IT g := by
  have eX : nX g = 0 := by unfold nX; rw [h 6 (by decide)]; exact na_nI (by decide)
  have z : ∀ B, isN (nI 0) B := fun B => by unfold isN; exact ⟨by rw [na_nI (by decide)], by rw [na_nI (by decide)]; exact Nat.zero_le _⟩
  have zm : ∀ B, isM (nI 0) (na (nI 0)) B := fun B => by unfold isM; rw [na_nI (by decide)]; exact ⟨rfl, Nat.zero_le _⟩
  have w0 : ∀ p w, p < 6 → w < 24 → fP g p w = nI 0 := fun p w hp hw => h _ (by omega)
  have e0 : na (nI 0) = 0 := na_nI (by decide)
  unfold IT
  rw [eX, h 2 (by decide), h 3 (by decide), h 5 (by decide), h 6 (by decide)]
  refine ⟨z _, z _, z _, ⟨rfl, by omega⟩, fun i hi => by rw [h _ (by omega), h _ (by omega)]; exact ⟨z _, z _⟩, fun p hp => ?_⟩
  have eT : pT g p = 0 := by unfold pT; rw [w0 p _ hp (by decide)]; exact e0
  unfold IP
  rw [eT]
  refine ⟨?_, ?_, ?_, ?_, ?_, ?_, ?_, fun i hi => ?_, fun i hi => ?_, fun i hi => absurd hi (by omega), fun i hi => absurd hi (by omega)⟩
  · unfold pP; rw [w0 p _ hp (by decide)]; exact zm _
  · unfold pF; rw [w0 p _ hp (by decide)]; exact zm _
  · rw [w0 p _ hp (by decide)]; exact ⟨rfl, by omega⟩
  · unfold pR; rw [w0 p _ hp (by decide)]; exact zm _
  · unfold pW; rw [w0 p _ hp (by decide)]; exact zm _
  · unfold pZ; rw [w0 p _ hp (by decide)]; exact zm _
  · unfold pK; rw [w0 p _ hp (by decide)]; exact zm _
  · unfold pB pC; rw [w0 p _ hp (by omega), w0 p _ hp (by omega)]; exact ⟨zm _, zm _⟩
  · unfold pS pO; rw [w0 p _ hp (by omega), w0 p _ hp (by omega)]; exact ⟨zm _, zm _⟩
theorem RT_zero {M : Mem} {g : Nat → Int32} (h : ∀ j, j < 164 → g j = nI 0) (hP : ∀ p, p < 6 → zP (168 + 5 * p) M) (h1 : M 164 1 = 0) (h2 : M 164 2 = 0) (h3 : M 164 3 = 0) (h4 : M 164 4 = 0) : RT 164 M g := by
  have e0 : na (nI 0) = 0 := na_nI (by decide)
  have eX : nX g = 0 := by unfold nX; rw [h 6 (by decide)]; exact e0
  have w0 : ∀ p w, p < 6 → w < 24 → fP g p w = nI 0 := fun p w hp hw => h _ (by omega)
  unfold RT
  rw [eX, h 2 (by decide), h 3 (by decide), h 5 (by decide), h 6 (by decide)]
  refine ⟨h1, h2, h3, h4, fun i hi => absurd hi (by omega), fun p hp => ?_⟩
  have eT : pT g p = 0 := by unfold pT; rw [w0 p _ hp (by decide)]; exact e0
  have eK : pK g p = 0 := by unfold pK; rw [w0 p _ hp (by decide)]; exact e0
  obtain ⟨z0, z1, z2, z3, z4, z5, z6⟩ := hP p hp
  rw [show 164 + 4 + 5 * p = 168 + 5 * p by omega]
  unfold RP
  rw [eT, eK, w0 p _ hp (by decide), w0 p _ hp (by decide), w0 p _ hp (by decide), w0 p _ hp (by decide), w0 p _ hp (by decide), w0 p _ hp (by decide), w0 p _ hp (by decide)]
  exact ⟨z0, z1, z2, z3, z4, z5, z6, fun i hi => absurd hi (by omega), fun i hi => absurd hi (by omega)⟩
/-- the reference's loops -/
def zrd (j : Nat) (N : Mem) : Mem := fun o i => if o = 211 ∧ j ≤ i ∧ i < 164 then 0 else N o i
theorem zrd_s {j : Nat} {N : Mem} (hj : j < 164) : zrd (j + 1) (upd2 N 211 j 0) = zrd j N := by
  funext o i
  unfold zrd
  by_cases z : o = 211 ∧ i = j
  · obtain ⟨rfl, rfl⟩ := z
    rw [if_neg (by omega), if_pos (by omega), u2s]
  · by_cases y : o = 211 ∧ j ≤ i ∧ i < 164
    · rw [if_pos y, if_pos (by omega)]
    · rw [if_neg y, if_neg (by omega)]
      by_cases x : o = 211
      · subst x; exact u2k _ _ (by omega)
      · exact u2o _ _ x
theorem zrd_e {N : Mem} : zrd 164 N = N := by
  funext o i
  unfold zrd
  rw [if_neg (by omega)]
theorem c50_go {n : Nat} : ∀ (d k j : Nat) (N : Mem), j + d = 164 → d < k → mX11_book_c50 n k (nI j) N = refB n n (upd2 (zrd j N) 207 12 0) := by
  intro d
  induction d with
  | zero =>
    intro k j N e hk
    obtain ⟨k, rfl⟩ : ∃ k', k = k' + 1 := ⟨k - 1, by omega⟩
    have hj : j = 164 := by omega
    subst hj
    unfold mX11_book_c50
    rw [if_pos (show (164 : Int32) ≤ nI 164 by decide), zrd_e]; rfl
  | succ d ih =>
    intro k j N e hk
    obtain ⟨k, rfl⟩ : ∃ k', k = k' + 1 := ⟨k - 1, by omega⟩
    unfold mX11_book_c50
    rw [if_neg (show ¬ (164 : Int32) ≤ nI j by rw [show (164 : Int32) = nI 164 from rfl, nI_leI (by omega) (by omega)]; omega), chk_n (show j < 164 by omega) (by decide), nI_clamp (by omega), place_s, ih k (j + 1) _ (by omega) (by omega), zrd_s (by omega)]
def lay (j : Nat) (N : Mem) : Mem := fun o i => if o = 209 ∧ j ≤ i ∧ i < 164 then N 211 i else N o i
theorem lay_s {j : Nat} {N : Mem} (hj : j < 164) : lay (j + 1) (upd2 N 209 j (N 211 j)) = lay j N := by
  funext o i
  unfold lay
  rw [u2o _ _ (show (211 : Nat) ≠ 209 by decide)]
  by_cases z : o = 209 ∧ i = j
  · obtain ⟨rfl, rfl⟩ := z
    rw [if_neg (by omega), if_pos (by omega), u2s]
  · by_cases y : o = 209 ∧ j ≤ i ∧ i < 164
    · rw [if_pos y, if_pos (by omega)]
    · rw [if_neg y, if_neg (by omega)]
      by_cases x : o = 209
      · subst x; exact u2k _ _ (by omega)
      · exact u2o _ _ x
theorem lay_e {N : Mem} : lay 164 N = N := by
  funext o i
  unfold lay
  rw [if_neg (by omega)]
theorem c133_go {n : Nat} : ∀ (d k j : Nat) (N : Mem), j + d = 164 → d < k → mX11_book_c133 n k (nI j) N = some (N 207 12, upd2 (lay j N) 209 4 (N 207 12)) := by
  intro d
  induction d with
  | zero =>
    intro k j N e hk
    obtain ⟨k, rfl⟩ : ∃ k', k = k' + 1 := ⟨k - 1, by omega⟩
    have hj : j = 164 := by omega
    subst hj
    unfold mX11_book_c133
    rw [if_pos (show (164 : Int32) ≤ nI 164 by decide), lay_e, show chk (4 : Int32) 12750 = fun (y : Option (Int32 × Mem)) => y from funext fun y => chk_n (show 4 < 12750 by decide) (by decide)]
    rfl
  | succ d ih =>
    intro k j N e hk
    obtain ⟨k, rfl⟩ : ∃ k', k = k' + 1 := ⟨k - 1, by omega⟩
    unfold mX11_book_c133
    rw [if_neg (show ¬ (164 : Int32) ≤ nI j by rw [show (164 : Int32) = nI 164 from rfl, nI_leI (by omega) (by omega)]; omega), chk_n (show j < 164 by omega) (by decide), chk_n (show j < 12750 by omega) (by decide), nI_clamp (by omega), place_s, ih k (j + 1) _ (by omega) (by omega), lay_s (by omega), u2o _ _ (by decide)]
/-- the row with a new BOOK -/
def nBk (f g : Nat → Int32) (s : Nat) : Nat → Int32 := fun i => if i = 4 then nI s else if 2 ≤ i ∧ i < 164 then g i else f i
theorem nBk_f {f g : Nat → Int32} {s j : Nat} (h : j < 2 ∨ 164 ≤ j) : nBk f g s j = f j := by
  unfold nBk; rw [if_neg (by omega), if_neg (by omega)]
theorem nBk_g {f g : Nat → Int32} {s j : Nat} (h : 2 ≤ j) (h2 : j < 164) (h3 : j ≠ 4) : nBk f g s j = g j := by
  unfold nBk; rw [if_neg (by omega), if_pos (by omega)]
theorem nBk_4 {f g : Nat → Int32} {s : Nat} : nBk f g s 4 = nI s := if_pos rfl
theorem nBk_row {N : Mem} {s : Nat} (h : N 207 12 = nI s) : upd2 (lay 2 N) 209 4 (N 207 12) 209 = nBk (N 209) (N 211) s := by
  funext i
  unfold nBk
  by_cases z : i = 4
  · rw [if_pos z, z, u2s, h]
  · rw [if_neg z, u2k _ _ z]
    unfold lay
    by_cases y : 2 ≤ i ∧ i < 164
    · rw [if_pos y, if_pos ⟨rfl, y⟩]
    · rw [if_neg y, if_neg (fun q => y q.2)]
theorem INV_book {f g : Nat → Int32} {s : Nat} (hI : INV f) (hg : IT g) (hs : s ≤ 20) : INV (nBk f g s) := by
  obtain ⟨⟨t0, t1, t2, hIT, hIA, hIE⟩, hR⟩ := hI
  have eT : tD (nBk f g s) = tD f := by unfold tD; rw [nBk_f (by omega)]
  have eS : sz (nBk f g s) = sz f := by unfold sz; rw [nBk_f (by omega)]
  have eC : cL (nBk f g s) = s := by unfold cL; rw [nBk_4]; exact na_nI (by omega)
  have eA : ∀ x w, x < 6 → w < 12 → fA (nBk f g s) x w = fA f x w := fun x w hx hw => nBk_f (by omega)
  have hI' : INV0 (nBk f g s) := by
    unfold INV0
    rw [eT, eS, eC, nBk_f (by omega), nBk_f (by omega), nBk_4]
    exact ⟨t0, t1, ⟨rfl, hs⟩, IT_congr hg (fun j h1 h2 h3 => nBk_g h1 h2 h3), fun y hy => IA_congr (hIA y hy) (fun w hw => eA y w hy hw) (Nat.le_of_eq eT.symm) (Nat.le_of_eq eS.symm),
      fun i hi => IE_congr (hIE i hi) (fun w hw => nBk_f (by omega)) (Nat.le_of_eq eS.symm) (fun y hy h1 => by rw [eA y 0 hy (by decide)]; exact h1)⟩
  exact ⟨hI', fun y hy => RUN_same hI' hy (hR y hy) eT (fun w hw => eA y w hy (by omega))⟩
theorem RS_book {M M' : Mem} {f g : Nat → Int32} {s : Nat} (hR : RS 4 M f) (hI : INV0 f) (hg : IT g) (hM : ∀ o k, (4 ≤ o ∧ o < 57 ∧ ¬ (5 ≤ o ∧ o < 39)) → M' o k = M o k) (hT : RT 5 M' g) (h7 : M' 5 7 = nI s) : RS 4 M' (nBk f g s) := by
  obtain ⟨q0, q1, qT, qA, e0, qE⟩ := hR
  have hs := hI.2.1.2
  have eS : sz (nBk f g s) = sz f := by unfold sz; rw [nBk_f (by omega)]
  have eA : ∀ x w, x < 6 → w < 12 → fA (nBk f g s) x w = fA f x w := fun x w hx hw => nBk_f (by omega)
  have eE : ∀ i w, w < 10 → fE (nBk f g s) i w = fE f i w := fun i w hw => nBk_f (by omega)
  have eAll : ∀ x, allS (nBk f g s) x = allS f x := fun x => by
    unfold allS
    rw [eS]
    apply sumR_congr
    intro j _ hj
    rw [eE j 1 (by decide), eE j 7 (by decide)]
  refine ⟨?_, ?_, ?_, fun x hx => ?_, ?_, fun i hi => ?_⟩
  · rw [hM _ _ (by omega), nBk_f (by omega)]; exact q0
  · rw [nBk_4]; exact h7
  · exact RT_congr hT hg (fun _ _ _ _ => rfl) (fun j h1 h2 h3 => nBk_g h1 h2 h3)
  · have := RA_congrM (qA x hx) (M' := M') (fun k => hM _ _ (by omega))
    unfold RA aN aD at *
    rw [eAll]
    simp (disch := omega) only [eA]
    exact this
  · rw [hM _ _ (by omega), nBk_f (by omega)]; exact e0
  · rw [eS] at hi
    have := (RE_congrM (M' := M') ⟨e0, qE⟩ (fun o k h1 h2 => hM _ _ (by omega))).2 i hi
    simp (disch := omega) only [eE]
    exact this
theorem FK.ft {M M' : Mem} (h : FK M M') : FT M M' := fun o k g => h o k (by omega)
theorem GB2.gt {N N' : Mem} (h : GB2 N N') : GT N N' := fun o k g => h o k (by
  have := hHI 2 (by decide)
  rcases g with g | g | g <;> omega)
theorem book_read {M N : Mem} {n L T : Nat} (hn : 20000 ≤ n) (hL : L ≤ 200) (hLT : L ≤ T) (t4 : ∀ i, i < T → M 1 i = N 210 i) : ∃ M0 N0, BkO n M0 N0 (mX2_read n (nI L) (upd2 M 0 1 0)) (mX11_book_c50 n n (0 : Int32) (upd2 (upd2 (upd2 N 207 5 (0 : Int32)) 207 6 (nI L)) 207 4 (0 : Int32))) ∧ FT M M0 ∧ GT N N0 ∧ M0 0 1 = 0 ∧ N0 207 4 = 0 := by
  obtain ⟨N1, hN1⟩ : ∃ N1, N1 = upd2 (upd2 (upd2 N 207 5 (0 : Int32)) 207 6 (nI L)) 207 4 (0 : Int32) := ⟨_, rfl⟩
  obtain ⟨M1, hM1⟩ : ∃ M1, M1 = upd2 (upd2 (upd2 (upd2 (upd2 M 0 1 0) 198 1 (nI L)) 198 2 0) 198 3 0) 198 4 0 := ⟨_, rfl⟩
  obtain ⟨M0, b1, b2, b3, b4, b5, b6, b7, b8⟩ := c_clr (n := n) 6 n 0 M1 rfl (by omega) (fun p hp => absurd hp (Nat.not_lt_zero _))
  obtain ⟨N0, hN0⟩ : ∃ N0, N0 = upd2 (zrd 0 N1) 207 12 0 := ⟨_, rfl⟩
  have z : ∀ o i, o ≠ 211 → zrd 0 N1 o i = N1 o i := fun o i h => by unfold zrd; rw [if_neg (fun q => h q.1)]
  have e1 : mX2_read n (nI L) (upd2 M 0 1 0) = mX2_read_c19 n n 1 (nI 0) M0 := by
    unfold mX2_read
    rw [start_c hL, ← hM1]
    simp only [bnp_some]
    unfold mX9_clear
    rw [show (0 : Int32) = nI 0 from rfl, b1]; rfl
  have e2 : mX11_book_c50 n n (0 : Int32) N1 = refB n n N0 := by
    rw [hN0]; exact c50_go 164 n 0 N1 rfl (by omega)
  have g0 : ∀ j, j < 164 → N0 211 j = nI 0 := fun j hj => by
    rw [hN0, u2o _ _ (by decide)]
    unfold zrd
    rw [if_pos ⟨rfl, Nat.zero_le _, hj⟩]; rfl
  have m1 : ∀ k, M0 198 k = M1 198 k := fun k => b8 198 k (by decide)
  have hR : RD 198 L 0 M0 N0 := by
    refine ⟨Nat.zero_le _, hL, ?_, ?_, ?_, ?_, ?_, ?_, fun i hi => ?_⟩
    · rw [m1, hM1, u2k _ _ (by decide), u2k _ _ (by decide), u2k _ _ (by decide), u2s]
    · rw [m1, hM1, u2k _ _ (by decide), u2k _ _ (by decide), u2s]; rfl
    · rw [m1, hM1, u2k _ _ (by decide), u2s]
    · rw [m1, hM1, u2s]
    · rw [hN0, u2k _ _ (by decide), z _ _ (by decide), hN1, u2k _ _ (by decide), u2s]
    · rw [hN0, u2k _ _ (by decide), z _ _ (by decide), hN1, u2k _ _ (by decide), u2k _ _ (by decide), u2s]; rfl
    · rw [b8 1 i (by decide), hM1, u2o _ _ (by decide), u2o _ _ (by decide), u2o _ _ (by decide), u2o _ _ (by decide), u2o _ _ (by decide), hN0, u2o _ _ (by decide), z _ _ (by decide), hN1, u2o _ _ (by decide), u2o _ _ (by decide), u2o _ _ (by decide)]
      exact t4 i (by omega)
  rw [e1, ← hN1, e2]
  refine ⟨M0, N0, book_go hn 20 n 0 0 M0 N0 rfl (by omega) hR (RT_zero g0 b2 b3 b4 b5 b6) (IT_zero g0) b7 (by rw [hN0, u2s]; rfl), fun o k g => ?_, fun o k g => ?_, ?_, ?_⟩
  · rw [b8 o k (by omega), hM1, u2o _ _ (by omega), u2o _ _ (by omega), u2o _ _ (by omega), u2o _ _ (by omega)]
    by_cases z : o = 0
    · subst z; exact u2k _ _ (by omega)
    · exact u2o _ _ z
  · rw [hN0]
    have : upd2 (zrd 0 N1) 207 12 0 o k = zrd 0 N1 o k := by
      by_cases y : o = 207
      · subst y; exact u2k _ _ (by omega)
      · exact u2o _ _ y
    rw [this, z _ _ (by omega), hN1]
    by_cases y : o = 207
    · subst y; rw [u2k _ _ (by omega), u2k _ _ (by omega), u2k _ _ (by omega)]
    · rw [u2o _ _ y, u2o _ _ y, u2o _ _ y]
  · rw [b8 _ _ (by omega), hM1, u2o _ _ (by decide), u2o _ _ (by decide), u2o _ _ (by decide), u2o _ _ (by decide), u2s]
  · rw [hN0, u2k _ _ (by decide), z _ _ (by decide), hN1, u2s]
theorem T_bk {M N M0 N0 M' N' : Mem} (hT : TOT M N) (f1 : FT M M0) (f2 : GT N N0) (z1 : M0 0 1 = 0) (z2 : N0 207 4 = 0) (g1 : FK M0 M') (g2 : GB2 N0 N') : TOT M' N' :=
  T_tape hT (f1.trans g1.ft) (f2.trans g2.gt) ⟨0, by omega, by rw [g1 0 1 (by omega)]; exact z1, by rw [g2 207 4 (by have := hHI 4 (by decide); omega)]; exact z2, fun i hi => absurd hi (Nat.not_lt_zero _)⟩
theorem q_book {M N : Mem} {n : Nat} (hT : TOT M N) (hn : 20000 ≤ n) (a : Int32) : RES (mX10_book n a M) (mX11_book n a N) := by
  obtain ⟨⟨hb, hC, hM, hRS, hI⟩, h57, h110, ⟨T, t1, t2, t3, t4⟩, h6, hK⟩ := id hT
  unfold mX10_book mX11_book
  rcases text_c t1 t2 t3 a with ⟨L, l1, l2, l3, rfl, e1, -, e2, e3⟩ | ⟨e1, -, e2⟩
  · rw [e1, e2]
    simp only [bnp_some]
    rw [if_neg (show ¬ (1 : Int32) = 0 by decide), if_neg (show ¬ (1 : Int32) = 0 by decide), if_pos e3, show chk (1 : Int32) 12750 = fun (y : Option (Int32 × Mem)) => y from funext fun y => chk_n (show 1 < 12750 by decide) (by decide)]
    have s1 : upd2 M 0 1 (0 : Int32) 40 0 = nI (sz (N 209)) := by
      rw [u2o _ _ (by decide)]; exact hRS.2.2.2.2.1.trans hI.1.2.1.1
    have s2 : upd2 (upd2 (upd2 N 207 5 (0 : Int32)) 207 6 (nI L)) 207 4 (0 : Int32) 209 (Int32.toNatClampNeg (1 : Int32)) = nI (sz (N 209)) := by
      rw [u2o _ _ (by decide), u2o _ _ (by decide), u2o _ _ (by decide)]; exact hI.1.2.1.1
    rw [s1, s2]
    by_cases z : nI (sz (N 209)) ≤ 0
    · rw [if_pos z, if_pos z]
      obtain ⟨M0, N0, hO, f1, f2, z1, z2⟩ := book_read (n := n) hn l2 l3 t4
      rcases hO with ⟨s, M1, N1, a1, a2, a3, a4, a5, a6, a7, a8, a9⟩ | ⟨r, M1, N1, a1, a2, a3, a4, a5⟩
      · have hT1 := T_bk hT f1 f2 z1 z2 a8 a9
        obtain ⟨M2, p1, p2, p3, p4⟩ := c_cpT (t := 5) (s := 164) (n := n) a7 (by omega) 6 n 0 M1 rfl (by omega) a6 (fun p hp => absurd hp (Nat.not_lt_zero _))
        have p1' : mX9_copyFrom n 5 164 M1 = some M2 := p1
        have r2 : mX11_book_c133 n n (2 : Int32) N1 = some (N1 207 12, upd2 (lay 2 N1) 209 4 (N1 207 12)) := c133_go 162 n 2 N1 rfl (by omega)
        rw [a1, a2]
        simp only [bnd_some]
        rw [if_pos trivial, p1', r2]
        simp only [bnp_some]
        rw [p3, a4, a5]
        obtain ⟨N2, hN2⟩ : ∃ N2, N2 = upd2 (lay 2 N1) 209 4 (N1 207 12) := ⟨_, rfl⟩
        have e9 : N2 209 = nBk (N1 209) (N1 211) s := by rw [hN2]; exact nBk_row a5
        have o9 : ∀ o k, o ≠ 209 → N2 o k = N1 o k := fun o k h => by
          rw [hN2, u2o _ _ h]
          unfold lay
          rw [if_neg (fun q => h q.1)]
        obtain ⟨⟨ub, uC, uM, uRS, uI⟩, u57, u110, ⟨U, u1, u2, u3, u4⟩, u6, uK⟩ := hT1
        refine ⟨nI s, M2, N2, rfl, by rw [hN2, a5], ⟨ub, CalC_eq uC (fun k => p4 3 k (by omega)), CalM_eq uM (fun k => o9 _ _ (by decide)), ?_, ?_⟩, fun x hx => ?_, fun x hx => ?_, ⟨U, u1, ?_, ?_, fun i hi => ?_⟩, ?_, ?_⟩
        · rw [e9]; exact RS_book uRS uI.1 a7 (fun o k g => p4 o k (by omega)) p2 (by rw [p3]; exact a4)
        · rw [e9]; exact INV_book uI a7 a3
        · rw [p4 _ _ (by omega)]; exact u57 x hx
        · rw [p4 _ _ (by omega)]; exact u110 x hx
        · rw [p4 _ _ (by omega)]; exact u2
        · rw [o9 _ _ (by decide)]; exact u3
        · rw [p4 _ _ (by omega), o9 _ _ (by decide)]; exact u4 i hi
        · rw [p4 _ _ (by omega), o9 _ _ (by decide)]; exact u6
        · have es : secR (N2 209) 1 = secR (N1 209) 1 := funext fun j => by
            rw [e9]; exact nBk_f (by omega)
          rcases uK with q | ⟨q1, q2, q3⟩
          · exact Or.inl ((p4 0 6 (by omega)).trans q)
          · refine Or.inr ⟨(p4 0 6 (by omega)).trans q1, ?_, ?_⟩
            · rw [es]; exact RS_frame q2 q3.1 (fun o k g1 g2 => p4 o k (by omega))
            · rw [es]; exact q3
      · have hT1 := T_bk hT f1 f2 z1 z2 a4 a5
        rw [a1, a2]
        simp only [bnd_some]
        rw [if_neg a3]
        exact ⟨_, _, _, rfl, rfl, hT1⟩
    · rw [if_neg z, if_neg z]
      refine ⟨_, _, _, rfl, rfl, T_tape hT (fun o k g => ?_) (fun o k g => ?_) ⟨0, by omega, u2s _ _ _ _, u2s _ _ _ _, fun i hi => absurd hi (Nat.not_lt_zero _)⟩⟩
      · by_cases y : o = 0
        · subst y; exact u2k _ _ (by omega)
        · exact u2o _ _ y
      · by_cases y : o = 207
        · subst y; rw [u2k _ _ (by omega), u2k _ _ (by omega), u2k _ _ (by omega)]
        · rw [u2o _ _ y, u2o _ _ y, u2o _ _ y]
  · rw [e1]
    simp only [bnp_some]
    rcases e2 with e2 | ⟨e2, e3⟩
    · rw [e2]; exact ⟨_, _, _, rfl, rfl, hT⟩
    · rw [e2]
      simp only [bnp_some]
      rw [if_neg (show ¬ (1 : Int32) = 0 by decide), if_neg e3]; exact ⟨_, _, _, rfl, rfl, hT⟩
end
