/-! the small machine: ints as whole numbers, cells by a kind of place and an index -/
abbrev MR : Type := Nat × Nat
abbrev MV : Type := Int ⊕ (Int ⊕ (Option MR ⊕ Unit))
abbrev vi (x : Int) : MV := .inl x
abbrev vl (x : Int) : MV := .inr (.inl x)
abbrev va (p : Option MR) : MV := .inr (.inr (.inl p))
abbrev vr (r i : Nat) : MV := .inr (.inr (.inl (some (r, i))))
abbrev vx : MV := .inr (.inr (.inr ()))
abbrev MI : Type := Nat → Nat → Nat → Int
abbrev MP : Type := Nat → Nat → Nat → Option MR
/-- ints, longs, references, how many cells have come -/
abbrev MS : Type := MI × (MI × (MP × Nat))
def w32 (x : Int) : Int := (Int32.ofInt x).toInt
def w64 (x : Int) : Int := (Int64.ofInt x).toInt
def b32 (f : Int32 → Int32 → Int32) (a b : Int) : Int := (f (Int32.ofInt a) (Int32.ofInt b)).toInt
def b64 (f : Int64 → Int64 → Int64) (a b : Int) : Int := (f (Int64.ofInt a) (Int64.ofInt b)).toInt
def vIand (a b : Int) : Int := b32 (fun x y => x &&& y) a b
def vIor (a b : Int) : Int := b32 (fun x y => x ||| y) a b
def vIxor (a b : Int) : Int := b32 (fun x y => x ^^^ y) a b
def vIshl (a b : Int) : Int := b32 (fun x y => x <<< (y &&& 31)) a b
def vIshr (a b : Int) : Int := b32 (fun x y => x >>> (y &&& 31)) a b
def vIushr (a b : Int) : Int := b32 (fun x y => (x.toUInt32 >>> (y.toUInt32 &&& Int32.toUInt32 31)).toInt32) a b
def vIdiv (a b : Int) : Int := b32 (fun x y => x / y) a b
def vIrem (a b : Int) : Int := b32 (fun x y => x - x / y * y) a b
def vLdiv (a b : Int) : Int := b64 (fun x y => x / y) a b
def vLcmp (a b : Int) : Int := if b < a then 1 else if a = b then 0 else -1
def up3 {α : Type} (f : Nat → Nat → Nat → α) (r i s : Nat) (v : α) : Nat → Nat → Nat → α := fun a b c => if a = r ∧ b = i ∧ c = s then v else f a b c
-- tables
def own (y : Nat) : Nat := owT.getD y 0
def cod (y : Nat) : ByteArray := codT.getD y ByteArray.empty
def mxl (y : Nat) : Nat := mxT.getD y 0
def rty (y : Nat) : Option FieldType := rtT.getD y none
def knd (y : Nat) : Nat := knT.getD y 0
def nar (y : Nat) : Nat := naT.getD y 0
def lkp {α : Type} (l : List (Nat × α)) (k : Nat) : Option α := match l with
  | [] => none
  | (a, v) :: r => if a = k then some v else lkp r k
def fldR (o ix : Nat) : Option (Nat × Nat × Nat × Nat) := lkp (fldT.getD o []) ix
def mthR (o ix : Nat) : Option (Nat × Nat × Nat) := lkp (mthT.getD o []) ix
def clsR (o ix : Nat) : Option (Nat × Nat) := lkp (clsT.getD o []) ix
def intR (o ix : Nat) : Option (Int × Nat) := lkp (intT.getD o []) ix
def lngR (o ix : Nat) : Option (Int × Nat) := lkp (lngT.getD o []) ix
def strR (o ix : Nat) : Option Nat := lkp (strT.getD o []) ix
def staR (o ix : Nat) : Option (Nat × Nat) := lkp (staT.getD o []) ix
def ftk (c s : Nat) : Nat := (ftT.getD c []).getD s 9
def fin (c s : Nat) : Bool := match mcl[c]? with
  | some q => (q.2.1 s).2.2.2
  | none => true
def sh (r i : Nat) : Nat ⊕ (Nat × Nat) := if r = rSCR then .inr (0, i) else shT.getD r (.inr (7, 0))
/-- the length of an array of a kind (0 where it is none) -/
def alen (e r i : Nat) : Nat := match sh r i with
  | .inl _ => 0
  | .inr (e', n) => if e' = e then n else 0
def romT : List (List Int) := [[0, 0, 0, 0, 0, 1, 0, 0], [9999, 15, 100, 100, 9999, 9999, 100, 15], [0, 0, 0, 0, 100, 10, 50, 0]]
def rom (i j : Nat) : Int := (romT.getD i []).getD j 0
def ldI (h : MS) (r i j : Nat) : Int := if r = rROM then rom i j else h.1 r i j
def nm (j : Nat) : MR := nmT.getD j (999, j)
def slen (n : Nat) : Nat := (litB.getD n []).length
def sch (n j : Nat) : Int := (litB.getD n []).getD j 0
def isS (r : Nat) : Bool := r == rROM || r == rSTR || r == rSCR
