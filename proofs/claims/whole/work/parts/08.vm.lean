/-! the steps of the small machine -/
/-- reading a slot by the sort of what it holds: 0, 1 an int, 2 a long, 3 a reference -/
def rdk (h : MS) (r i s t : Nat) : MV := if t ≤ 1 then vi (h.1 r i s) else if t = 2 then vl (h.2.1 r i s) else va (h.2.2.1 r i s)
def lset (ls : List MV) (j : Nat) (v : MV) : List MV := match ls, j with
  | [], _ => []
  | _ :: r, 0 => v :: r
  | .inr (.inl _) :: _ :: r, 1 => vx :: v :: r
  | a :: r, j + 1 => a :: lset r j v
def ini (z : Nat) (as : List MV) : List MV := as ++ List.replicate (mxl z - as.length) vx
def c1 : MV → Bool
  | .inr (.inl _) => false
  | .inr (.inr (.inr _)) => false
  | _ => true
def cw : MV → Nat
  | .inr (.inl _) => 2
  | _ => 1
def nrK (z : Nat) (x : Int) : Bool := match rty z with
  | some .int => true
  | some .boolean => x == 0 || x == 1
  | _ => false
def cndB (c : Jvm.ClassFile.Cond) (a b : Int) : Bool := match c with
  | .eq => decide (a = b)
  | .ne => decide (¬ a = b)
  | .lt => decide (a < b)
  | .ge => decide (b ≤ a)
  | .gt => decide (b < a)
  | .le => decide (a ≤ b)
abbrev NX : Type := Nat × List MV × List MV × MS
abbrev nk (q : Nat) (ls st : List MV) (h : MS) : Option NX := some (q, ls, st, h)
def ldX (ls : List MV) (j q : Nat) (st : List MV) (h : MS) (t : Nat) : Option NX := match ls[j]? with
  | some (.inl x) => if t = 0 then nk q ls (vi x :: st) h else none
  | some (.inr (.inl x)) => if t = 1 then nk q ls (vl x :: st) h else none
  | some (.inr (.inr (.inl (some p)))) => if t = 2 then nk q ls (va (some p) :: st) h else none
  | _ => none
def stX (ls : List MV) (j q : Nat) (st : List MV) (h : MS) (t : Nat) : Option NX := match st with
  | .inl x :: r => if t = 0 ∧ j < ls.length then nk q (lset ls j (vi x)) r h else none
  | .inr (.inl x) :: r => if t = 1 ∧ j + 1 < ls.length then nk q (lset (lset ls (j + 1) vx) j (vl x)) r h else none
  | .inr (.inr (.inl (some p))) :: r => if t = 2 ∧ j < ls.length then nk q (lset ls j (va (some p))) r h else none
  | _ => none
def bin (f : Int → Int → Int) (q : Nat) (ls st : List MV) (h : MS) : Option NX := match st with
  | .inl b :: .inl a :: r => nk q ls (vi (f a b) :: r) h
  | _ => none
def binN (f : Int → Int → Int) (q : Nat) (ls st : List MV) (h : MS) : Option NX := match st with
  | .inl b :: .inl a :: r => if b = 0 then none else nk q ls (vi (f a b) :: r) h
  | _ => none
def binL (f : Int → Int → Int) (q : Nat) (ls st : List MV) (h : MS) : Option NX := match st with
  | .inr (.inl b) :: .inr (.inl a) :: r => nk q ls (vl (f a b) :: r) h
  | _ => none
def binLN (f : Int → Int → Int) (q : Nat) (ls st : List MV) (h : MS) : Option NX := match st with
  | .inr (.inl b) :: .inr (.inl a) :: r => if b = 0 then none else nk q ls (vl (f a b) :: r) h
  | _ => none
def jmp1 (c : Jvm.ClassFile.Cond) (tg q : Nat) (ls st : List MV) (h : MS) : Option NX := match st with
  | .inl a :: r => if cndB c a 0 then nk tg ls r h else nk q ls r h
  | _ => none
def jmp2 (c : Jvm.ClassFile.Cond) (tg q : Nat) (ls st : List MV) (h : MS) : Option NX := match st with
  | .inl b :: .inl a :: r => if cndB c a b then nk tg ls r h else nk q ls r h
  | _ => none
def getX (o ix q : Nat) (ls st : List MV) (h : MS) : Option NX := match fldR o ix, st with
  | some (c, s, _, _), .inr (.inr (.inl (some (r, i)))) :: rest => if sh r i = .inl c then nk q ls (rdk h r i s (ftk c s) :: rest) h else none
  | _, _ => none
def putX (o ix q kn : Nat) (ls st : List MV) (h : MS) : Option NX := match fldR o ix, st with
  | some (c, s, ne, _), v :: .inr (.inr (.inl (some (r, i)))) :: rest =>
    if sh r i = .inl c ∧ isS r = false ∧ (fin c s = true → kn = 2 ∧ o = c ∧ ne = 0) then match v with
      | .inl x => if ftk c s = 0 ∨ (ftk c s = 1 ∧ (x = 0 ∨ x = 1)) then nk q ls rest (up3 h.1 r i s x, h.2) else none
      | .inr (.inl x) => if ftk c s = 2 then nk q ls rest (h.1, up3 h.2.1 r i s x, h.2.2) else none
      | .inr (.inr (.inl p)) => if ftk c s = 3 then nk q ls rest (h.1, h.2.1, up3 h.2.2.1 r i s p, h.2.2.2) else none
      | _ => none
    else none
  | _, _ => none
def aldX (e q : Nat) (ls st : List MV) (h : MS) : Option NX := match st with
  | .inl j :: .inr (.inr (.inl (some (r, i)))) :: rest =>
    if 0 ≤ j ∧ j < alen e r i then nk q ls ((if e = 1 then vl (h.2.1 r i j.toNat) else vi (ldI h r i j.toNat)) :: rest) h else none
  | _ => none
/-- the sort of elements of an array that holds objects or arrays -/
def aek (r i : Nat) : Nat := match sh r i with
  | .inl _ => 0
  | .inr (e, _) => e
def aaldX (q : Nat) (ls st : List MV) (h : MS) : Option NX := match st with
  | .inl j :: .inr (.inr (.inl (some (r, i)))) :: rest =>
    if 9 ≤ aek r i ∧ aek r i < 23 ∧ 0 ≤ j ∧ j < alen (aek r i) r i then nk q ls (va (h.2.2.1 r i j.toNat) :: rest) h else none
  | _ => none
def astX (e q : Nat) (ls st : List MV) (h : MS) : Option NX := match st with
  | .inl x :: .inl j :: .inr (.inr (.inl (some (r, i)))) :: rest =>
    if (e = 0 ∨ (e = 2 ∧ (x = 0 ∨ x = 1))) ∧ 0 ≤ j ∧ j < alen e r i ∧ isS r = false then nk q ls rest (up3 h.1 r i j.toNat x, h.2) else none
  | .inr (.inl x) :: .inl j :: .inr (.inr (.inl (some (r, i)))) :: rest =>
    if e = 1 ∧ 0 ≤ j ∧ j < alen e r i ∧ isS r = false then nk q ls rest (h.1, up3 h.2.1 r i j.toNat x, h.2.2) else none
  | .inr (.inr (.inl (some (r', i')))) :: .inl j :: .inr (.inr (.inl (some (r, i)))) :: rest =>
    if e = 10 ∧ 10 ≤ aek r i ∧ aek r i < 23 ∧ sh r' i' = .inl (aek r i - 10) ∧ 0 ≤ j ∧ j < alen (aek r i) r i ∧ isS r = false ∧ isS r' = false then nk q ls rest (h.1, h.2.1, up3 h.2.2.1 r i j.toNat (some (r', i')), h.2.2.2) else none
  | _ => none
def atk (a : Jvm.ClassFile.ArrayType) : Nat := match a with
  | .int => 0
  | .long => 1
  | .boolean => 2
  | _ => 8
/-- classes of which there are arrays -/
def aoC (c : Nat) : Bool := ([1, 2, 3, 4, 6, 9, 10] : List Nat).contains c
def newX (v : Nat ⊕ (Nat × Nat)) (q : Nat) (ls st : List MV) (h : MS) : Option NX :=
  if sh (nm h.2.2.2).1 (nm h.2.2.2).2 = v then nk q ls (va (some (nm h.2.2.2)) :: st) (h.1, h.2.1, h.2.2.1, h.2.2.2 + 1) else none
def cpyX (q : Nat) (ls st : List MV) (h : MS) : Option NX := match st with
  | .inl n :: .inl dp :: .inr (.inr (.inl (some (r', i')))) :: .inl sp :: .inr (.inr (.inl (some (r, i)))) :: rest =>
    if 0 ≤ n ∧ 0 ≤ sp ∧ 0 ≤ dp ∧ sp + n ≤ alen 0 r i ∧ dp + n ≤ alen 0 r' i' ∧ isS r = false ∧ isS r' = false ∧ rest = [] ∧ 0 < alen 0 r i ∧ 0 < alen 0 r' i' then
      nk q ls rest ((fun a b c => if a = r' ∧ b = i' ∧ dp.toNat ≤ c ∧ c < dp.toNat + n.toNat then h.1 r i (sp.toNat + (c - dp.toNat)) else h.1 a b c), h.2) else none
  | _ => none
def slnX (q : Nat) (ls st : List MV) (h : MS) : Option NX := match st with
  | .inr (.inr (.inl (some (r, i)))) :: rest => if r = rSTR ∧ i < 24 ∧ (rest.map cw).sum ≤ 8 then nk q ls (vi (slen i) :: rest) h else none
  | _ => none
def schX (q : Nat) (ls st : List MV) (h : MS) : Option NX := match st with
  | .inl j :: .inr (.inr (.inl (some (r, i)))) :: rest => if r = rSTR ∧ i < 24 ∧ 0 ≤ j ∧ j < slen i ∧ (rest.map cw).sum ≤ 8 then nk q ls (vi (sch i j.toNat) :: rest) h else none
  | _ => none
def mthX (z q : Nat) (ls st : List MV) (h : MS) : Option NX :=
  if z = 904 then match st with
    | .inl b :: .inl a :: r => if (r.map cw).sum ≤ 8 then nk q ls (vi (if a < b then b else a) :: r) h else none
    | _ => none
  else if z = 905 then match st with
    | .inl b :: .inl a :: r => if (r.map cw).sum ≤ 8 then nk q ls (vi (if b < a then b else a) :: r) h else none
    | _ => none
  else match st with
    | .inl a :: r => if (r.map cw).sum ≤ 8 then nk q ls (vi (if 0 ≤ a then a else w32 (-a)) :: r) h else none
    | _ => none
def nxt (y d pc : Nat) (i : Instr) (q : Nat) (ls st : List MV) (h : MS) : Option NX :=
  match i with
  | .iconst c => nk q ls (vi (w32 c) :: st) h
  | .bipush c => nk q ls (vi (Int8.ofInt c).toInt32.toInt :: st) h
  | .sipush c => nk q ls (vi (Int16.ofInt c).toInt32.toInt :: st) h
  | .lconst c => nk q ls (vl (Int64.ofNat (c : Nat)).toInt :: st) h
  | .ldc ix => match intR (own y) ix with
    | some (v, _) => nk q ls (vi (w32 v) :: st) h
    | none => match strR (own y) ix with
      | some n => nk q ls (vr rSTR n :: st) h
      | none => none
  | .ldc_w ix => match intR (own y) ix with
    | some (v, _) => nk q ls (vi (w32 v) :: st) h
    | none => match strR (own y) ix with
      | some n => nk q ls (vr rSTR n :: st) h
      | none => none
  | .ldc2_w ix => match lngR (own y) ix with
    | some (v, _) => nk q ls (vl (w64 v) :: st) h
    | none => none
  | .iload j => ldX ls j q st h 0
  | .iload_n j => ldX ls j q st h 0
  | .lload j => ldX ls j q st h 1
  | .lload_n j => ldX ls j q st h 1
  | .aload j => ldX ls j q st h 2
  | .aload_n j => ldX ls j q st h 2
  | .istore j => stX ls j q st h 0
  | .istore_n j => stX ls j q st h 0
  | .lstore j => stX ls j q st h 1
  | .lstore_n j => stX ls j q st h 1
  | .astore j => stX ls j q st h 2
  | .astore_n j => stX ls j q st h 2
  | .iinc j c => match ls[j]? with
    | some (.inl x) => nk q (lset ls j (vi (w32 (x + c)))) st h
    | _ => none
  | .iadd => bin (fun a b => w32 (a + b)) q ls st h
  | .isub => bin (fun a b => w32 (a - b)) q ls st h
  | .imul => bin (fun a b => w32 (a * b)) q ls st h
  | .idiv => binN vIdiv q ls st h
  | .irem => binN vIrem q ls st h
  | .iand => bin vIand q ls st h
  | .ior => bin vIor q ls st h
  | .ixor => bin vIxor q ls st h
  | .ishl => bin vIshl q ls st h
  | .ishr => bin vIshr q ls st h
  | .iushr => bin vIushr q ls st h
  | .ineg => match st with
    | .inl a :: r => nk q ls (vi (w32 (-a)) :: r) h
    | _ => none
  | .ladd => binL (fun a b => w64 (a + b)) q ls st h
  | .lsub => binL (fun a b => w64 (a - b)) q ls st h
  | .lmul => binL (fun a b => w64 (a * b)) q ls st h
  | .ldiv => binLN vLdiv q ls st h
  | .lcmp => match st with
    | .inr (.inl b) :: .inr (.inl a) :: r => nk q ls (vi (vLcmp a b) :: r) h
    | _ => none
  | .i2l => match st with
    | .inl a :: r => nk q ls (vl a :: r) h
    | _ => none
  | .l2i => match st with
    | .inr (.inl a) :: r => nk q ls (vi (w32 a) :: r) h
    | _ => none
  | .ifCond c off => if (0 : Int) ≤ pc + off then jmp1 c (pc + off).toNat q ls st h else none
  | .if_icmp c off => if (0 : Int) ≤ pc + off then jmp2 c (pc + off).toNat q ls st h else none
  | .goto off => if (0 : Int) ≤ pc + off then nk (pc + off).toNat ls st h else none
  | .tableswitch df lo hi offs => match st with
    | .inl x :: r => if x < lo ∨ hi < x then (if (0 : Int) ≤ pc + df then nk (pc + df).toNat ls r h else none) else match offs[(x - lo).toNat]? with
      | some off => if (0 : Int) ≤ pc + off then nk (pc + off).toNat ls r h else none
      | none => none
    | _ => none
  | .lookupswitch df ps => match st with
    | .inl x :: r => if (ps.toList.zip (ps.toList.drop 1)).all (fun (a, next) => a.1 < next.1) = true ∧ (0 : Int) ≤ pc + Op.lookupswitch.offset ps.toList df x then nk (pc + Op.lookupswitch.offset ps.toList df x).toNat ls r h else none
    | _ => none
  | .getfield ix => getX (own y) ix q ls st h
  | .putfield ix => putX (own y) ix q (knd y) ls st h
  | .getstatic ix => match staR (own y) ix with
    | some (n, _) => nk q ls (vr rROM n :: st) h
    | none => none
  | .iaload => aldX 0 q ls st h
  | .laload => aldX 1 q ls st h
  | .baload => aldX 2 q ls st h
  | .aaload => aaldX q ls st h
  | .iastore => match st with
    | .inl _ :: _ => astX 0 q ls st h
    | _ => none
  | .lastore => match st with
    | .inr (.inl _) :: _ => astX 1 q ls st h
    | _ => none
  | .bastore => match st with
    | .inl _ :: _ => astX 2 q ls st h
    | _ => none
  | .aastore => match st with
    | .inr (.inr (.inl (some _))) :: _ => astX 10 q ls st h
    | _ => none
  | .arraylength => match st with
    | .inr (.inr (.inl (some (r, i)))) :: rest => if aek r i = 0 ∧ isS r = false ∧ 0 < alen 0 r i then nk q ls (vi (alen 0 r i) :: rest) h else if r = rSCR then nk q ls (vi i :: rest) h else none
    | _ => none
  | .new ix => match clsR (own y) ix with
    | some (c, _) => if c < 13 then newX (.inl c) q ls st h else none
    | none => none
  | .newarray a => match st with
    | .inl n :: r => if 0 ≤ n ∧ n < 100000 ∧ atk a < 8 then newX (.inr (atk a, n.toNat)) q ls r h else none
    | _ => none
  | .anewarray ix => match clsR (own y) ix, st with
    | some (c, _), .inl n :: r => if 0 ≤ n ∧ n < 100000 ∧ c < 13 ∧ aoC c = true then newX (.inr (10 + c, n.toNat)) q ls r h else none
    | _, _ => none
  | .multianewarray ix dm => match clsR (own y) ix, st with
    | some (c, _), .inl n :: .inl m :: r => if c = 99 ∧ dm = 2 ∧ n = 16 ∧ m = 6 ∧ (∀ j, j < 6 → sh (nm (h.2.2.2 + 1 + j)).1 (nm (h.2.2.2 + 1 + j)).2 = .inr (0, 16)) ∧ sh (nm h.2.2.2).1 (nm h.2.2.2).2 = .inr (9, 6) then
        nk q ls (va (some (nm h.2.2.2)) :: r) (h.1, h.2.1, (fun a b s => if (a, b) = nm h.2.2.2 ∧ s < 6 then some (nm (h.2.2.2 + 1 + s)) else h.2.2.1 a b s), h.2.2.2 + 7) else none
    | _, _ => none
  | .invokestatic ix => match mthR (own y) ix with
    | some (z, ne, _) => if z = 901 ∧ ne = 0 ∧ 0 < d then cpyX q ls st h else if 904 ≤ z ∧ z ≤ 906 ∧ ne = 0 ∧ 0 < d then mthX z q ls st h else none
    | none => none
  | .invokevirtual ix => match mthR (own y) ix with
    | some (z, ne, _) => if z = 902 ∧ ne = 0 ∧ 6 < d then slnX q ls st h else if z = 903 ∧ ne = 0 ∧ 6 < d then schX q ls st h else none
    | none => none
  | .invokespecial ix => match mthR (own y) ix with
    | some (z, ne, _) => if z = 900 ∧ ne = 0 ∧ 0 < d then (match st with
        | .inr (.inr (.inl (some _))) :: r => if (r.map cw).sum ≤ 8 then nk q ls r h else none
        | _ => none) else none
    | none => none
  | .dup => match st with
    | v :: r => if c1 v then nk q ls (v :: v :: r) h else none
    | _ => none
  | .dup2 => match st with
    | v :: w :: r => if c1 v ∧ c1 w then nk q ls (v :: w :: v :: w :: r) h else none
    | _ => none
  | _ => none
/-- the end of a method -/
def rtn (y : Nat) (i : Instr) (st : List MV) (h : MS) : Option (MV × MS) :=
  match i with
  | .ireturn => match st with
    | [.inl x] => if nrK y x then some (vi x, h) else none
    | _ => none
  | .lreturn => match st with
    | [.inr (.inl x)] => if rty y = some .long then some (vl x, h) else none
    | _ => none
  | .areturn => match st with
    | [.inr (.inr (.inl (some p)))] => match rty y with
      | some (.object _) => some (va (some p), h)
      | some (.array _) => some (va (some p), h)
      | _ => none
    | _ => none
  | .return_ => match st with
    | [] => if rty y = none then some (vx, h) else none
    | _ => none
  | _ => none
/-- a call: whom, with what, what is left on the stack -/
def nRc (kn : Nat) : Nat := if kn = 0 then 0 else 1
def cllGo (z ne kn : Nat) (st : List MV) : Option (Nat × List MV × List MV) :=
  if z < 250 ∧ (z < 246 ∨ z = 249) ∧ ne ≤ 1 ∧ knd z = kn ∧ (kn = 2 → rty z = none) ∧ nar z + nRc kn ≤ st.length ∧ (st.take (nar z + nRc kn)).all c1 = true ∧ ((st.drop (nar z + nRc kn)).map cw).sum ≤ 8 then
    some (z, (st.take (nar z + nRc kn)).reverse, st.drop (nar z + nRc kn))
  else none
def cllM (y ix kn : Nat) (st : List MV) : Option (Nat × List MV × List MV) := match mthR (own y) ix with
  | some (z, ne, _) => cllGo z ne kn st
  | none => none
def cll (y : Nat) (i : Instr) (st : List MV) : Option (Nat × List MV × List MV) :=
  match i with
  | .invokestatic ix => cllM y ix 0 st
  | .invokevirtual ix => cllM y ix 1 st
  | .invokespecial ix => cllM y ix 2 st
  | _ => none
/-- the receiver of a call is there, and is of its class -/
def rcv (z : Nat) (as : List MV) : Bool := if knd z = 0 then true else match as with
  | .inr (.inr (.inl (some (r, i)))) :: _ => decide (sh r i = .inl (own z))
  | _ => false
def psh (z : Nat) (v : MV) (rest : List MV) : List MV := match rty z with
  | none => rest
  | some _ => v :: rest
/-- how long an instruction is (a switch as it comes) -/
def lnI (i : Instr) (len : Nat) : Nat := match i with
  | .bipush _ | .ldc _ | .iload _ | .lload _ | .aload _ | .istore _ | .lstore _ | .astore _ | .newarray _ => 2
  | .sipush _ | .ldc_w _ | .ldc2_w _ | .iinc _ _ | .ifCond _ _ | .if_icmp _ _ | .goto _ | .getfield _ | .putfield _ | .getstatic _ | .invokestatic _ | .invokevirtual _ | .invokespecial _ | .new _ | .anewarray _ => 3
  | .multianewarray _ _ => 4
  | .tableswitch _ _ _ _ | .lookupswitch _ _ => len
  | _ => 1
def run : Nat → Nat → Nat → Nat → List MV → List MV → MS → Option (MV × MS)
  | 0, _, _, _, _, _, _ => none
  | n + 1, d, y, pc, ls, st, h => match decode (cod y) pc with
    | .error _ => none
    | .ok (i, len) => if len = lnI i len then match nxt y d pc i (pc + len) ls st h with
      | some (q, ls', st', h') => run n d y q ls' st' h'
      | none => match cll y i st with
        | some (z, as, rest) => match d with
          | 0 => none
          | d' + 1 => if rcv z as then match run n d' z 0 (ini z as) [] h with
              | none => none
              | some (v, h1) => run n d y (pc + len) ls (psh z v rest) h1
            else none
        | none => rtn y i st h
      else none
