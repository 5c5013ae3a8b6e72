/-! what the words of the tables say of each entry -/
def mwW (z : Nat) : Nat × Nat × Nat × Nat := mwT.getD z (0, 0, 0, 0)
def selOk (p : Nat) (y : MethodName) : Bool := if p < 10000 then decide (at? p = some (Cond.selects y.cls y y)) else match lw_privs[p - 10000]? with
  | some q => decide (q.1 = y)
  | none => false
def mZ1 (z : Nat) : Bool := decide (at? (mwW z).2.1 = some (if knd z = 0 then Cond.static (ymn z) else Cond.instanceMethod (ymn z)))
def mZ2 (z : Nat) : Bool := decide (at? (mwW z).2.2.1 = some (Cond.initialized (ymn z).cls))
def mZ3 (z : Nat) : Bool := knd z != 1 || selOk (mwW z).2.2.2 (ymn z)
def mZ4 (z : Nat) : Bool := decide ((ymn z).cls = onm (own z)) && (knd z != 2 || decide ((ymn z).name = "<init>")) && (plainName (ymn z).cls || onm (own z) == "java/lang/Math")
def mZ5 (z : Nat) : Bool := decide ((ymn z).cls ≠ "java/lang/invoke/MethodHandle") && decide ((ymn z).cls ≠ "java/lang/invoke/VarHandle")
def mZ6 (z : Nat) : Bool := decide ((parseMethodDescriptor (ymn z).desc).map (fun d => d.parameters.length) = some (nar z)) && decide (mxl z ≤ 40) && decide (nar z + (if knd z = 0 then 0 else 1) ≤ mxl z) && decide (knd z ≤ 2) && (knd z == 0 || decide (own z < 13)) && decide (own z < 17) && (knd z == 0 || decide (onm (own z) = cst (own z)))
set_option maxRecDepth 100000 in
theorem mZ1_all : (List.range 250).all mZ1 = true := by decide +kernel
set_option maxRecDepth 100000 in
theorem mZ2_all : (List.range 250).all mZ2 = true := by decide +kernel
set_option maxRecDepth 100000 in
theorem mZ3_all : (List.range 250).all mZ3 = true := by decide +kernel
set_option maxRecDepth 100000 in
theorem mZ4_all : (List.range 250).all mZ4 = true := by decide +kernel
set_option maxRecDepth 100000 in
theorem mZ5_all : (List.range 250).all mZ5 = true := by decide +kernel
set_option maxRecDepth 100000 in
theorem mZ6_all : (List.range 250).all mZ6 = true := by decide +kernel
def mthW (o : Nat) (e : Nat × Nat × Nat × Nat) : Bool :=
  if e.2.1 = 900 then decide (e.2.2.1 = 0) && decide (at? e.2.2.2 = some (Cond.methodLink (onm o) e.1 Lib.objectInit))
  else if e.2.1 = 901 then decide (e.2.2.1 = 0) && decide (at? e.2.2.2 = some (Cond.methodLink (onm o) e.1 arraycopyName))
  else if e.2.1 = 902 then decide (e.2.2.1 = 0) && decide (at? e.2.2.2 = some (Cond.methodLink (onm o) e.1 yJ0_length_8abf5))
  else if e.2.1 = 903 then decide (e.2.2.1 = 0) && decide (at? e.2.2.2 = some (Cond.methodLink (onm o) e.1 yJ0_charAt_5068e))
  else if e.2.1 = 904 then decide (e.2.2.1 = 0) && decide (at? e.2.2.2 = some (Cond.methodLink (onm o) e.1 Lib.Math.max.name))
  else if e.2.1 = 905 then decide (e.2.2.1 = 0) && decide (at? e.2.2.2 = some (Cond.methodLink (onm o) e.1 Lib.Math.min.name))
  else if e.2.1 = 906 then decide (e.2.2.1 = 0) && decide (at? e.2.2.2 = some (Cond.methodLink (onm o) e.1 Lib.Math.abs.name))
  else decide (e.2.1 < 250) && decide (at? e.2.2.2 = some (if e.2.2.1 = 0 then Cond.methodLink (onm o) e.1 (ymn e.2.1) else Cond.methodLinkNest (onm o) e.1 (ymn e.2.1) "FaceRows"))
set_option maxRecDepth 100000 in
theorem link_all : (List.range mthT.length).all (fun o => (mthT.getD o []).all (mthW o)) = true := by decide +kernel
def clsW (o : Nat) (e : Nat × Nat × Nat) : Bool := decide (at? e.2.2 = some (Cond.classLink (onm o) e.1 (if e.2.1 = 99 then "[[I" else cst e.2.1)))
set_option maxRecDepth 100000 in
theorem cls_all : (List.range clsT.length).all (fun o => (clsT.getD o []).all (clsW o)) = true := by decide +kernel
set_option maxRecDepth 100000 in
theorem int_all : (List.range intT.length).all (fun o => (intT.getD o []).all (fun e => decide (at? e.2.2 = some (Cond.constant (onm o) e.1 (Int32.ofInt e.2.1))))) = true := by decide +kernel
set_option maxRecDepth 100000 in
theorem lng_all : (List.range lngT.length).all (fun o => (lngT.getD o []).all (fun e => decide (at? e.2.2 = some (Cond.constantLong (onm o) e.1 (Int64.ofInt e.2.1))))) = true := by decide +kernel
set_option maxRecDepth 100000 in
theorem sta_all : (List.range staT.length).all (fun o => (staT.getD o []).all (fun e => decide (e.2.1 < 3) && decide (o = 2) && decide (at? e.2.2 = some (Cond.fieldLink (onm o) e.1 "FaceRows$Head" (["LEAST", "MOST", "USUAL"].getD e.2.1 "") "[I")))) = true := by decide +kernel
set_option maxRecDepth 100000 in
theorem str_all : (List.range strT.length).all (fun o => (strT.getD o []).all (fun e => decide (e.2 < 24) && strW.any (fun q => decide (q.1 = onm o) && decide (q.2.1 = e.1) && decide (q.2.2.2.1 = e.2)))) = true := by decide +kernel
set_option maxRecDepth 100000 in
theorem strW_all : strW.all (fun q => decide (at? q.2.2.2.2 = some (Cond.stringRef q.1 q.2.1 q.2.2.1)) && decide (litT.getD q.2.2.2.1 "" = q.2.2.1)) = true := by decide +kernel
