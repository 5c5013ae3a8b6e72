/-! what the law's start gives -/
def R_law : String := "FaceRowsLaw"
def lw_P (b : Addr) (xs : List Int32) (args : Array Value) (s : State) : Prop := args = #[.ref b] ∧ s.IntsAt b xs ∧ xs.length ≤ 5120 ∧ (Jvm.Cond.and given_1 narrow_1).before args s = true
def lw_Q (_ : Array Value) (s : State) (o : Outcome) (t : State) : Prop := o = .returned (some (.int 1)) ∧ Framed s o t [] 600000 7302250
def lw_Z (below : List Frame) (a : Array Value) (s : State) : State → Prop := fun t => ∃ o, t.status = .running ∧ Ended t below o ∧ lw_Q a s o t
def fNr : List Cond := flatC (Jvm.Cond.and given_1 narrow_1)
def stm (i : Nat) : Term := .string RX7 (98 + 2 * i)
def stv (i : Nat) : Term := .field (stm i) "java/lang/String" "value" "[B"
def nB (i : Nat) : Nat := (litB.getD i []).length
def bB (i j : Nat) : Int := (litB.getD i []).getD j 0
set_option maxRecDepth 100000 in
theorem fN_ex : (List.range 24).all (fun i => decide (Cond.exactly (stm i) "java/lang/String" ∈ fNr) && decide (Cond.eq (.field (stm i) "java/lang/String" "coder" "B") (.int 0) ∈ fNr) && decide (Cond.arrayOf (stv i) .byte ∈ fNr) && decide (Cond.eq (.length (stv i)) (.int (Int32.ofNat (nB i))) ∈ fNr)) = true := by decide +kernel
set_option maxRecDepth 100000 in
theorem fN_el : (List.range 24).all (fun i => (List.range (nB i)).all fun j => decide (Cond.eq (.elem (stv i) (.int (Int32.ofNat j))) (.int (Int32.ofInt (bB i j))) ∈ fNr)) = true := by decide +kernel
set_option maxRecDepth 100000 in
theorem lit_ne : (List.range 24).all (fun i => (List.range 24).all fun j => decide (i = j) || decide (Int32.ofNat (nB i) ≠ Int32.ofNat (nB j)) || (List.range (nB i)).any (fun k => decide (k < nB j) && decide (Int32.ofInt (bB i k) ≠ Int32.ofInt (bB j k)))) = true := by decide +kernel
set_option maxRecDepth 100000 in
theorem strW_eq : strW.all (fun q => (decide (q.1 = RX7) && decide (q.2.1 = 98 + 2 * q.2.2.2.1)) || decide (Cond.eq (stm q.2.2.2.1) (.string q.1 q.2.1) ∈ fNr)) = true := by decide +kernel
set_option maxRecDepth 100000 in
theorem strW_lt : strW.all (fun q => decide (q.2.2.2.1 < 24)) = true := by decide +kernel
def romN (i : Nat) : Term := .static "FaceRows$Head" (["LEAST", "MOST", "USUAL"].getD i "") "[I"
set_option maxRecDepth 100000 in
theorem fN_rom : (List.range 3).all (fun i => decide (Cond.arrayOf (romN i) .int ∈ fNr) && decide (Cond.eq (.length (romN i)) (.int (Int32.ofNat 8)) ∈ fNr) && (List.range 8).all (fun j => decide (Cond.eq (.elem (romN i) (.int (Int32.ofNat j))) (.int (Int32.ofInt (rom i j))) ∈ fNr))) = true := by decide +kernel
set_option maxRecDepth 100000 in
theorem fN_sta : decide (Cond.eq (.static "java/lang/String" "COMPACT_STRINGS" "Z") (.int 1) ∈ fNr) = true ∧ decide (Cond.isRef (.static "jdk/internal/util/Preconditions" "SIOOBE_FORMATTER" "Ljava/util/function/BiFunction;") ∈ fNr) = true := by decide +kernel
set_option maxRecDepth 100000 in
theorem tb_sta : (at? 5 = some (Cond.initialized "FaceRows$Head") ∧ at? 16 = some (Cond.initialized "java/lang/String") ∧ at? 18 = some (Cond.initialized "jdk/internal/util/Preconditions")) ∧ (at? 574 = some (Cond.laysStatic "java/lang/String" "COMPACT_STRINGS" "Z") ∧
    at? 590 = some (Cond.laysStatic "jdk/internal/util/Preconditions" "SIOOBE_FORMATTER" "Ljava/util/function/BiFunction;")) ∧ at? 764 = some (Cond.laysStatic "FaceRows$Head" "LEAST" "[I") ∧ at? 766 = some (Cond.laysStatic "FaceRows$Head" "MOST" "[I") ∧ at? 757 = some (Cond.laysStatic "FaceRows$Head" "USUAL" "[I") := by decide +kernel
theorem rgN {n : Nat} {f : Nat → Bool} (h : (List.range n).all f = true) {z : Nat} (hz : z < n) : f z = true := List.all_eq_true.mp h z (List.mem_range.mpr hz)
