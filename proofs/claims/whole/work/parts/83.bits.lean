/-! bits of small numbers -/
theorem bt_v : ∀ s : Fin 512, ∀ k : Fin 9, vIand (vIshr (s.val : Int) (k.val : Int)) 1 = if s.val.testBit k.val then 1 else 0 := by decide +kernel
def bcP (s : Nat) : Int := fo (fun k (a : Int) => if s.testBit k then a + 1 else a) 0 9 0
def bcE (x0 : Int) : Int := vIand (w32 ((w32 ((vIand (w32 ((w32 ((vIand (w32 (x0 - (vIand (vIushr x0 1) 1431655765))) 858993459) + (vIand (vIushr (w32 (x0 - (vIand (vIushr x0 1) 1431655765))) 2) 858993459))) + (vIushr (w32 ((vIand (w32 (x0 - (vIand (vIushr x0 1) 1431655765))) 858993459) + (vIand (vIushr (w32 (x0 - (vIand (vIushr x0 1) 1431655765))) 2) 858993459))) 4))) 252645135) + (vIushr (vIand (w32 ((w32 ((vIand (w32 (x0 - (vIand (vIushr x0 1) 1431655765))) 858993459) + (vIand (vIushr (w32 (x0 - (vIand (vIushr x0 1) 1431655765))) 2) 858993459))) + (vIushr (w32 ((vIand (w32 (x0 - (vIand (vIushr x0 1) 1431655765))) 858993459) + (vIand (vIushr (w32 (x0 - (vIand (vIushr x0 1) 1431655765))) 2) 858993459))) 4))) 252645135) 8))) + (vIushr (w32 ((vIand (w32 ((w32 ((vIand (w32 (x0 - (vIand (vIushr x0 1) 1431655765))) 858993459) + (vIand (vIushr (w32 (x0 - (vIand (vIushr x0 1) 1431655765))) 2) 858993459))) + (vIushr (w32 ((vIand (w32 (x0 - (vIand (vIushr x0 1) 1431655765))) 858993459) + (vIand (vIushr (w32 (x0 - (vIand (vIushr x0 1) 1431655765))) 2) 858993459))) 4))) 252645135) + (vIushr (vIand (w32 ((w32 ((vIand (w32 (x0 - (vIand (vIushr x0 1) 1431655765))) 858993459) + (vIand (vIushr (w32 (x0 - (vIand (vIushr x0 1) 1431655765))) 2) 858993459))) + (vIushr (w32 ((vIand (w32 (x0 - (vIand (vIushr x0 1) 1431655765))) 858993459) + (vIand (vIushr (w32 (x0 - (vIand (vIushr x0 1) 1431655765))) 2) 858993459))) 4))) 252645135) 8))) 16))) 63
theorem bc_v : ∀ s : Fin 512, bcE (s.val : Int) = bcP s.val := by decide +kernel
theorem or_v : ∀ o : Fin 512, ∀ k : Fin 9, vIor (o.val : Int) (vIshl 1 (k.val : Int)) = ((o.val ||| 2 ^ k.val : Nat) : Int) := by decide +kernel
theorem sh_v : ∀ k : Fin 10, vIshl 1 (k.val : Int) = ((2 ^ k.val : Nat) : Int) := by decide +kernel
theorem bt_e {s k : Nat} (hs : s < 512) (hk : k < 9) : vIand (vIshr (s : Int) (k : Int)) 1 = if s.testBit k then 1 else 0 := bt_v ⟨s, hs⟩ ⟨k, hk⟩
theorem or_e {o k : Nat} (ho : o < 512) (hk : k < 9) : vIor (o : Int) (vIshl 1 (k : Int)) = ((o ||| 2 ^ k : Nat) : Int) := or_v ⟨o, ho⟩ ⟨k, hk⟩
theorem sh_e {k : Nat} (hk : k < 10) : vIshl 1 (k : Int) = ((2 ^ k : Nat) : Int) := sh_v ⟨k, hk⟩
theorem sp244 {d s : Nat} {I L : H3} {t : Nat → Nat} (hs : s < 512) : Cal d 244 [vi (s : Int)] (mk I L t) = some (vi (bcP s), mk I L t) := by
  rw [← bc_v ⟨s, hs⟩]
  exact P244_0_0
theorem and_e {s o : Nat} (hs : s < 512) (ho : o < 512) : vIand (s : Int) (vIxor (o : Int) (-1)) = 0 ↔ ∀ k, k < 9 → s.testBit k = true → o.testBit k = true := by
  unfold vIand vIxor b32
  rw [Int32.ofInt_toInt]
  have h0 : ∀ x : Int32, x.toInt = 0 ↔ x.toBitVec = 0#32 := fun x => by
    constructor
    · intro h
      exact BitVec.eq_of_toInt_eq h
    · intro h
      show x.toBitVec.toInt = 0
      rw [h]
      rfl
  rw [h0]
  have e1 : ∀ n : Nat, (Int32.ofInt (n : Int)).toBitVec = BitVec.ofNat 32 n := fun n => BitVec.ofInt_natCast 32 n
  have e2 : (Int32.ofInt (-1)).toBitVec = BitVec.allOnes 32 := rfl
  have e3 : (Int32.ofInt (s : Int) &&& (Int32.ofInt (o : Int) ^^^ Int32.ofInt (-1))).toBitVec = BitVec.ofNat 32 s &&& (BitVec.ofNat 32 o ^^^ BitVec.allOnes 32) := by
    rw [← e1 s, ← e1 o, ← e2]
    rfl
  rw [e3]
  constructor
  · intro h k hk hb
    have g := congrArg (fun b => b.getLsbD k) h
    have hk2 : k < 32 := by omega
    simp only [BitVec.getLsbD_and, BitVec.getLsbD_xor, BitVec.getLsbD_ofNat, BitVec.getLsbD_allOnes, BitVec.getLsbD_zero, Nat.zero_testBit] at g
    rw [hb, decide_eq_true hk2] at g
    cases q : o.testBit k with
    | true => rfl
    | false =>
      rw [q] at g
      cases g
  · intro h
    refine BitVec.eq_of_getLsbD_eq (fun k hk => ?_)
    simp only [BitVec.getLsbD_and, BitVec.getLsbD_xor, BitVec.getLsbD_ofNat, BitVec.getLsbD_allOnes, BitVec.getLsbD_zero, Nat.zero_testBit]
    rw [decide_eq_true hk]
    cases q : s.testBit k with
    | false => rfl
    | true =>
      have hk9 : k < 9 := by
        by_cases z : k < 9
        · exact z
        · have := Nat.testBit_lt_two_pow (x := s) (i := k) (Nat.lt_of_lt_of_le hs (Nat.pow_le_pow_right (n := 2) (by decide) (show 9 ≤ k by omega)))
          rw [this] at q
          cases q
      rw [h k hk9 q]
      rfl
theorem or_t {o k j : Nat} : (o ||| 2 ^ k).testBit j = (o.testBit j || decide (k = j)) := by
  rw [Nat.testBit_or, Nat.testBit_two_pow]
theorem or_lt {o k : Nat} (ho : o < 512) (hk : k < 9) : o ||| 2 ^ k < 512 := Nat.or_lt_two_pow (n := 9) ho (Nat.pow_lt_pow_right (by decide) hk)
