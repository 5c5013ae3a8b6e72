/-! one lemma for each sort of instruction (printed by wip/whole/genins.py) -/
def grd {α : Type} (c : Prop) {dc : Decidable c} (x : Option α) : Option α := @ite _ c dc x none
def kl (u : MV) : MV := match u with | .inr (.inl _) => vx | u => u
section INS
variable {d y pc q q1 q2 len : Nat} {ls ls1 st : List MV} {h : MS} {I L : Nat → Nat → Nat → Int} {t : Nat → Nat} {a b v x : Int} {j : Nat} {f : Fin 4} {g : Fin 2}
theorem e_iconst (hd : decode (cod y) pc = .ok (.iconst v, 1)) (hq : pc + 1 = q) (hx : w32 v = x) : Res d y pc ls st h = Res d y q ls (vi x :: st) h := by
  subst hq; subst hx
  exact res_step hd rfl rfl
theorem e_bipush (hd : decode (cod y) pc = .ok (.bipush v, 2)) (hq : pc + 2 = q) (hx : (Int8.ofInt v).toInt32.toInt = x) : Res d y pc ls st h = Res d y q ls (vi x :: st) h := by
  subst hq; subst hx
  exact res_step hd rfl rfl
theorem e_lconst (hd : decode (cod y) pc = .ok (.lconst g, 1)) (hq : pc + 1 = q) (hx : (Int64.ofNat (g : Nat)).toInt = x) : Res d y pc ls st h = Res d y q ls (vl x :: st) h := by
  subst hq; subst hx
  exact res_step hd rfl rfl
theorem e_sipush (hd : decode (cod y) pc = .ok (.sipush v, 3)) (hq : pc + 3 = q) (hx : (Int16.ofInt v).toInt32.toInt = x) : Res d y pc ls st h = Res d y q ls (vi x :: st) h := by
  subst hq; subst hx
  exact res_step hd rfl rfl
theorem e_ldc (hd : decode (cod y) pc = .ok (.ldc j, 2)) (hq : pc + 2 = q) {o w : Nat} (ho : own y = o) (hf : intR o j = some (v, w)) (hx : w32 v = x) : Res d y pc ls st h = Res d y q ls (vi x :: st) h := by
  subst hq; subst hx; subst ho
  refine res_step hd rfl ?_
  show (match intR (own y) j with | some (v, _) => nk _ ls (vi (w32 v) :: st) h | none => _) = _
  rw [hf]
theorem e_ldcS (hd : decode (cod y) pc = .ok (.ldc j, 2)) (hq : pc + 2 = q) {o n : Nat} (ho : own y = o) (hf : intR o j = none) (hs : strR o j = some n) : Res d y pc ls st h = Res d y q ls (vr rSTR n :: st) h := by
  subst hq; subst ho
  refine res_step hd rfl ?_
  show (match intR (own y) j with | some (v, _) => nk _ ls (vi (w32 v) :: st) h | none => match strR (own y) j with | some n => nk _ ls (vr rSTR n :: st) h | none => none) = _
  rw [hf, hs]
theorem e_ldc_w (hd : decode (cod y) pc = .ok (.ldc_w j, 3)) (hq : pc + 3 = q) {o w : Nat} (ho : own y = o) (hf : intR o j = some (v, w)) (hx : w32 v = x) : Res d y pc ls st h = Res d y q ls (vi x :: st) h := by
  subst hq; subst hx; subst ho
  refine res_step hd rfl ?_
  show (match intR (own y) j with | some (v, _) => nk _ ls (vi (w32 v) :: st) h | none => _) = _
  rw [hf]
theorem e_ldc_wS (hd : decode (cod y) pc = .ok (.ldc_w j, 3)) (hq : pc + 3 = q) {o n : Nat} (ho : own y = o) (hf : intR o j = none) (hs : strR o j = some n) : Res d y pc ls st h = Res d y q ls (vr rSTR n :: st) h := by
  subst hq; subst ho
  refine res_step hd rfl ?_
  show (match intR (own y) j with | some (v, _) => nk _ ls (vi (w32 v) :: st) h | none => match strR (own y) j with | some n => nk _ ls (vr rSTR n :: st) h | none => none) = _
  rw [hf, hs]
theorem e_ldc2 (hd : decode (cod y) pc = .ok (.ldc2_w j, 3)) (hq : pc + 3 = q) {o w : Nat} (ho : own y = o) (hf : lngR o j = some (v, w)) (hx : w64 v = x) : Res d y pc ls st h = Res d y q ls (vl x :: st) h := by
  subst hq; subst hx; subst ho
  refine res_step hd rfl ?_
  show (match lngR (own y) j with | some (v, _) => nk _ ls (vl (w64 v) :: st) h | none => none) = _
  rw [hf]
theorem e_iload (hd : decode (cod y) pc = .ok (.iload j, 2)) (hq : pc + 2 = q) (hx : ls[j]? = some (vi x)) : Res d y pc ls st h = Res d y q ls (vi x :: st) h := by
  subst hq
  refine res_step hd rfl ?_
  show ldX ls j _ st h 0 = _
  unfold ldX
  rw [hx]
  rfl
theorem e_iload_n (hd : decode (cod y) pc = .ok (.iload_n f, 1)) (hq : pc + 1 = q) (hx : ls[f.val]? = some (vi x)) : Res d y pc ls st h = Res d y q ls (vi x :: st) h := by
  subst hq
  refine res_step hd rfl ?_
  show ldX ls f.val _ st h 0 = _
  unfold ldX
  rw [hx]
  rfl
theorem e_lload (hd : decode (cod y) pc = .ok (.lload j, 2)) (hq : pc + 2 = q) (hx : ls[j]? = some (vl x)) : Res d y pc ls st h = Res d y q ls (vl x :: st) h := by
  subst hq
  refine res_step hd rfl ?_
  show ldX ls j _ st h 1 = _
  unfold ldX
  rw [hx]
  rfl
theorem e_lload_n (hd : decode (cod y) pc = .ok (.lload_n f, 1)) (hq : pc + 1 = q) (hx : ls[f.val]? = some (vl x)) : Res d y pc ls st h = Res d y q ls (vl x :: st) h := by
  subst hq
  refine res_step hd rfl ?_
  show ldX ls f.val _ st h 1 = _
  unfold ldX
  rw [hx]
  rfl
theorem e_aload (hd : decode (cod y) pc = .ok (.aload j, 2)) (hq : pc + 2 = q) {p : MR} (hx : ls[j]? = some (va (some p))) : Res d y pc ls st h = Res d y q ls (va (some p) :: st) h := by
  subst hq
  refine res_step hd rfl ?_
  show ldX ls j _ st h 2 = _
  unfold ldX
  rw [hx]
  rfl
theorem e_aload_n (hd : decode (cod y) pc = .ok (.aload_n f, 1)) (hq : pc + 1 = q) {p : MR} (hx : ls[f.val]? = some (va (some p))) : Res d y pc ls st h = Res d y q ls (va (some p) :: st) h := by
  subst hq
  refine res_step hd rfl ?_
  show ldX ls f.val _ st h 2 = _
  unfold ldX
  rw [hx]
  rfl
theorem e_istore (hd : decode (cod y) pc = .ok (.istore j, 2)) (hq : pc + 2 = q) (hj : j < ls.length) (hl : lset ls j (vi x) = ls1) : Res d y pc ls (vi x :: st) h = Res d y q ls1 st h := by
  subst hq; subst hl
  refine res_step hd rfl ?_
  show (if 0 = 0 ∧ j < ls.length then nk _ (lset ls j (vi x)) st h else none) = _
  rw [if_pos ⟨rfl, hj⟩]
theorem e_istore_n (hd : decode (cod y) pc = .ok (.istore_n f, 1)) (hq : pc + 1 = q) (hj : f.val < ls.length) (hl : lset ls f.val (vi x) = ls1) : Res d y pc ls (vi x :: st) h = Res d y q ls1 st h := by
  subst hq; subst hl
  refine res_step hd rfl ?_
  show (if 0 = 0 ∧ f.val < ls.length then nk _ (lset ls f.val (vi x)) st h else none) = _
  rw [if_pos ⟨rfl, hj⟩]
theorem e_astore (hd : decode (cod y) pc = .ok (.astore j, 2)) (hq : pc + 2 = q) {p : MR} (hj : j < ls.length) (hl : lset ls j (va (some p)) = ls1) : Res d y pc ls (va (some p) :: st) h = Res d y q ls1 st h := by
  subst hq; subst hl
  refine res_step hd rfl ?_
  show (if 2 = 2 ∧ j < ls.length then nk _ (lset ls j (va (some p))) st h else none) = _
  rw [if_pos ⟨rfl, hj⟩]
theorem e_astore_n (hd : decode (cod y) pc = .ok (.astore_n f, 1)) (hq : pc + 1 = q) {p : MR} (hj : f.val < ls.length) (hl : lset ls f.val (va (some p)) = ls1) : Res d y pc ls (va (some p) :: st) h = Res d y q ls1 st h := by
  subst hq; subst hl
  refine res_step hd rfl ?_
  show (if 2 = 2 ∧ f.val < ls.length then nk _ (lset ls f.val (va (some p))) st h else none) = _
  rw [if_pos ⟨rfl, hj⟩]
theorem e_lstore (hd : decode (cod y) pc = .ok (.lstore j, 2)) (hq : pc + 2 = q) (hj : j + 1 < ls.length) (hl : lset (lset ls (j + 1) vx) j (vl x) = ls1) : Res d y pc ls (vl x :: st) h = Res d y q ls1 st h := by
  subst hq; subst hl
  refine res_step hd rfl ?_
  show (if 1 = 1 ∧ j + 1 < ls.length then nk _ (lset (lset ls (j + 1) vx) j (vl x)) st h else none) = _
  rw [if_pos ⟨rfl, hj⟩]
theorem e_lstore_n (hd : decode (cod y) pc = .ok (.lstore_n f, 1)) (hq : pc + 1 = q) (hj : f.val + 1 < ls.length) (hl : lset (lset ls (f.val + 1) vx) f.val (vl x) = ls1) : Res d y pc ls (vl x :: st) h = Res d y q ls1 st h := by
  subst hq; subst hl
  refine res_step hd rfl ?_
  show (if 1 = 1 ∧ f.val + 1 < ls.length then nk _ (lset (lset ls (f.val + 1) vx) f.val (vl x)) st h else none) = _
  rw [if_pos ⟨rfl, hj⟩]
theorem e_iinc (hd : decode (cod y) pc = .ok (.iinc j v, 3)) (hq : pc + 3 = q) (hx : ls[j]? = some (vi x)) (hl : lset ls j (vi (w32 (x + v))) = ls1) : Res d y pc ls st h = Res d y q ls1 st h := by
  subst hq; subst hl
  refine res_step hd rfl ?_
  show (match ls[j]? with | some (.inl x) => nk _ (lset ls j (vi (w32 (x + v)))) st h | _ => none) = _
  rw [hx]
theorem e_iadd (hd : decode (cod y) pc = .ok (.iadd, 1)) (hq : pc + 1 = q) : Res d y pc ls (vi b :: vi a :: st) h = Res d y q ls (vi (w32 (a + b)) :: st) h := by
  subst hq
  exact res_step hd rfl rfl
theorem e_isub (hd : decode (cod y) pc = .ok (.isub, 1)) (hq : pc + 1 = q) : Res d y pc ls (vi b :: vi a :: st) h = Res d y q ls (vi (w32 (a - b)) :: st) h := by
  subst hq
  exact res_step hd rfl rfl
theorem e_imul (hd : decode (cod y) pc = .ok (.imul, 1)) (hq : pc + 1 = q) : Res d y pc ls (vi b :: vi a :: st) h = Res d y q ls (vi (w32 (a * b)) :: st) h := by
  subst hq
  exact res_step hd rfl rfl
theorem e_iand (hd : decode (cod y) pc = .ok (.iand, 1)) (hq : pc + 1 = q) : Res d y pc ls (vi b :: vi a :: st) h = Res d y q ls (vi (vIand a b) :: st) h := by
  subst hq
  exact res_step hd rfl rfl
theorem e_ior (hd : decode (cod y) pc = .ok (.ior, 1)) (hq : pc + 1 = q) : Res d y pc ls (vi b :: vi a :: st) h = Res d y q ls (vi (vIor a b) :: st) h := by
  subst hq
  exact res_step hd rfl rfl
theorem e_ixor (hd : decode (cod y) pc = .ok (.ixor, 1)) (hq : pc + 1 = q) : Res d y pc ls (vi b :: vi a :: st) h = Res d y q ls (vi (vIxor a b) :: st) h := by
  subst hq
  exact res_step hd rfl rfl
theorem e_ishl (hd : decode (cod y) pc = .ok (.ishl, 1)) (hq : pc + 1 = q) : Res d y pc ls (vi b :: vi a :: st) h = Res d y q ls (vi (vIshl a b) :: st) h := by
  subst hq
  exact res_step hd rfl rfl
theorem e_ishr (hd : decode (cod y) pc = .ok (.ishr, 1)) (hq : pc + 1 = q) : Res d y pc ls (vi b :: vi a :: st) h = Res d y q ls (vi (vIshr a b) :: st) h := by
  subst hq
  exact res_step hd rfl rfl
theorem e_iushr (hd : decode (cod y) pc = .ok (.iushr, 1)) (hq : pc + 1 = q) : Res d y pc ls (vi b :: vi a :: st) h = Res d y q ls (vi (vIushr a b) :: st) h := by
  subst hq
  exact res_step hd rfl rfl
theorem e_ladd (hd : decode (cod y) pc = .ok (.ladd, 1)) (hq : pc + 1 = q) : Res d y pc ls (vl b :: vl a :: st) h = Res d y q ls (vl (w64 (a + b)) :: st) h := by
  subst hq
  exact res_step hd rfl rfl
theorem e_lsub (hd : decode (cod y) pc = .ok (.lsub, 1)) (hq : pc + 1 = q) : Res d y pc ls (vl b :: vl a :: st) h = Res d y q ls (vl (w64 (a - b)) :: st) h := by
  subst hq
  exact res_step hd rfl rfl
theorem e_lmul (hd : decode (cod y) pc = .ok (.lmul, 1)) (hq : pc + 1 = q) : Res d y pc ls (vl b :: vl a :: st) h = Res d y q ls (vl (w64 (a * b)) :: st) h := by
  subst hq
  exact res_step hd rfl rfl
theorem e_idiv (hd : decode (cod y) pc = .ok (.idiv, 1)) (hq : pc + 1 = q) (hb : b ≠ 0) : Res d y pc ls (vi b :: vi a :: st) h = Res d y q ls (vi (vIdiv a b) :: st) h := by
  subst hq
  refine res_step hd rfl ?_
  show (if b = 0 then none else nk _ ls (vi (vIdiv a b) :: st) h) = _
  rw [if_neg hb]
theorem e_irem (hd : decode (cod y) pc = .ok (.irem, 1)) (hq : pc + 1 = q) (hb : b ≠ 0) : Res d y pc ls (vi b :: vi a :: st) h = Res d y q ls (vi (vIrem a b) :: st) h := by
  subst hq
  refine res_step hd rfl ?_
  show (if b = 0 then none else nk _ ls (vi (vIrem a b) :: st) h) = _
  rw [if_neg hb]
theorem e_ldiv (hd : decode (cod y) pc = .ok (.ldiv, 1)) (hq : pc + 1 = q) (hb : b ≠ 0) : Res d y pc ls (vl b :: vl a :: st) h = Res d y q ls (vl (vLdiv a b) :: st) h := by
  subst hq
  refine res_step hd rfl ?_
  show (if b = 0 then none else nk _ ls (vl (vLdiv a b) :: st) h) = _
  rw [if_neg hb]
theorem e_ineg (hd : decode (cod y) pc = .ok (.ineg, 1)) (hq : pc + 1 = q) : Res d y pc ls (vi a :: st) h = Res d y q ls (vi (w32 (-a)) :: st) h := by
  subst hq
  exact res_step hd rfl rfl
theorem e_lcmp (hd : decode (cod y) pc = .ok (.lcmp, 1)) (hq : pc + 1 = q) : Res d y pc ls (vl b :: vl a :: st) h = Res d y q ls (vi (vLcmp a b) :: st) h := by
  subst hq
  exact res_step hd rfl rfl
theorem e_i2l (hd : decode (cod y) pc = .ok (.i2l, 1)) (hq : pc + 1 = q) : Res d y pc ls (vi a :: st) h = Res d y q ls (vl a :: st) h := by
  subst hq
  exact res_step hd rfl rfl
theorem e_l2i (hd : decode (cod y) pc = .ok (.l2i, 1)) (hq : pc + 1 = q) : Res d y pc ls (vl a :: st) h = Res d y q ls (vi (w32 a) :: st) h := by
  subst hq
  exact res_step hd rfl rfl
theorem e_dup (hd : decode (cod y) pc = .ok (.dup, 1)) (hq : pc + 1 = q) {p : MR} : Res d y pc ls (va (some p) :: st) h = Res d y q ls (va (some p) :: va (some p) :: st) h := by
  subst hq
  exact res_step hd rfl rfl
theorem e_dupi (hd : decode (cod y) pc = .ok (.dup, 1)) (hq : pc + 1 = q) : Res d y pc ls (vi a :: st) h = Res d y q ls (vi a :: vi a :: st) h := by
  subst hq
  exact res_step hd rfl rfl
theorem e_dup2 (hd : decode (cod y) pc = .ok (.dup2, 1)) (hq : pc + 1 = q) {p : MR} : Res d y pc ls (vi a :: va (some p) :: st) h = Res d y q ls (vi a :: va (some p) :: vi a :: va (some p) :: st) h := by
  subst hq
  exact res_step hd rfl rfl
theorem e_ifeq {off : Int} (hd : decode (cod y) pc = .ok (.ifCond .eq off, 3)) (hq : pc + 3 = q) (ht : (pc : Int) + off = (q1 : Nat)) : Res d y pc ls (vi a :: st) h = if a = 0 then Res d y q1 ls st h else Res d y q ls st h := by
  subst hq
  have h0 : (0 : Int) ≤ pc + off := by omega
  have h1 : ((pc : Int) + off).toNat = q1 := by omega
  by_cases g : a = 0
  · rw [if_pos g]
    refine res_step hd rfl ?_
    show (if (0 : Int) ≤ pc + off then (if cndB .eq a 0 then nk (pc + off).toNat ls st h else nk (pc + 3) ls st h) else none) = _
    rw [if_pos h0, h1]
    have e : cndB .eq a 0 = true := by simp [cndB, g]
    rw [e]
    rfl
  · rw [if_neg g]
    refine res_step hd rfl ?_
    show (if (0 : Int) ≤ pc + off then (if cndB .eq a 0 then nk (pc + off).toNat ls st h else nk (pc + 3) ls st h) else none) = _
    rw [if_pos h0, h1]
    have e : cndB .eq a 0 = false := by simp [cndB, g]
    rw [e]
    rfl
theorem e_iceq {off : Int} (hd : decode (cod y) pc = .ok (.if_icmp .eq off, 3)) (hq : pc + 3 = q) (ht : (pc : Int) + off = (q1 : Nat)) : Res d y pc ls (vi b :: vi a :: st) h = if a = b then Res d y q1 ls st h else Res d y q ls st h := by
  subst hq
  have h0 : (0 : Int) ≤ pc + off := by omega
  have h1 : ((pc : Int) + off).toNat = q1 := by omega
  by_cases g : a = b
  · rw [if_pos g]
    refine res_step hd rfl ?_
    show (if (0 : Int) ≤ pc + off then (if cndB .eq a b then nk (pc + off).toNat ls st h else nk (pc + 3) ls st h) else none) = _
    rw [if_pos h0, h1]
    have e : cndB .eq a b = true := by simp [cndB, g]
    rw [e]
    rfl
  · rw [if_neg g]
    refine res_step hd rfl ?_
    show (if (0 : Int) ≤ pc + off then (if cndB .eq a b then nk (pc + off).toNat ls st h else nk (pc + 3) ls st h) else none) = _
    rw [if_pos h0, h1]
    have e : cndB .eq a b = false := by simp [cndB, g]
    rw [e]
    rfl
theorem e_ifne {off : Int} (hd : decode (cod y) pc = .ok (.ifCond .ne off, 3)) (hq : pc + 3 = q) (ht : (pc : Int) + off = (q1 : Nat)) : Res d y pc ls (vi a :: st) h = if ¬ a = 0 then Res d y q1 ls st h else Res d y q ls st h := by
  subst hq
  have h0 : (0 : Int) ≤ pc + off := by omega
  have h1 : ((pc : Int) + off).toNat = q1 := by omega
  by_cases g : ¬ a = 0
  · rw [if_pos g]
    refine res_step hd rfl ?_
    show (if (0 : Int) ≤ pc + off then (if cndB .ne a 0 then nk (pc + off).toNat ls st h else nk (pc + 3) ls st h) else none) = _
    rw [if_pos h0, h1]
    have e : cndB .ne a 0 = true := by simp [cndB, g]
    rw [e]
    rfl
  · rw [if_neg g]
    refine res_step hd rfl ?_
    show (if (0 : Int) ≤ pc + off then (if cndB .ne a 0 then nk (pc + off).toNat ls st h else nk (pc + 3) ls st h) else none) = _
    rw [if_pos h0, h1]
    have e : cndB .ne a 0 = false := by simp [cndB, g]
    rw [e]
    rfl
theorem e_icne {off : Int} (hd : decode (cod y) pc = .ok (.if_icmp .ne off, 3)) (hq : pc + 3 = q) (ht : (pc : Int) + off = (q1 : Nat)) : Res d y pc ls (vi b :: vi a :: st) h = if ¬ a = b then Res d y q1 ls st h else Res d y q ls st h := by
  subst hq
  have h0 : (0 : Int) ≤ pc + off := by omega
  have h1 : ((pc : Int) + off).toNat = q1 := by omega
  by_cases g : ¬ a = b
  · rw [if_pos g]
    refine res_step hd rfl ?_
    show (if (0 : Int) ≤ pc + off then (if cndB .ne a b then nk (pc + off).toNat ls st h else nk (pc + 3) ls st h) else none) = _
    rw [if_pos h0, h1]
    have e : cndB .ne a b = true := by simp [cndB, g]
    rw [e]
    rfl
  · rw [if_neg g]
    refine res_step hd rfl ?_
    show (if (0 : Int) ≤ pc + off then (if cndB .ne a b then nk (pc + off).toNat ls st h else nk (pc + 3) ls st h) else none) = _
    rw [if_pos h0, h1]
    have e : cndB .ne a b = false := by simp [cndB, g]
    rw [e]
    rfl
theorem e_iflt {off : Int} (hd : decode (cod y) pc = .ok (.ifCond .lt off, 3)) (hq : pc + 3 = q) (ht : (pc : Int) + off = (q1 : Nat)) : Res d y pc ls (vi a :: st) h = if a < 0 then Res d y q1 ls st h else Res d y q ls st h := by
  subst hq
  have h0 : (0 : Int) ≤ pc + off := by omega
  have h1 : ((pc : Int) + off).toNat = q1 := by omega
  by_cases g : a < 0
  · rw [if_pos g]
    refine res_step hd rfl ?_
    show (if (0 : Int) ≤ pc + off then (if cndB .lt a 0 then nk (pc + off).toNat ls st h else nk (pc + 3) ls st h) else none) = _
    rw [if_pos h0, h1]
    have e : cndB .lt a 0 = true := by simp [cndB, g]
    rw [e]
    rfl
  · rw [if_neg g]
    refine res_step hd rfl ?_
    show (if (0 : Int) ≤ pc + off then (if cndB .lt a 0 then nk (pc + off).toNat ls st h else nk (pc + 3) ls st h) else none) = _
    rw [if_pos h0, h1]
    have e : cndB .lt a 0 = false := by simp [cndB, g]
    rw [e]
    rfl
theorem e_iclt {off : Int} (hd : decode (cod y) pc = .ok (.if_icmp .lt off, 3)) (hq : pc + 3 = q) (ht : (pc : Int) + off = (q1 : Nat)) : Res d y pc ls (vi b :: vi a :: st) h = if a < b then Res d y q1 ls st h else Res d y q ls st h := by
  subst hq
  have h0 : (0 : Int) ≤ pc + off := by omega
  have h1 : ((pc : Int) + off).toNat = q1 := by omega
  by_cases g : a < b
  · rw [if_pos g]
    refine res_step hd rfl ?_
    show (if (0 : Int) ≤ pc + off then (if cndB .lt a b then nk (pc + off).toNat ls st h else nk (pc + 3) ls st h) else none) = _
    rw [if_pos h0, h1]
    have e : cndB .lt a b = true := by simp [cndB, g]
    rw [e]
    rfl
  · rw [if_neg g]
    refine res_step hd rfl ?_
    show (if (0 : Int) ≤ pc + off then (if cndB .lt a b then nk (pc + off).toNat ls st h else nk (pc + 3) ls st h) else none) = _
    rw [if_pos h0, h1]
    have e : cndB .lt a b = false := by simp [cndB, g]
    rw [e]
    rfl
theorem e_ifge {off : Int} (hd : decode (cod y) pc = .ok (.ifCond .ge off, 3)) (hq : pc + 3 = q) (ht : (pc : Int) + off = (q1 : Nat)) : Res d y pc ls (vi a :: st) h = if 0 ≤ a then Res d y q1 ls st h else Res d y q ls st h := by
  subst hq
  have h0 : (0 : Int) ≤ pc + off := by omega
  have h1 : ((pc : Int) + off).toNat = q1 := by omega
  by_cases g : 0 ≤ a
  · rw [if_pos g]
    refine res_step hd rfl ?_
    show (if (0 : Int) ≤ pc + off then (if cndB .ge a 0 then nk (pc + off).toNat ls st h else nk (pc + 3) ls st h) else none) = _
    rw [if_pos h0, h1]
    have e : cndB .ge a 0 = true := by simp [cndB, g]
    rw [e]
    rfl
  · rw [if_neg g]
    refine res_step hd rfl ?_
    show (if (0 : Int) ≤ pc + off then (if cndB .ge a 0 then nk (pc + off).toNat ls st h else nk (pc + 3) ls st h) else none) = _
    rw [if_pos h0, h1]
    have e : cndB .ge a 0 = false := by simp [cndB, g]
    rw [e]
    rfl
theorem e_icge {off : Int} (hd : decode (cod y) pc = .ok (.if_icmp .ge off, 3)) (hq : pc + 3 = q) (ht : (pc : Int) + off = (q1 : Nat)) : Res d y pc ls (vi b :: vi a :: st) h = if b ≤ a then Res d y q1 ls st h else Res d y q ls st h := by
  subst hq
  have h0 : (0 : Int) ≤ pc + off := by omega
  have h1 : ((pc : Int) + off).toNat = q1 := by omega
  by_cases g : b ≤ a
  · rw [if_pos g]
    refine res_step hd rfl ?_
    show (if (0 : Int) ≤ pc + off then (if cndB .ge a b then nk (pc + off).toNat ls st h else nk (pc + 3) ls st h) else none) = _
    rw [if_pos h0, h1]
    have e : cndB .ge a b = true := by simp [cndB, g]
    rw [e]
    rfl
  · rw [if_neg g]
    refine res_step hd rfl ?_
    show (if (0 : Int) ≤ pc + off then (if cndB .ge a b then nk (pc + off).toNat ls st h else nk (pc + 3) ls st h) else none) = _
    rw [if_pos h0, h1]
    have e : cndB .ge a b = false := by simp [cndB, g]
    rw [e]
    rfl
theorem e_ifgt {off : Int} (hd : decode (cod y) pc = .ok (.ifCond .gt off, 3)) (hq : pc + 3 = q) (ht : (pc : Int) + off = (q1 : Nat)) : Res d y pc ls (vi a :: st) h = if 0 < a then Res d y q1 ls st h else Res d y q ls st h := by
  subst hq
  have h0 : (0 : Int) ≤ pc + off := by omega
  have h1 : ((pc : Int) + off).toNat = q1 := by omega
  by_cases g : 0 < a
  · rw [if_pos g]
    refine res_step hd rfl ?_
    show (if (0 : Int) ≤ pc + off then (if cndB .gt a 0 then nk (pc + off).toNat ls st h else nk (pc + 3) ls st h) else none) = _
    rw [if_pos h0, h1]
    have e : cndB .gt a 0 = true := by simp [cndB, g]
    rw [e]
    rfl
  · rw [if_neg g]
    refine res_step hd rfl ?_
    show (if (0 : Int) ≤ pc + off then (if cndB .gt a 0 then nk (pc + off).toNat ls st h else nk (pc + 3) ls st h) else none) = _
    rw [if_pos h0, h1]
    have e : cndB .gt a 0 = false := by simp [cndB, g]
    rw [e]
    rfl
theorem e_icgt {off : Int} (hd : decode (cod y) pc = .ok (.if_icmp .gt off, 3)) (hq : pc + 3 = q) (ht : (pc : Int) + off = (q1 : Nat)) : Res d y pc ls (vi b :: vi a :: st) h = if b < a then Res d y q1 ls st h else Res d y q ls st h := by
  subst hq
  have h0 : (0 : Int) ≤ pc + off := by omega
  have h1 : ((pc : Int) + off).toNat = q1 := by omega
  by_cases g : b < a
  · rw [if_pos g]
    refine res_step hd rfl ?_
    show (if (0 : Int) ≤ pc + off then (if cndB .gt a b then nk (pc + off).toNat ls st h else nk (pc + 3) ls st h) else none) = _
    rw [if_pos h0, h1]
    have e : cndB .gt a b = true := by simp [cndB, g]
    rw [e]
    rfl
  · rw [if_neg g]
    refine res_step hd rfl ?_
    show (if (0 : Int) ≤ pc + off then (if cndB .gt a b then nk (pc + off).toNat ls st h else nk (pc + 3) ls st h) else none) = _
    rw [if_pos h0, h1]
    have e : cndB .gt a b = false := by simp [cndB, g]
    rw [e]
    rfl
theorem e_ifle {off : Int} (hd : decode (cod y) pc = .ok (.ifCond .le off, 3)) (hq : pc + 3 = q) (ht : (pc : Int) + off = (q1 : Nat)) : Res d y pc ls (vi a :: st) h = if a ≤ 0 then Res d y q1 ls st h else Res d y q ls st h := by
  subst hq
  have h0 : (0 : Int) ≤ pc + off := by omega
  have h1 : ((pc : Int) + off).toNat = q1 := by omega
  by_cases g : a ≤ 0
  · rw [if_pos g]
    refine res_step hd rfl ?_
    show (if (0 : Int) ≤ pc + off then (if cndB .le a 0 then nk (pc + off).toNat ls st h else nk (pc + 3) ls st h) else none) = _
    rw [if_pos h0, h1]
    have e : cndB .le a 0 = true := by simp [cndB, g]
    rw [e]
    rfl
  · rw [if_neg g]
    refine res_step hd rfl ?_
    show (if (0 : Int) ≤ pc + off then (if cndB .le a 0 then nk (pc + off).toNat ls st h else nk (pc + 3) ls st h) else none) = _
    rw [if_pos h0, h1]
    have e : cndB .le a 0 = false := by simp [cndB, g]
    rw [e]
    rfl
theorem e_icle {off : Int} (hd : decode (cod y) pc = .ok (.if_icmp .le off, 3)) (hq : pc + 3 = q) (ht : (pc : Int) + off = (q1 : Nat)) : Res d y pc ls (vi b :: vi a :: st) h = if a ≤ b then Res d y q1 ls st h else Res d y q ls st h := by
  subst hq
  have h0 : (0 : Int) ≤ pc + off := by omega
  have h1 : ((pc : Int) + off).toNat = q1 := by omega
  by_cases g : a ≤ b
  · rw [if_pos g]
    refine res_step hd rfl ?_
    show (if (0 : Int) ≤ pc + off then (if cndB .le a b then nk (pc + off).toNat ls st h else nk (pc + 3) ls st h) else none) = _
    rw [if_pos h0, h1]
    have e : cndB .le a b = true := by simp [cndB, g]
    rw [e]
    rfl
  · rw [if_neg g]
    refine res_step hd rfl ?_
    show (if (0 : Int) ≤ pc + off then (if cndB .le a b then nk (pc + off).toNat ls st h else nk (pc + 3) ls st h) else none) = _
    rw [if_pos h0, h1]
    have e : cndB .le a b = false := by simp [cndB, g]
    rw [e]
    rfl
theorem e_goto {off : Int} (hd : decode (cod y) pc = .ok (.goto off, 3)) (ht : (pc : Int) + off = (q1 : Nat)) : Res d y pc ls st h = Res d y q1 ls st h := by
  have h0 : (0 : Int) ≤ pc + off := by omega
  have h1 : ((pc : Int) + off).toNat = q1 := by omega
  refine res_step hd rfl ?_
  show (if (0 : Int) ≤ pc + off then nk (pc + off).toNat ls st h else none) = _
  rw [if_pos h0, h1]
theorem e_getI {ix o c s ne w r i : Nat} (hd : decode (cod y) pc = .ok (.getfield ix, 3)) (hq : pc + 3 = q) (ho : own y = o) (hf : fldR o ix = some (c, s, ne, w)) (hs : sh r i = .inl c) (hk : ftk c s ≤ 1) : Res d y pc ls (vr r i :: st) (mk I L t) = Res d y q ls (vi (I r i s) :: st) (mk I L t) := by
  subst hq; subst ho
  refine res_step hd rfl ?_
  show getX (own y) ix _ ls (vr r i :: st) (mk I L t) = _
  unfold getX
  rw [hf]
  dsimp only
  rw [if_pos hs]
  unfold rdk
  rw [if_pos hk]
theorem e_getP {ix o c s ne w r i : Nat} {p : MR} (hd : decode (cod y) pc = .ok (.getfield ix, 3)) (hq : pc + 3 = q) (ho : own y = o) (hf : fldR o ix = some (c, s, ne, w)) (hs : sh r i = .inl c) (hk : ftk c s = 3) (hp : PP t r i s = some p) : Res d y pc ls (vr r i :: st) (mk I L t) = Res d y q ls (va (some p) :: st) (mk I L t) := by
  subst hq; subst ho
  refine res_step hd rfl ?_
  show getX (own y) ix _ ls (vr r i :: st) (mk I L t) = _
  unfold getX
  rw [hf]
  dsimp only
  rw [if_pos hs]
  unfold rdk
  rw [hk, if_neg (by decide), if_neg (by decide)]
  show nk _ ls (va (PP t r i s) :: st) _ = _
  rw [hp]
theorem e_putI {ix o c s ne w r i : Nat} (hd : decode (cod y) pc = .ok (.putfield ix, 3)) (hq : pc + 3 = q) (ho : own y = o) (hf : fldR o ix = some (c, s, ne, w)) (hs : sh r i = .inl c) (hS : isS r = false) (hfin : fin c s = false) (hk : ftk c s = 0 ∨ (ftk c s = 1 ∧ (x = 0 ∨ x = 1))) : Res d y pc ls (vi x :: vr r i :: st) (mk I L t) = Res d y q ls st (mk (up3 I r i s x) L t) := by
  subst hq; subst ho
  refine res_step hd rfl ?_
  show putX (own y) ix _ (knd y) ls (vi x :: vr r i :: st) (mk I L t) = _
  unfold putX
  rw [hf]
  dsimp only
  rw [if_pos ⟨hs, hS, fun z => by rw [hfin] at z; cases z⟩, if_pos hk]
theorem e_getst {ix o n w : Nat} (hd : decode (cod y) pc = .ok (.getstatic ix, 3)) (hq : pc + 3 = q) (ho : own y = o) (hf : staR o ix = some (n, w)) : Res d y pc ls st h = Res d y q ls (vr rROM n :: st) h := by
  subst hq; subst ho
  refine res_step hd rfl ?_
  show (match staR (own y) ix with | some (n, _) => nk _ ls (vr rROM n :: st) h | none => none) = _
  rw [hf]
theorem e_iald {r i : Nat} {n : Int} (hd : decode (cod y) pc = .ok (.iaload, 1)) (hq : pc + 1 = q) (hn : alen 0 r i = n) (g : 0 ≤ a ∧ a < n) : Res d y pc ls (vi a :: vr r i :: st) (mk I L t) = Res d y q ls (vi (ldI (mk I L t) r i a.toNat) :: st) (mk I L t) := by
  subst hq; subst hn
  refine res_step hd rfl ?_
  show aldX 0 _ ls (vi a :: vr r i :: st) (mk I L t) = _
  unfold aldX
  dsimp only
  rw [if_pos g]
  rfl
theorem e_bald {r i : Nat} {n : Int} (hd : decode (cod y) pc = .ok (.baload, 1)) (hq : pc + 1 = q) (hn : alen 2 r i = n) (g : 0 ≤ a ∧ a < n) : Res d y pc ls (vi a :: vr r i :: st) (mk I L t) = Res d y q ls (vi (ldI (mk I L t) r i a.toNat) :: st) (mk I L t) := by
  subst hq; subst hn
  refine res_step hd rfl ?_
  show aldX 2 _ ls (vi a :: vr r i :: st) (mk I L t) = _
  unfold aldX
  dsimp only
  rw [if_pos g]
  rfl
theorem e_lald {r i : Nat} {n : Int} (hd : decode (cod y) pc = .ok (.laload, 1)) (hq : pc + 1 = q) (hn : alen 1 r i = n) (g : 0 ≤ a ∧ a < n) : Res d y pc ls (vi a :: vr r i :: st) (mk I L t) = Res d y q ls (vl (L r i a.toNat) :: st) (mk I L t) := by
  subst hq; subst hn
  refine res_step hd rfl ?_
  show aldX 1 _ ls (vi a :: vr r i :: st) (mk I L t) = _
  unfold aldX
  dsimp only
  rw [if_pos g]
  rfl
theorem e_aald {r i : Nat} {n : Int} {p : MR} (hd : decode (cod y) pc = .ok (.aaload, 1)) (hq : pc + 1 = q) (he : 9 ≤ aek r i ∧ aek r i < 23) (hn : alen (aek r i) r i = n) (hp : PP t r i a.toNat = some p) (g : 0 ≤ a ∧ a < n) : Res d y pc ls (vi a :: vr r i :: st) (mk I L t) = Res d y q ls (va (some p) :: st) (mk I L t) := by
  subst hq; subst hn
  refine res_step hd rfl ?_
  show aaldX _ ls (vi a :: vr r i :: st) (mk I L t) = _
  unfold aaldX
  dsimp only
  rw [if_pos ⟨he.1, he.2, g.1, g.2⟩]
  show nk _ ls (va (PP t r i a.toNat) :: st) _ = _
  rw [hp]
theorem e_iast {r i : Nat} {n : Int} (hd : decode (cod y) pc = .ok (.iastore, 1)) (hq : pc + 1 = q) (hn : alen 0 r i = n) (hS : isS r = false) (g : 0 ≤ a ∧ a < n) : Res d y pc ls (vi x :: vi a :: vr r i :: st) (mk I L t) = Res d y q ls st (mk (up3 I r i a.toNat x) L t) := by
  subst hq; subst hn
  refine res_step hd rfl ?_
  show astX 0 _ ls (vi x :: vi a :: vr r i :: st) (mk I L t) = _
  unfold astX
  dsimp only
  rw [if_pos ⟨Or.inl rfl, g.1, g.2, hS⟩]
theorem e_bast {r i : Nat} {n : Int} (hd : decode (cod y) pc = .ok (.bastore, 1)) (hq : pc + 1 = q) (hn : alen 2 r i = n) (hS : isS r = false) (g : (0 ≤ a ∧ a < n) ∧ (x = 0 ∨ x = 1)) : Res d y pc ls (vi x :: vi a :: vr r i :: st) (mk I L t) = Res d y q ls st (mk (up3 I r i a.toNat x) L t) := by
  subst hq; subst hn
  refine res_step hd rfl ?_
  show astX 2 _ ls (vi x :: vi a :: vr r i :: st) (mk I L t) = _
  unfold astX
  dsimp only
  rw [if_pos ⟨Or.inr ⟨rfl, g.2⟩, g.1.1, g.1.2, hS⟩]
theorem e_last {r i : Nat} {n : Int} (hd : decode (cod y) pc = .ok (.lastore, 1)) (hq : pc + 1 = q) (hn : alen 1 r i = n) (hS : isS r = false) (g : 0 ≤ a ∧ a < n) : Res d y pc ls (vl x :: vi a :: vr r i :: st) (mk I L t) = Res d y q ls st (mk I (up3 L r i a.toNat x) t) := by
  subst hq; subst hn
  refine res_step hd rfl ?_
  show astX 1 _ ls (vl x :: vi a :: vr r i :: st) (mk I L t) = _
  unfold astX
  dsimp only
  rw [if_pos ⟨rfl, g.1, g.2, hS⟩]
theorem e_alen {r i n : Nat} (hd : decode (cod y) pc = .ok (.arraylength, 1)) (hq : pc + 1 = q) (ha : aek r i = 0) (hS : isS r = false) (hn : alen 0 r i = n) (hp : 0 < n) : Res d y pc ls (vr r i :: st) h = Res d y q ls (vi n :: st) h := by
  subst hq; subst hn
  refine res_step hd rfl ?_
  show (if aek r i = 0 ∧ isS r = false ∧ 0 < alen 0 r i then nk _ ls (vi (alen 0 r i) :: st) h else _) = _
  rw [if_pos ⟨ha, hS, hp⟩]
theorem e_alenS {i : Nat} (hd : decode (cod y) pc = .ok (.arraylength, 1)) (hq : pc + 1 = q) : Res d y pc ls (vr rSCR i :: st) h = Res d y q ls (vi i :: st) h := by
  subst hq
  refine res_step hd rfl ?_
  show (if aek rSCR i = 0 ∧ isS rSCR = false ∧ 0 < alen 0 rSCR i then nk (pc + 1) ls (vi (alen 0 rSCR i) :: st) h else if rSCR = rSCR then nk (pc + 1) ls (vi i :: st) h else none) = _
  rw [if_neg (fun z => by cases z.2.1), if_pos rfl]
theorem e_iret (hd : decode (cod y) pc = .ok (.ireturn, 1)) (hr : nrK y x = true) : Res d y pc ls [vi x] h = some (vi x, h) := by
  refine res_ret hd rfl rfl rfl ?_
  show (if nrK y x then some (vi x, h) else none) = _
  rw [hr]
  rfl
theorem e_lret (hd : decode (cod y) pc = .ok (.lreturn, 1)) (hr : rty y = some .long) : Res d y pc ls [vl x] h = some (vl x, h) := by
  refine res_ret hd rfl rfl rfl ?_
  show (if rty y = some .long then some (vl x, h) else none) = _
  rw [if_pos hr]
theorem e_aretO {p : MR} {n : String} (hd : decode (cod y) pc = .ok (.areturn, 1)) (hr : rty y = some (.object n)) : Res d y pc ls [va (some p)] h = some (va (some p), h) := by
  refine res_ret hd rfl rfl rfl ?_
  show (match rty y with | some (.object _) => some (va (some p), h) | some (.array _) => some (va (some p), h) | _ => none) = _
  rw [hr]
theorem e_aretA {p : MR} {n : FieldType} (hd : decode (cod y) pc = .ok (.areturn, 1)) (hr : rty y = some (.array n)) : Res d y pc ls [va (some p)] h = some (va (some p), h) := by
  refine res_ret hd rfl rfl rfl ?_
  show (match rty y with | some (.object _) => some (va (some p), h) | some (.array _) => some (va (some p), h) | _ => none) = _
  rw [hr]
theorem e_vret (hd : decode (cod y) pc = .ok (.return_, 1)) (hr : rty y = none) : Res d y pc ls [] h = some (vx, h) := by
  refine res_ret hd rfl rfl rfl ?_
  show (if rty y = none then some (vx, h) else none) = _
  rw [if_pos hr]
theorem e_callS {ix o z ne w : Nat} {as rest : List MV} (hd : decode (cod y) pc = .ok (.invokestatic ix, 3)) (hq : pc + 3 = q) (ho : own y = o) (hm : mthR o ix = some (z, ne, w)) (hz : z < 250) (hc : cllGo z ne 0 st = some (z, as, rest)) (hv : rcv z as = true) : Res (d + 1) y pc ls st h = (Cal d z as h).bind fun v => Res (d + 1) y q ls (psh z v.1 rest) v.2 := by
  subst hq; subst ho
  refine res_call hd rfl ?_ ?_ hv
  · show (match mthR (own y) ix with | some (z, ne, _) => if z = 901 ∧ ne = 0 ∧ 0 < d + 1 then cpyX (pc + 3) ls st h else if 904 ≤ z ∧ z ≤ 906 ∧ ne = 0 ∧ 0 < d + 1 then mthX z (pc + 3) ls st h else none | none => none) = none
    rw [hm]
    dsimp only
    rw [if_neg (by omega), if_neg (by omega)]
  · show cllM y ix 0 st = _
    unfold cllM
    rw [hm]
    exact hc
theorem e_callV {ix o z ne w : Nat} {as rest : List MV} (hd : decode (cod y) pc = .ok (.invokevirtual ix, 3)) (hq : pc + 3 = q) (ho : own y = o) (hm : mthR o ix = some (z, ne, w)) (hz : z < 250) (hc : cllGo z ne 1 st = some (z, as, rest)) (hv : rcv z as = true) : Res (d + 1) y pc ls st h = (Cal d z as h).bind fun v => Res (d + 1) y q ls (psh z v.1 rest) v.2 := by
  subst hq; subst ho
  refine res_call hd rfl ?_ ?_ hv
  · show (match mthR (own y) ix with | some (z, ne, _) => if z = 902 ∧ ne = 0 ∧ 6 < d + 1 then slnX (pc + 3) ls st h else if z = 903 ∧ ne = 0 ∧ 6 < d + 1 then schX (pc + 3) ls st h else none | none => none) = none
    rw [hm]
    dsimp only
    rw [if_neg (by omega), if_neg (by omega)]
  · show cllM y ix 1 st = _
    unfold cllM
    rw [hm]
    exact hc
theorem e_callI {ix o z ne w : Nat} {as rest : List MV} (hd : decode (cod y) pc = .ok (.invokespecial ix, 3)) (hq : pc + 3 = q) (ho : own y = o) (hm : mthR o ix = some (z, ne, w)) (hz : z < 250) (hc : cllGo z ne 2 st = some (z, as, rest)) (hv : rcv z as = true) : Res (d + 1) y pc ls st h = (Cal d z as h).bind fun v => Res (d + 1) y q ls (psh z v.1 rest) v.2 := by
  subst hq; subst ho
  refine res_call hd rfl ?_ ?_ hv
  · show (match mthR (own y) ix with | some (z, ne, _) => if z = 900 ∧ ne = 0 ∧ 0 < d + 1 then (match st with | .inr (.inr (.inl (some _))) :: r => if (r.map cw).sum ≤ 8 then nk (pc + 3) ls r h else none | _ => none) else none | none => none) = none
    rw [hm]
    dsimp only
    rw [if_neg (by omega)]
  · show cllM y ix 2 st = _
    unfold cllM
    rw [hm]
    exact hc
theorem nrz (hr : rty y = some .boolean) (hx : x = 0 ∨ x = 1) : nrK y x = true := by
  unfold nrK
  rw [hr]
  rcases hx with rfl | rfl <;> rfl
theorem e_max {ix o w : Nat} (h0 : 0 < d) (hd : decode (cod y) pc = .ok (.invokestatic ix, 3)) (hq : pc + 3 = q) (ho : own y = o) (hm : mthR o ix = some (904, 0, w)) (hs : (st.map cw).sum ≤ 8) : Res d y pc ls (vi b :: vi a :: st) h = Res d y q ls (vi (if a < b then b else a) :: st) h := by
  subst hq; subst ho
  refine res_step hd rfl ?_
  show (match mthR (own y) ix with | some (z, ne, _) => if z = 901 ∧ ne = 0 ∧ 0 < d then cpyX (pc + 3) ls (vi b :: vi a :: st) h else if 904 ≤ z ∧ z ≤ 906 ∧ ne = 0 ∧ 0 < d then mthX z (pc + 3) ls (vi b :: vi a :: st) h else none | none => none) = _
  rw [hm]
  dsimp only
  rw [if_neg (by omega), if_pos (by omega)]
  show (if (st.map cw).sum ≤ 8 then nk _ ls (vi (if a < b then b else a) :: st) h else none) = _
  rw [if_pos hs]
theorem e_min {ix o w : Nat} (h0 : 0 < d) (hd : decode (cod y) pc = .ok (.invokestatic ix, 3)) (hq : pc + 3 = q) (ho : own y = o) (hm : mthR o ix = some (905, 0, w)) (hs : (st.map cw).sum ≤ 8) : Res d y pc ls (vi b :: vi a :: st) h = Res d y q ls (vi (if b < a then b else a) :: st) h := by
  subst hq; subst ho
  refine res_step hd rfl ?_
  show (match mthR (own y) ix with | some (z, ne, _) => if z = 901 ∧ ne = 0 ∧ 0 < d then cpyX (pc + 3) ls (vi b :: vi a :: st) h else if 904 ≤ z ∧ z ≤ 906 ∧ ne = 0 ∧ 0 < d then mthX z (pc + 3) ls (vi b :: vi a :: st) h else none | none => none) = _
  rw [hm]
  dsimp only
  rw [if_neg (by omega), if_pos (by omega)]
  show (if (st.map cw).sum ≤ 8 then nk _ ls (vi (if b < a then b else a) :: st) h else none) = _
  rw [if_pos hs]
theorem e_abs {ix o w : Nat} (h0 : 0 < d) (hd : decode (cod y) pc = .ok (.invokestatic ix, 3)) (hq : pc + 3 = q) (ho : own y = o) (hm : mthR o ix = some (906, 0, w)) (hs : (st.map cw).sum ≤ 8) : Res d y pc ls (vi a :: st) h = Res d y q ls (vi (if 0 ≤ a then a else w32 (-a)) :: st) h := by
  subst hq; subst ho
  refine res_step hd rfl ?_
  show (match mthR (own y) ix with | some (z, ne, _) => if z = 901 ∧ ne = 0 ∧ 0 < d then cpyX (pc + 3) ls (vi a :: st) h else if 904 ≤ z ∧ z ≤ 906 ∧ ne = 0 ∧ 0 < d then mthX z (pc + 3) ls (vi a :: st) h else none | none => none) = _
  rw [hm]
  dsimp only
  rw [if_neg (by omega), if_pos (by omega)]
  show (if (st.map cw).sum ≤ 8 then nk _ ls (vi (if 0 ≤ a then a else w32 (-a)) :: st) h else none) = _
  rw [if_pos hs]
def cpI (I : Nat → Nat → Nat → Int) (r i sp r2 i2 dp n : Nat) : Nat → Nat → Nat → Int := fun a b c => if a = r2 ∧ b = i2 ∧ dp ≤ c ∧ c < dp + n then I r i (sp + (c - dp)) else I a b c
theorem e_acpy {ix o w r i r2 i2 : Nat} {n sp dp n1 n2 : Int} (h0 : 0 < d) (hd : decode (cod y) pc = .ok (.invokestatic ix, 3)) (hq : pc + 3 = q) (ho : own y = o) (hm : mthR o ix = some (901, 0, w)) (hS : isS r = false) (hS2 : isS r2 = false) (h1 : (alen 0 r i : Int) = n1) (h2 : (alen 0 r2 i2 : Int) = n2) (g : 0 ≤ n ∧ 0 ≤ sp ∧ 0 ≤ dp ∧ sp + n ≤ n1 ∧ dp + n ≤ n2 ∧ 0 < n1 ∧ 0 < n2) : Res d y pc ls [vi n, vi dp, vr r2 i2, vi sp, vr r i] (mk I L t) = Res d y q ls [] (mk (cpI I r i sp.toNat r2 i2 dp.toNat n.toNat) L t) := by
  subst hq; subst ho; subst h1; subst h2
  refine res_step hd rfl ?_
  show (match mthR (own y) ix with | some (z, ne, _) => if z = 901 ∧ ne = 0 ∧ 0 < d then cpyX (pc + 3) ls [vi n, vi dp, vr r2 i2, vi sp, vr r i] (mk I L t) else if 904 ≤ z ∧ z ≤ 906 ∧ ne = 0 ∧ 0 < d then mthX z (pc + 3) ls [vi n, vi dp, vr r2 i2, vi sp, vr r i] (mk I L t) else none | none => none) = _
  rw [hm]
  dsimp only
  rw [if_pos ⟨rfl, rfl, h0⟩]
  unfold cpyX
  dsimp only
  rw [if_pos ⟨g.1, g.2.1, g.2.2.1, g.2.2.2.1, g.2.2.2.2.1, hS, hS2, rfl, by omega, by omega⟩]
  rfl
theorem e_slen {ix o w n : Nat} (h0 : 6 < d) (hd : decode (cod y) pc = .ok (.invokevirtual ix, 3)) (hq : pc + 3 = q) (ho : own y = o) (hm : mthR o ix = some (902, 0, w)) (hn : n < 24) (hs : (st.map cw).sum ≤ 8) : Res d y pc ls (vr rSTR n :: st) h = Res d y q ls (vi (slen n) :: st) h := by
  subst hq; subst ho
  refine res_step hd rfl ?_
  show (match mthR (own y) ix with | some (z, ne, _) => if z = 902 ∧ ne = 0 ∧ 6 < d then slnX (pc + 3) ls (vr rSTR n :: st) h else if z = 903 ∧ ne = 0 ∧ 6 < d then schX (pc + 3) ls (vr rSTR n :: st) h else none | none => none) = _
  rw [hm]
  dsimp only
  rw [if_pos ⟨rfl, rfl, h0⟩]
  unfold slnX
  dsimp only
  rw [if_pos ⟨rfl, hn, hs⟩]
theorem e_sch {ix o w n : Nat} (h0 : 6 < d) (hd : decode (cod y) pc = .ok (.invokevirtual ix, 3)) (hq : pc + 3 = q) (ho : own y = o) (hm : mthR o ix = some (903, 0, w)) (hn : n < 24) (g : 0 ≤ a ∧ a < slen n) (hs : (st.map cw).sum ≤ 8) : Res d y pc ls (vi a :: vr rSTR n :: st) h = Res d y q ls (vi (sch n a.toNat) :: st) h := by
  subst hq; subst ho
  refine res_step hd rfl ?_
  show (match mthR (own y) ix with | some (z, ne, _) => if z = 902 ∧ ne = 0 ∧ 6 < d then slnX (pc + 3) ls (vi a :: vr rSTR n :: st) h else if z = 903 ∧ ne = 0 ∧ 6 < d then schX (pc + 3) ls (vi a :: vr rSTR n :: st) h else none | none => none) = _
  rw [hm]
  dsimp only
  rw [if_neg (by omega), if_pos ⟨rfl, rfl, h0⟩]
  unfold schX
  dsimp only
  rw [if_pos ⟨rfl, hn, g.1, g.2, hs⟩]
theorem e_tswD {df lo hi : Int} {offs : Array Int} (hd : decode (cod y) pc = .ok (.tableswitch df lo hi offs, len)) (hx : x < lo ∨ hi < x) (ht : (pc : Int) + df = (q1 : Nat)) : Res d y pc ls (vi x :: st) h = Res d y q1 ls st h := by
  have h0 : (0 : Int) ≤ pc + df := by omega
  have h1 : ((pc : Int) + df).toNat = q1 := by omega
  refine res_step hd rfl ?_
  show (if x < lo ∨ hi < x then (if (0 : Int) ≤ pc + df then nk (pc + df).toNat ls st h else none) else _) = _
  rw [if_pos hx, if_pos h0, h1]
theorem e_tswK {df lo hi off : Int} {offs : Array Int} {k : Nat} (hd : decode (cod y) pc = .ok (.tableswitch df lo hi offs, len)) (hx : x = lo + k) (hk : lo + k ≤ hi) (ho : offs[k]? = some off) (ht : (pc : Int) + off = (q1 : Nat)) : Res d y pc ls (vi x :: st) h = Res d y q1 ls st h := by
  have h0 : (0 : Int) ≤ pc + off := by omega
  have h1 : ((pc : Int) + off).toNat = q1 := by omega
  have hxk : (x - lo).toNat = k := by omega
  refine res_step hd rfl ?_
  show (if x < lo ∨ hi < x then (if (0 : Int) ≤ pc + df then nk (pc + df).toNat ls st h else none) else match offs[(x - lo).toNat]? with | some off => if (0 : Int) ≤ pc + off then nk (pc + off).toNat ls st h else none | none => none) = _
  rw [if_neg (by omega), hxk, ho]
  dsimp only
  rw [if_pos h0, h1]
end INS
