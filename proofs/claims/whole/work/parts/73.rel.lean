/-! what the class and the model hold alike -/
def rowR (nf n m : Int) (a b : Nat → Int) : Prop := n = m ∧ (0 ≤ m ∧ m ≤ 9) ∧ ∀ p : Nat, (p : Int) < m → a p = b p ∧ (b p = -1 ∨ (0 ≤ b p ∧ b p < nf))
theorem rowR.rv {nf n m : Int} {a b : Nat → Int} (h : rowR nf n m a b) : rvP n a = rvP m b := by
  rw [h.1]
  exact rvP_cg (fun j q => (h.2.2 j q).1)
theorem rowR.bd {nf n m : Int} {a b : Nat → Int} (h : rowR nf n m a b) (p : Int) : rvP m b p = -1 ∨ (0 ≤ rvP m b p ∧ rvP m b p < nf) := by
  by_cases c : 0 ≤ p ∧ p < m
  · have := (h.2.2 p.toNat (by omega)).2
    unfold rvP
    rw [if_pos c]
    exact this
  · exact Or.inl (rvP_neg c)
theorem rowR.B {nf n m : Int} {a b : Nat → Int} (h : rowR nf n m a b) (hn : nf ≤ 120) : rvB (rvP m b) := fun p => by
  have := h.bd p
  omega
theorem rowR.mono {nf nf' n m : Int} {a b : Nat → Int} (h : rowR nf n m a b) (hn : nf ≤ nf') : rowR nf' n m a b := ⟨h.1, h.2.1, fun p q => by
  have := h.2.2 p q
  omega⟩
def reF (I : H3) : Prop := (0 ≤ I 11 0 10 ∧ I 11 0 10 ≤ 120) ∧ I 12 0 1 = I 11 0 10 ∧ (∀ f, f < 120 → R31 (I 22 f) ∧ c16 (nM I f) = c16 (I 22 f) ∧ I 49 0 f = I 1 f 1 ∧ (0 ≤ I 1 f 1 ∧ I 1 f 1 < 6)) ∧ ∀ f : Nat, (f : Int) < I 11 0 10 → I 50 0 f = I 1 f 2
def reT (I : H3) : Prop := ∀ k, k < 6 → R31 (I 115 k) ∧ c16 (mT I k) = c16 (I 115 k)
def reR (nf : Int) (I : H3) : Prop := ∀ r, r < 6 → rowR nf (I 53 0 r) (I 4 r 1) (fun p => I 52 0 (9 * r + p)) (I 30 r)
def reH (t : Nat → Nat) (I : H3) : Prop := ∀ k, k < 4 → hC I (t k) = mH I k ∧ hOk I (t k) ∧ mhOk I k ∧ okH (mH I k)
def reS (t : Nat → Nat) (I : H3) : Prop := I 12 0 33 = I 5 (t 10) 3 ∧ (0 ≤ I 5 (t 10) 3 ∧ I 5 (t 10) 3 ≤ 12) ∧ ∀ i : Nat, (i : Int) < I 5 (t 10) 3 → (I 64 0 i = I 31 (t 10) i ∧ 0 ≤ I 31 (t 10) i ∧ I 31 (t 10) i < 16) ∧ I 65 0 i = I 32 (t 10) i ∧ I 66 0 i = I 33 (t 10) i
def reW (t : Nat → Nat) (I : H3) : Prop := ∀ y, y < 4 → I 70 0 y = I 9 (t (5 + y)) 0 ∧ I 71 0 y = I 9 (t (5 + y)) 1 ∧ I 72 0 y = I 9 (t (5 + y)) 2 ∧ I 73 0 y = I 9 (t (5 + y)) 3 ∧ wyOk I (t (5 + y))
def reP (t : Nat → Nat) : Prop := (∀ a b, a < 5 → b < 5 → t a = t b → a = b) ∧ (∀ a b, a < 5 → b < 5 → t (5 + a) = t (5 + b) → a = b) ∧ t 10 ≠ t 11
def reB (I : H3) : Prop := I 12 0 36 = I 7 0 4 ∧ (0 ≤ I 7 0 4 ∧ I 7 0 4 ≤ 400) ∧ (∀ c : Nat, (c : Int) < I 7 0 4 → I 62 0 c = I 34 0 c ∧ 0 ≤ I 34 0 c ∧ I 34 0 c ≤ 255) ∧ I 12 0 43 = I 7 0 11 ∧ I 12 0 50 = I 7 0 12
/-- witness w -/
def rmi (nf now : Int) (I : H3) (w : Nat) : Prop := (I 80 0 w = I 3 w 2 ∧ 0 ≤ I 3 w 2 ∧ I 3 w 2 < 4) ∧ I 81 0 w = I 3 w 3 ∧ (I 82 0 w = I 3 w 4 ∧ 0 ≤ I 3 w 4 ∧ I 3 w 4 < nf) ∧ (I 83 0 w = I 3 w 5 ∧ I 84 0 w = I 3 w 6 ∧ I 85 0 w = I 3 w 7) ∧ (I 87 0 w = I 3 w 8 ∧ 0 ≤ I 3 w 8 ∧ I 3 w 8 ≤ 9) ∧ (I 86 0 w = I 3 w 9 ∧ 0 ≤ I 3 w 9 ∧ I 3 w 9 ≤ now) ∧ I 3 w 10 = now - I 3 w 9 ∧ (c16 (kpM I w) = c16 (I 28 w) ∧ R31 (I 28 w)) ∧ (c16 (ktM I w) = c16 (I 29 w) ∧ R31 (I 29 w))
def reM (nf now : Int) (I : H3) : Prop := I 12 0 2 = I 11 0 12 ∧ (0 ≤ I 11 0 12 ∧ I 11 0 12 ≤ 20) ∧ ∀ w : Nat, (w : Int) < I 11 0 12 → rmi nf now I w
/-- showing i -/
def rsi (nf nm : Int) (I : H3) (i : Nat) : Prop := (I 94 0 i = I 6 i 1 ∧ 0 ≤ I 6 i 1 ∧ I 6 i 1 < nm) ∧ (I 95 0 i = I 6 i 2 ∧ 0 ≤ I 6 i 2 ∧ I 6 i 2 ≤ 2) ∧ I 96 0 i = I 6 i 3 ∧ I 97 0 i = I 6 i 6 ∧ I 98 0 i = I 6 i 4 ∧ (I 99 0 i = I 6 i 5 ∧ 0 ≤ I 6 i 5 ∧ I 6 i 5 ≤ 99) ∧ I 100 0 i = I 6 i 7 ∧ I 101 0 i = I 6 i 8 ∧ rowR nf (I 103 0 i) (I 4 (6 + i) 1) (fun p => I 102 0 (9 * i + p)) (I 30 (6 + i)) ∧ (I 6 i 6 = -1 ∨ rv I (6 + i) (I 6 i 6) ≠ -1)
def reV (nf nm : Int) (I : H3) : Prop := I 12 0 3 = I 11 0 13 ∧ (0 ≤ I 11 0 13 ∧ I 11 0 13 ≤ 100) ∧ ∀ i : Nat, (i : Int) < I 11 0 13 → rsi nf nm I i
/-- world i -/
def rwi (nf : Int) (I : H3) (i : Nat) : Prop := (I 105 0 i = I 3 (20 + i) 2 ∧ 0 ≤ I 3 (20 + i) 2 ∧ I 3 (20 + i) 2 < 4) ∧ I 106 0 i = I 3 (20 + i) 3 ∧ (I 107 0 i = I 3 (20 + i) 4 ∧ 0 ≤ I 3 (20 + i) 4 ∧ I 3 (20 + i) 4 < nf) ∧ (I 108 0 i = I 3 (20 + i) 5 ∧ I 109 0 i = I 3 (20 + i) 6 ∧ I 110 0 i = I 3 (20 + i) 7) ∧ (I 111 0 i = I 10 i 2 ∧ 0 ≤ I 10 i 2 ∧ I 10 i 2 ≤ 60) ∧ rowR nf (I 113 0 i) (I 4 (106 + i) 1) (fun p => I 112 0 (9 * i + p)) (I 30 (106 + i)) ∧ I 114 0 i = I 10 i 3
def reO (nf : Int) (I : H3) : Prop := I 12 0 4 = I 11 0 14 ∧ (0 ≤ I 11 0 14 ∧ I 11 0 14 ≤ 40) ∧ ∀ i : Nat, (i : Int) < I 11 0 14 → rwi nf I i
def reN (I : H3) : Prop := I 12 0 0 = I 11 0 16 ∧ (0 ≤ I 11 0 16 ∧ I 11 0 16 ≤ 999)
/-- days before entry l of the log, and deeds -/
def dyN (k : Nat → Int) (l : Nat) : Int := fo (fun j a => if k j = 0 then a + 1 else a) 0 l 0
def ddN (k : Nat → Int) (l : Nat) : Int := fo (fun j a => if k j = 0 then a else a + 1) 0 l 0
/-- entry l of the log -/
def rli (nf ns : Int) (I : H3) (l : Nat) : Prop := I 90 0 l = 0 ∨
  (I 90 0 l = 1 ∧ (0 ≤ I 92 0 l ∧ I 92 0 l < ns) ∧ I 91 0 l = I 94 0 (I 92 0 l).toNat ∧ I 46 0 (ddN (I 90 0) l).toNat = I 92 0 l ∧ I 47 0 (ddN (I 90 0) l).toNat = dyN (I 90 0) l) ∨
  (I 90 0 l = 2 ∧ (0 ≤ I 92 0 l ∧ I 92 0 l < nf) ∧ (I 91 0 l = I 50 0 (I 92 0 l).toNat ∧ 0 ≤ I 91 0 l) ∧ I 46 0 (ddN (I 90 0) l).toNat = -1 - I 92 0 l ∧ I 47 0 (ddN (I 90 0) l).toNat = dyN (I 90 0) l)
def reL (nf nm ns now made : Int) (I : H3) : Prop := (0 ≤ I 12 0 72 ∧ I 12 0 72 ≤ 1900) ∧ now = dyN (I 90 0) (I 12 0 72).toNat ∧ (I 11 0 15 = ddN (I 90 0) (I 12 0 72).toNat ∧ I 11 0 15 = ns + made) ∧
  (∀ l : Nat, (l : Int) < I 12 0 72 → rli nf ns I l) ∧
  (∀ w : Nat, (w : Int) < nm → (0 ≤ I 93 0 w ∧ I 93 0 w ≤ I 12 0 72) ∧ dyN (I 90 0) (I 93 0 w).toNat = I 86 0 w ∧ ∀ l : Nat, (l : Int) < I 93 0 w → I 90 0 l ≠ 0 → I 91 0 l ≠ w) ∧
  ∀ i : Nat, (i : Int) < ns → ∃ l : Nat, (I 93 0 (I 94 0 i).toNat).toNat ≤ l ∧ (l : Int) < I 12 0 72 ∧ I 90 0 l = 1 ∧ I 92 0 l = i
def reC (nf : Int) (I : H3) : Prop := I 11 0 11 = fo (fun f a => if I 1 f 2 = -1 then a else a + 1) 0 nf.toNat 0
/-- who has not come yet, and who made what is logged -/
def reU (nm : Int) (I : H3) : Prop := (∀ w : Nat, nm ≤ (w : Int) → w < 20 → I 3 w 8 = 0 ∧ I 87 0 w = 0) ∧ (∀ l : Nat, (l : Int) < I 12 0 72 → I 90 0 l ≠ 0 → I 91 0 l < nm) ∧ ∀ w : Nat, w < 8 → 0 ≤ I 60 0 w
/-- the class holds what the model holds -/
def Rel (I : H3) (t : Nat → Nat) : Prop := reP t ∧ reF I ∧ reT I ∧ reR (I 11 0 10) I ∧ reH t I ∧ reS t I ∧ reW t I ∧ reB I ∧ reM (I 11 0 10) (I 11 0 16) I ∧ reV (I 11 0 10) (I 11 0 12) I ∧ reO (I 11 0 10) I ∧ reN I ∧ reL (I 11 0 10) (I 11 0 12) (I 11 0 13) (I 11 0 16) (I 11 0 11) I ∧ reC (I 11 0 10) I ∧ reU (I 11 0 12) I
section REL
variable {I : H3} {t : Nat → Nat}
theorem Rel.pP (h : Rel I t) : reP t := h.1
theorem Rel.pF (h : Rel I t) : reF I := h.2.1
theorem Rel.pT (h : Rel I t) : reT I := h.2.2.1
theorem Rel.pR (h : Rel I t) : reR (I 11 0 10) I := h.2.2.2.1
theorem Rel.pH (h : Rel I t) : reH t I := h.2.2.2.2.1
theorem Rel.pS (h : Rel I t) : reS t I := h.2.2.2.2.2.1
theorem Rel.pW (h : Rel I t) : reW t I := h.2.2.2.2.2.2.1
theorem Rel.pB (h : Rel I t) : reB I := h.2.2.2.2.2.2.2.1
theorem Rel.pM (h : Rel I t) : reM (I 11 0 10) (I 11 0 16) I := h.2.2.2.2.2.2.2.2.1
theorem Rel.pV (h : Rel I t) : reV (I 11 0 10) (I 11 0 12) I := h.2.2.2.2.2.2.2.2.2.1
theorem Rel.pO (h : Rel I t) : reO (I 11 0 10) I := h.2.2.2.2.2.2.2.2.2.2.1
theorem Rel.pN (h : Rel I t) : reN I := h.2.2.2.2.2.2.2.2.2.2.2.1
theorem Rel.pL (h : Rel I t) : reL (I 11 0 10) (I 11 0 12) (I 11 0 13) (I 11 0 16) (I 11 0 11) I := h.2.2.2.2.2.2.2.2.2.2.2.2.1
theorem Rel.pC (h : Rel I t) : reC (I 11 0 10) I := h.2.2.2.2.2.2.2.2.2.2.2.2.2.1
theorem Rel.pU (h : Rel I t) : reU (I 11 0 12) I := h.2.2.2.2.2.2.2.2.2.2.2.2.2.2
/-! bounds, out of it -/
theorem Rel.fc (h : Rel I t) : fcOk I := fun f hf => (h.pF.2.2.1 f hf).1
theorem Rel.fm (h : Rel I t) : fmOk I := fun f hf => R31.c (by rw [(h.pF.2.2.1 f hf).2.1]; exact (h.pF.2.2.1 f hf).1.d)
theorem Rel.fn (h : Rel I t) : fnOk I := h.pF.1
theorem Rel.k (h : Rel I t) : kOk I := fun f hf => (h.pF.2.2.1 f hf).2.2.2
theorem Rel.km (h : Rel I t) : kmOk I := fun f hf => by
  rw [(h.pF.2.2.1 f hf).2.2.1]
  exact (h.pF.2.2.1 f hf).2.2.2
theorem Rel.ty (h : Rel I t) : tyOk I := fun k hk => (h.pT k hk).1
theorem Rel.tm (h : Rel I t) : tmOk I := fun k hk => R31.c (by rw [(h.pT k hk).2]; exact (h.pT k hk).1.d)
theorem Rel.eF (h : Rel I t) : Feq (I 22) (nM I) := fun f hf => (h.pF.2.2.1 f hf).2.1.symm
theorem Rel.eK (h : Rel I t) : Keq (fun f => I 1 f 1) (I 49 0) := fun f hf => (h.pF.2.2.1 f hf).2.2.1.symm
theorem Rel.rw' (h : Rel I t) {r : Nat} (hr : r < 6) : rwOk I r ∧ mrOk I r ∧ mrw I r = rv I r := by
  have a := h.pR r hr
  have b := a.B h.pF.1.2
  have e : mrw I r = rv I r := a.rv
  refine ⟨⟨a.2.1.2, b⟩, ⟨by rw [a.1]; exact a.2.1, ?_⟩, e⟩
  rw [e]
  exact b
theorem Rel.rs (h : Rel I t) : rsOk I := fun _ hr => (h.rw' hr).1
theorem Rel.rm (h : Rel I t) : rmOk I := fun _ hr => (h.rw' hr).2.1
theorem Rel.mn (h : Rel I t) : mnOk I t := by
  have m := h.pM
  have n := h.pN.2
  have hf := h.pF.1
  refine ⟨m.2.1, fun w hw => ?_⟩
  obtain ⟨⟨a1, a2, a3⟩, b, ⟨c1, c2, c3⟩, e, f, ⟨g1, g2, g3⟩, i, ⟨j1, j2⟩, k1, k2⟩ := m.2.2 w hw
  have hh := h.pH (I 3 w 2).toNat (by omega)
  exact ⟨⟨⟨a2, a3⟩, hh.2.1, by rw [hh.1]; exact hh.2.2.2⟩, j2, k2, ⟨c2, by omega⟩, g2, by omega⟩
theorem Rel.mm (h : Rel I t) : mmOk I := by
  have m := h.pM
  have hf := h.pF.1
  have l := h.pL
  refine ⟨by rw [m.1]; exact m.2.1, fun w hw => ?_⟩
  rw [m.1] at hw
  obtain ⟨⟨a1, a2, a3⟩, b, ⟨c1, c2, c3⟩, e, f, ⟨g1, g2, g3⟩, i, ⟨j1, j2⟩, k1, k2⟩ := m.2.2 w hw
  have hh := h.pH (I 3 w 2).toNat (by omega)
  have hl := l.2.2.2.2.1 w hw
  refine ⟨⟨by omega, ?_, ?_⟩, by omega, R31.c (by rw [j1]; exact j2.d), R31.c (by rw [k1]; exact k2.d), hl.1.1⟩
  · rw [a1]
    exact hh.2.2.1
  · rw [a1]
    exact hh.2.2.2
theorem Rel.vw (h : Rel I t) {i : Nat} (hi : (i : Int) < I 11 0 13) : rwOk I (6 + i) ∧ msOk I i ∧ msw I i = rv I (6 + i) := by
  have a := (h.pV.2.2 i hi).2.2.2.2.2.2.2.2.1
  have b := a.B h.pF.1.2
  have e : msw I i = rv I (6 + i) := a.rv
  refine ⟨⟨a.2.1.2, b⟩, ⟨by rw [a.1]; exact a.2.1, ?_⟩, e⟩
  rw [e]
  exact b
theorem Rel.sv (h : Rel I t) : svOk I := ⟨h.pV.2.1, fun i hi => by
  have a := h.pV.2.2 i hi
  exact ⟨a.1.2, (h.vw hi).1, a.2.2.2.2.2.1.2⟩⟩
theorem Rel.msv (h : Rel I t) : msvOk I := by
  have hv := h.pV
  refine ⟨by rw [hv.1]; exact hv.2.1, fun i hi => ?_⟩
  rw [hv.1] at hi
  obtain ⟨⟨a1, a2, a3⟩, b, c, e97, e98, ⟨f1, f2, f3⟩, g, k, r, p⟩ := hv.2.2 i hi
  obtain ⟨x, y, z⟩ := h.vw hi
  refine ⟨by rw [a1, h.pM.1]; exact ⟨a2, a3⟩, y, by rw [f1]; exact ⟨f2, f3⟩, ?_⟩
  rw [e97, z]
  exact p
theorem Rel.ow (h : Rel I t) {i : Nat} (hi : (i : Int) < I 11 0 14) : rwOk I (106 + i) ∧ ((0 ≤ I 113 0 i ∧ I 113 0 i ≤ 9) ∧ rvB (mww I i)) ∧ mww I i = rv I (106 + i) := by
  have a := (h.pO.2.2 i hi).2.2.2.2.2.1
  have b := a.B h.pF.1.2
  have e : mww I i = rv I (106 + i) := a.rv
  refine ⟨⟨a.2.1.2, b⟩, ⟨by rw [a.1]; exact a.2.1, ?_⟩, e⟩
  rw [e]
  exact b
theorem Rel.lk (h : Rel I t) : lkOk I t := by
  have ho := h.pO
  have hf := h.pF.1
  refine ⟨h.fc, h.k, h.ty, h.rs, ho.2.1, fun i hi => ?_⟩
  obtain ⟨⟨a1, a2, a3⟩, b, ⟨c1, c2, c3⟩, e, ⟨f1, f2, f3⟩, r, s⟩ := ho.2.2 i hi
  have hh := h.pH (I 3 (20 + i) 2).toNat (by omega)
  exact ⟨⟨⟨a2, a3⟩, hh.2.1, by rw [hh.1]; exact hh.2.2.2⟩, ⟨c2, by omega⟩, (h.ow hi).1, f2, f3⟩
theorem Rel.ys (h : Rel I t) : ysOk I t := fun k hk => (h.pW k hk).2.2.2.2
theorem Rel.ml (h : Rel I t) : mlOk I := by
  have ho := h.pO
  have hf := h.pF.1
  refine ⟨h.fm, h.km, h.tm, h.rm, ⟨by rw [ho.1]; exact ho.2.1, fun i hi => ?_⟩, fun y hy => ?_⟩
  · rw [ho.1] at hi
    obtain ⟨⟨a1, a2, a3⟩, b, ⟨c1, c2, c3⟩, e, ⟨f1, f2, f3⟩, r, s⟩ := ho.2.2 i hi
    have hh := h.pH (I 3 (20 + i) 2).toNat (by omega)
    refine ⟨⟨by omega, by rw [a1]; exact hh.2.2.1, by rw [a1]; exact hh.2.2.2⟩, by omega, (h.ow hi).2.1, by omega⟩
  · obtain ⟨a, b, c, e, w⟩ := h.pW y hy
    unfold myOk
    rw [c, e]
    exact w
theorem dyN_s (k : Nat → Int) (l : Nat) : dyN k (l + 1) = if k l = 0 then dyN k l + 1 else dyN k l := by
  show fo _ 0 (l + 1) 0 = _
  rw [fo_e, Nat.zero_add]
  rfl
theorem ddN_s (k : Nat → Int) (l : Nat) : ddN k (l + 1) = if k l = 0 then ddN k l else ddN k l + 1 := by
  show fo _ 0 (l + 1) 0 = _
  rw [fo_e, Nat.zero_add]
  rfl
theorem dN_all (k : Nat → Int) : ∀ l : Nat, 0 ≤ dyN k l ∧ 0 ≤ ddN k l ∧ dyN k l + ddN k l = l
  | 0 => ⟨Int.le_refl _, Int.le_refl _, rfl⟩
  | l + 1 => by
    have := dN_all k l
    rw [dyN_s, ddN_s]
    split <;> omega
theorem dN_mono (k : Nat → Int) (l : Nat) : ∀ m : Nat, dyN k l ≤ dyN k (l + m) ∧ ddN k l ≤ ddN k (l + m)
  | 0 => ⟨Int.le_refl _, Int.le_refl _⟩
  | m + 1 => by
    have := dN_mono k l m
    rw [show l + (m + 1) = (l + m) + 1 by omega, dyN_s, ddN_s]
    split <;> omega
theorem dd_ex (k : Nat → Int) : ∀ (n x : Nat), (x : Int) < ddN k n → ∃ l, l < n ∧ k l ≠ 0 ∧ ddN k l = x
  | 0, x, h => absurd h (by show ¬ (x : Int) < 0; omega)
  | n + 1, x, h => by
    rw [ddN_s] at h
    by_cases c : k n = 0
    · rw [if_pos c] at h
      obtain ⟨l, a, b, e⟩ := dd_ex k n x h
      exact ⟨l, by omega, b, e⟩
    · rw [if_neg c] at h
      by_cases q : ddN k n = x
      · exact ⟨n, by omega, c, q⟩
      · obtain ⟨l, a, b, e⟩ := dd_ex k n x (by omega)
        exact ⟨l, by omega, b, e⟩
theorem cnt_mk (g : Nat → Int) : ∀ (n : Nat), (0 : Int) ≤ fo (fun f (a : Int) => if g f = -1 then a else a + 1) 0 n 0 ∧ fo (fun f (a : Int) => if g f = -1 then a else a + 1) 0 n 0 ≤ (n : Int)
  | 0 => ⟨Int.le_refl _, Int.le_refl _⟩
  | n + 1 => by
    have := cnt_mk g n
    rw [fo_e]
    split <;> omega
theorem Rel.made (h : Rel I t) : 0 ≤ I 11 0 11 ∧ I 11 0 11 ≤ I 11 0 10 := by
  have c : I 11 0 11 = _ := h.pC
  have := cnt_mk (fun f => I 1 f 2) (I 11 0 10).toNat
  have := h.pF.1
  rw [c]
  omega
theorem Rel.ds (h : Rel I t) : dsOk I := by
  have l := h.pL
  have hm := h.made
  have hf := h.pF.1
  have hv := h.pV.2.1
  have hn := h.pN.2
  have l2 := l.2.2.1
  have l1 := l.1
  refine ⟨by omega, fun k hk => ?_⟩
  obtain ⟨j, a, b, e⟩ := dd_ex (I 90 0) (I 12 0 72).toNat k (by omega)
  have hj := l.2.2.2.1 j (by omega)
  have hd := (dN_all (I 90 0) j).1
  have hd2 := (dN_mono (I 90 0) j ((I 12 0 72).toNat - j)).1
  rw [show j + ((I 12 0 72).toNat - j) = (I 12 0 72).toNat by omega] at hd2
  have hnow := l.2.1
  unfold rli at hj
  rw [e, Int.toNat_natCast] at hj
  rcases hj with q | ⟨q1, q2, q3, q4, q5⟩ | ⟨q1, q2, q3, q4, q5⟩
  · exact absurd q b
  · omega
  · omega
theorem Rel.mlg (h : Rel I t) : mlgOk I := by
  have l := h.pL
  have hf := h.pF.1
  have hv := h.pV
  have hv1 := hv.1
  refine ⟨l.1, fun j hj => ?_⟩
  have hj := l.2.2.2.1 j hj
  unfold mleOk
  rcases hj with q | ⟨q1, q2, q3⟩ | ⟨q1, q2, q3⟩ <;> omega
theorem Rel.mls (h : Rel I t) : mlsOk I := by
  have l := h.pL
  unfold mlsOk
  rw [h.pV.1]
  exact l.2.2.2.2.2
theorem Rel.rp (h : Rel I t) : rpOk I t := ⟨h.fc, h.fn, h.mn, h.sv, h.ds⟩
theorem Rel.mrp (h : Rel I t) : mrpOk I := ⟨h.fm, h.mm, h.msv, h.mlg, h.mls⟩
end REL
