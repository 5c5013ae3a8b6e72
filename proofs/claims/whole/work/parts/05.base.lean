/-! what a place of the small machine is in the heap -/
abbrev GG : Type := Nat × (Nat → ClassId) × (Nat → Nat → Nat) × (Nat → ClassId) × (Nat → Nat) × (Nat → Nat) × Nat × Nat × (Nat → Int32)
def gB (G : GG) : Nat := G.1
def gC (G : GG) : Nat → ClassId := G.2.1
def gI (G : GG) : Nat → Nat → Nat := G.2.2.1
def gA (G : GG) : Nat → ClassId := G.2.2.2.1
def gT (G : GG) : Nat → Nat := G.2.2.2.2.1
def gR (G : GG) : Nat → Nat := G.2.2.2.2.2.1
def gS (G : GG) : Nat := G.2.2.2.2.2.2.1
def gL (G : GG) : Nat := G.2.2.2.2.2.2.2.1
def gX (G : GG) : Nat → Int32 := G.2.2.2.2.2.2.2.2
def mn (p : MR) : Nat := if p.1 = 999 then p.2 else (mnT.getD p.1 []).getD p.2 5000
set_option maxRecDepth 100000 in
theorem mn_all : nmT.zipIdx.all (fun q => mn q.1 == q.2 && !isS q.1.1) = true := by decide +kernel
theorem mn_at {j : Nat} (h : j < nmT.length) : mn (nm j) = j ∧ isS (nm j).1 = false := by
  have h1 := List.all_eq_true.mp mn_all (nmT[j], j) (List.mem_zipIdx_iff_getElem?.mpr (List.getElem?_eq_getElem h))
  have e : nm j = nmT[j] := by
    unfold nm
    rw [List.getD_eq_getElem?_getD, List.getElem?_eq_getElem h]
    rfl
  rw [e]
  simpa using h1
set_option maxRecDepth 100000 in
theorem nm_len : nmT.length = 1021 := by decide +kernel
theorem nm_hi {j : Nat} (h : 1021 ≤ j) : nm j = (999, j) := by
  unfold nm
  rw [List.getD_eq_getElem?_getD, List.getElem?_eq_none]
  · rfl
  · rw [nm_len]; exact h
theorem mn_nm (j : Nat) : mn (nm j) = j := by
  rcases Nat.lt_or_ge j 1021 with h | h
  · exact (mn_at (by rw [nm_len]; exact h)).1
  · rw [nm_hi h]; rfl
theorem isS_nm (j : Nat) : isS (nm j).1 = false := by
  rcases Nat.lt_or_ge j 1021 with h | h
  · exact (mn_at (by rw [nm_len]; exact h)).2
  · rw [nm_hi h]; rfl
theorem nm_inj {i j : Nat} (h : nm i = nm j) : i = j := by rw [← mn_nm i, h, mn_nm]
def adr (G : GG) (p : MR) : Nat := if p.1 = rSTR then gT G p.2 else if p.1 = rROM then gR G p.2 else if p.1 = rSCR then gS G else gB G + mn p
theorem isS_f {r : Nat} (h : isS r = false) : ¬ r = rSTR ∧ ¬ r = rROM ∧ ¬ r = rSCR := by
  simp only [isS, Bool.or_eq_false_iff, beq_eq_false_iff_ne] at h
  exact ⟨h.1.2, h.1.1, h.2⟩
theorem adr_dyn {G : GG} {p : MR} (h : isS p.1 = false) : adr G p = gB G + mn p := by
  obtain ⟨h1, h2, h3⟩ := isS_f h
  unfold adr
  rw [if_neg h1, if_neg h2, if_neg h3]
theorem adr_nm (G : GG) (j : Nat) : adr G (nm j) = gB G + j := by rw [adr_dyn (isS_nm j), mn_nm]
/-- a value of the small machine in the machine -/
def tv (G : GG) : MV → Value
  | .inl x => .int (Int32.ofInt x)
  | .inr (.inl x) => .long (Int64.ofInt x)
  | .inr (.inr (.inl (some p))) => .ref (adr G p)
  | _ => .null
def vld (G : GG) (k : Nat) (p : MR) : Prop := (∃ j, j < k ∧ nm j = p) ∨ (p.1 = rSTR ∧ p.2 < 24) ∨ (p.1 = rROM ∧ p.2 < 3) ∨ p = (rSCR, gL G)
theorem vld.mono {G : GG} {k k' : Nat} {p : MR} (h : vld G k p) (hk : k ≤ k') : vld G k' p := by
  rcases h with ⟨j, h1, h2⟩ | h
  · exact Or.inl ⟨j, Nat.lt_of_lt_of_le h1 hk, h2⟩
  · exact Or.inr h
theorem vld.dyn {G : GG} {k : Nat} {p : MR} (h : vld G k p) (hs : isS p.1 = false) : mn p < k ∧ nm (mn p) = p := by
  obtain ⟨h1, h2, h3⟩ := isS_f hs
  rcases h with ⟨j, hj, e⟩ | h | h | h
  · subst e
    rw [mn_nm]
    exact ⟨hj, rfl⟩
  · exact absurd h.1 h1
  · exact absurd h.1 h2
  · exact absurd (by rw [h]) h3
def okv (G : GG) (k : Nat) : MV → Prop
  | .inl x => w32 x = x
  | .inr (.inl x) => w64 x = x
  | .inr (.inr (.inl (some p))) => vld G k p
  | .inr (.inr (.inl none)) => True
  | .inr (.inr (.inr _)) => False
theorem okv.mono {G : GG} {k k' : Nat} {v : MV} (h : okv G k v) (hk : k ≤ k') : okv G k' v := by
  match v, h with
  | .inl x, h => exact h
  | .inr (.inl x), h => exact h
  | .inr (.inr (.inl (some p))), h => exact vld.mono h hk
  | .inr (.inr (.inl none)), h => exact h
  | .inr (.inr (.inr _)), h => exact h
-- numbers
theorem w32_i (x : Int) : Int32.ofInt (w32 x) = Int32.ofInt x := Int32.ofInt_toInt _
theorem w64_i (x : Int) : Int64.ofInt (w64 x) = Int64.ofInt x := Int64.ofInt_toInt _
theorem w32_w (x : Int) : w32 (w32 x) = w32 x := by unfold w32; rw [Int32.ofInt_toInt]
theorem w64_w (x : Int) : w64 (w64 x) = w64 x := by unfold w64; rw [Int64.ofInt_toInt]
theorem w32_t (x : Int32) : w32 x.toInt = x.toInt := by unfold w32; rw [Int32.ofInt_toInt]
theorem w64_t (x : Int64) : w64 x.toInt = x.toInt := by unfold w64; rw [Int64.ofInt_toInt]
theorem w32_eq (x : Int) : w32 x = x.bmod 4294967296 := by unfold w32; rw [Int32.toInt_ofInt]
theorem w64_eq (x : Int) : w64 x = x.bmod 18446744073709551616 := by unfold w64; rw [Int64.toInt_ofInt]
theorem w32_id {x : Int} (h1 : -2147483648 ≤ x) (h2 : x ≤ 2147483647) : w32 x = x := by
  rw [w32_eq]
  exact Int.bmod_eq_of_le (by omega) (by omega)
theorem w64_id {x : Int} (h1 : -9223372036854775808 ≤ x) (h2 : x ≤ 9223372036854775807) : w64 x = x := by
  rw [w64_eq]
  exact Int.bmod_eq_of_le (by omega) (by omega)
theorem w32_le (x : Int) : -2147483648 ≤ w32 x ∧ w32 x ≤ 2147483647 := by
  rw [w32_eq]
  have h1 := Int.le_bmod (x := x) (m := 4294967296) (by decide)
  have h2 := Int.bmod_lt (x := x) (m := 4294967296) (by decide)
  omega
theorem cn_eq {a b : Int} (ha : w32 a = a) (hb : w32 b = b) : Int32.ofInt a = Int32.ofInt b ↔ a = b := by
  rw [← Int32.toInt_inj]
  show w32 a = w32 b ↔ _
  rw [ha, hb]
theorem cn_lt {a b : Int} (ha : w32 a = a) (hb : w32 b = b) : Int32.ofInt a < Int32.ofInt b ↔ a < b := by
  rw [Int32.lt_iff_toInt_lt]
  show w32 a < w32 b ↔ _
  rw [ha, hb]
theorem cn_le {a b : Int} (ha : w32 a = a) (hb : w32 b = b) : Int32.ofInt a ≤ Int32.ofInt b ↔ a ≤ b := by
  rw [Int32.le_iff_toInt_le]
  show w32 a ≤ w32 b ↔ _
  rw [ha, hb]
theorem cn_leq {a b : Int} (ha : w64 a = a) (hb : w64 b = b) : Int64.ofInt a = Int64.ofInt b ↔ a = b := by
  rw [← Int64.toInt_inj]
  show w64 a = w64 b ↔ _
  rw [ha, hb]
theorem cn_llt {a b : Int} (ha : w64 a = a) (hb : w64 b = b) : Int64.ofInt a < Int64.ofInt b ↔ a < b := by
  rw [Int64.lt_iff_toInt_lt]
  show w64 a < w64 b ↔ _
  rw [ha, hb]
theorem cn_nat {a : Int} (ha : w32 a = a) : (Int32.ofInt a).toNatClampNeg = a.toNat := by
  show (Int32.ofInt a).toInt.toNat = a.toNat
  rw [show (Int32.ofInt a).toInt = a from ha]
theorem cn_0 : w32 0 = 0 := by decide +kernel
theorem cn_in {a : Int} {n : Nat} (ha : w32 a = a) (h0 : 0 ≤ a) (h1 : a < n) : ¬ (Int32.ofInt a < 0 ∨ n ≤ (Int32.ofInt a).toNatClampNeg) := by
  rw [cn_nat ha]
  intro h
  rcases h with h | h
  · have := (cn_lt ha cn_0).mp h
    omega
  · omega
-- what the words of the tables say
def TT : List Cond := lw_tbl.filter goodWord
def wsy (y : Nat) : List Cond := Cond.code (ymT.getD y ⟨"", "", ""⟩) (cod y) (mxl y) (rty y) :: TT
def ymn (y : Nat) : MethodName := ymT.getD y ⟨"", "", ""⟩
def onm (o : Nat) : String := ownN.getD o ""
theorem tb_in {w : Cond} (h : w ∈ tables_1) : w ∈ lw_tbl := List.mem_append_right _ h
theorem tt_in {w : Cond} (h : w ∈ lw_tbl) (hg : goodWord w = true) : w ∈ TT := List.mem_filter.mpr ⟨h, hg⟩
theorem lkp_mem {α : Type} : ∀ {l : List (Nat × α)} {k : Nat} {v : α}, lkp l k = some v → (k, v) ∈ l
  | [], _, _, h => by cases h
  | (a, w) :: r, k, v, h => by
    unfold lkp at h
    split at h
    · next e =>
      cases h
      subst e
      exact List.mem_cons_self
    · exact List.mem_cons_of_mem _ (lkp_mem h)
def at? (i : Nat) : Option Cond := tables_1[i]?
theorem at_in {i : Nat} {w : Cond} (h : at? i = some w) : w ∈ tables_1 := List.mem_of_getElem? h
/-- an entry of a list of lists, by the place of the list -/
theorem byo {α : Type} {T : List (List (Nat × α))} {f : Nat → Nat × α → Bool} (h : (List.range T.length).all (fun o => (T.getD o []).all (f o)) = true) {o ix : Nat} {v : α} (e : lkp (T.getD o []) ix = some v) : f o (ix, v) = true := by
  by_cases ho : o < T.length
  · exact List.all_eq_true.mp (List.all_eq_true.mp h o (List.mem_range.mpr ho)) _ (lkp_mem e)
  · rw [List.getD_eq_getElem?_getD, List.getElem?_eq_none (Nat.not_lt.mp ho)] at e
    cases e
def cst (c : Nat) : String := match mcl[c]? with
  | some q => q.1
  | none => ""
def cT (c : Nat) : u_T := match mcl[c]? with
  | some q => q.2.1
  | none => fun _ => ("", "", "", false)
def cN (c : Nat) : Nat := match mcl[c]? with
  | some q => q.2.2
  | none => 0
def fldW (o : Nat) (e : Nat × Nat × Nat × Nat × Nat) : Bool :=
  decide (e.2.1 < 13) && decide (e.2.2.1 < cN e.2.1) && decide (at? e.2.2.2.2 = some (if e.2.2.2.1 = 0 then Cond.fieldLink (onm o) e.1 (cst e.2.1) (cT e.2.1 e.2.2.1).2.1 (cT e.2.1 e.2.2.1).2.2.1 else Cond.fieldLinkNest (onm o) e.1 (cst e.2.1) (cT e.2.1 e.2.2.1).2.1 (cT e.2.1 e.2.2.1).2.2.1 "FaceRows"))
set_option maxRecDepth 100000 in
theorem fld_all : (List.range fldT.length).all (fun o => (fldT.getD o []).all (fldW o)) = true := by decide +kernel
