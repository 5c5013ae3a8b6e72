/-! the making of the two objects: the table of references fills -/
def t0 (a : Nat) : Nat := if a < 5 then a else if a < 10 then a - 5 else a - 10
abbrev WT : Type := Nat → Nat → Nat → Bool
def TQ (W : WT) : PT := fun r i s => if W r i s = true then PP t0 r i s else none
def ws (W : WT) (r i s : Nat) : WT := fun a b c => (a == r && b == i && c == s) || W a b c
/-- a heap in the making -/
abbrev cn (I L : H3) (W : WT) (k : Nat) : MS := (I, L, TQ W, k)
def WL (W V : WT) : Prop := ∀ r i s, W r i s = true → V r i s = true
theorem WL.rf {W : WT} : WL W W := fun _ _ _ h => h
theorem WL.tr {U V W : WT} (a : WL U V) (b : WL V W) : WL U W := fun r i s h => b r i s (a r i s h)
theorem WL.ws {W V : WT} {r i s : Nat} (a : WL W V) : WL W (ws V r i s) := fun a' b c h => by
  show (_ || V a' b c) = true
  rw [a a' b c h, Bool.or_true]
theorem ws_e {W : WT} {r i s : Nat} : ws W r i s r i s = true := by simp [ws]
theorem ws_m {W : WT} {r i s a b c : Nat} (h : W a b c = true) : ws W r i s a b c = true := by simp [ws, h]
theorem TQ_ws {W : WT} {r i s : Nat} {p : MR} (h : PP t0 r i s = some p) : up3 (TQ W) r i s (some p) = TQ (ws W r i s) := by
  funext a b c
  unfold up3 TQ ws
  by_cases e : a = r ∧ b = i ∧ c = s
  · rw [if_pos e]
    obtain ⟨rfl, rfl, rfl⟩ := e
    rw [if_pos (by simp)]
    exact h.symm
  · rw [if_neg e]
    have : (a == r && b == i && c == s) = false := by
      simp only [Bool.and_eq_false_iff, beq_eq_false_iff_ne]
      omega
    rw [this, Bool.false_or]
section CON
variable {d y pc q q1 k k' : Nat} {ls ls1 st : List MV} {h : MS} {I L : H3} {P : PT} {W : WT} {a b x : Int} {off : Int}
theorem c_obj {ix o ne w : Nat} {p : MR} (hd : decode (cod y) pc = .ok (.invokespecial ix, 3)) (hq : pc + 3 = q) (ho : own y = o) (hm : mthR o ix = some (900, ne, w)) (hne : ne = 0) (hw : (st.map cw).sum ≤ 8) : Res (d + 1) y pc ls (va (some p) :: st) h = Res (d + 1) y q ls st h := by
  subst hq; subst ho
  refine res_step hd rfl ?_
  show (match mthR (own y) ix with | some (z, ne, _) => if z = 900 ∧ ne = 0 ∧ 0 < d + 1 then (if (st.map cw).sum ≤ 8 then nk (pc + 3) ls st h else none) else none | none => none) = _
  rw [hm]
  dsimp only
  rw [if_pos ⟨rfl, hne, by omega⟩, if_pos hw]
theorem c_init {ix o z ne w : Nat} {as rest : List MV} {h' : MS} (hd : decode (cod y) pc = .ok (.invokespecial ix, 3)) (hq : pc + 3 = q) (ho : own y = o) (hm : mthR o ix = some (z, ne, w)) (hz : z < 250) (hc : cllGo z ne 2 st = some (z, as, rest)) (hv : rcv z as = true) (hr : rty z = none) (hk : Cal d z as h = some (vx, h')) : Res (d + 1) y pc ls st h = Res (d + 1) y q ls rest h' := by
  rw [e_callI hd hq ho hm hz hc hv, hk]
  show Res (d + 1) y q ls (psh z vx rest) h' = _
  unfold psh
  rw [hr]
theorem c_stat {ix o z ne w : Nat} {as rest : List MV} {h' : MS} (hd : decode (cod y) pc = .ok (.invokestatic ix, 3)) (hq : pc + 3 = q) (ho : own y = o) (hm : mthR o ix = some (z, ne, w)) (hz : z < 250) (hc : cllGo z ne 0 st = some (z, as, rest)) (hv : rcv z as = true) (hr : rty z = none) (hk : Cal d z as h = some (vx, h')) : Res (d + 1) y pc ls st h = Res (d + 1) y q ls rest h' := by
  rw [e_callS hd hq ho hm hz hc hv, hk]
  show Res (d + 1) y q ls (psh z vx rest) h' = _
  unfold psh
  rw [hr]
theorem c_new {r i c ix o w : Nat} (hd : decode (cod y) pc = .ok (.new ix, 3)) (hq : pc + 3 = q) (ho : own y = o) (hc : clsR o ix = some (c, w)) (h13 : c < 13) (hn : nm k = (r, i)) (hs : sh r i = .inl c) (hk : k + 1 = k') : Res d y pc ls st (I, L, P, k) = Res d y q ls (vr r i :: st) (I, L, P, k') := by
  subst hq; subst ho; subst hk
  refine res_step hd rfl ?_
  show (match clsR (own y) ix with | some (c, _) => if c < 13 then newX (.inl c) (pc + 3) ls st (I, L, P, k) else none | none => none) = _
  rw [hc]
  dsimp only
  rw [if_pos h13]
  unfold newX
  dsimp only
  rw [hn]
  rw [if_pos hs]
theorem c_narr {r i n e : Nat} {ar : Jvm.ClassFile.ArrayType} (hd : decode (cod y) pc = .ok (.newarray ar, 2)) (hq : pc + 2 = q) (ha : atk ar = e) (he : e < 8) (hn0 : n < 100000) (hx : x = ((n : Nat) : Int)) (hn : nm k = (r, i)) (hs : sh r i = .inr (e, n)) (hk : k + 1 = k') : Res d y pc ls (vi x :: st) (I, L, P, k) = Res d y q ls (vr r i :: st) (I, L, P, k') := by
  subst hq; subst ha; subst hk; subst hx
  refine res_step hd rfl ?_
  show (if 0 ≤ (n : Int) ∧ (n : Int) < 100000 ∧ atk ar < 8 then newX (.inr (atk ar, ((n : Nat) : Int).toNat)) (pc + 2) ls st (I, L, P, k) else none) = _
  rw [if_pos ⟨by omega, by omega, he⟩, Int.toNat_natCast]
  unfold newX
  dsimp only
  rw [hn]
  rw [if_pos hs]
theorem c_anew {r i n c ix o w : Nat} (hd : decode (cod y) pc = .ok (.anewarray ix, 3)) (hq : pc + 3 = q) (ho : own y = o) (hc : clsR o ix = some (c, w)) (h13 : c < 13) (hao : aoC c = true) (hn0 : n < 100000) (hx : x = ((n : Nat) : Int)) (hn : nm k = (r, i)) (hs : sh r i = .inr (10 + c, n)) (hk : k + 1 = k') : Res d y pc ls (vi x :: st) (I, L, P, k) = Res d y q ls (vr r i :: st) (I, L, P, k') := by
  subst hq; subst ho; subst hk; subst hx
  refine res_step hd rfl ?_
  unfold nxt
  dsimp only
  rw [hc]
  dsimp only
  rw [if_pos ⟨by omega, by omega, h13, hao⟩, Int.toNat_natCast]
  unfold newX
  dsimp only
  rw [hn]
  rw [if_pos hs]
theorem c_putP {ix o c s ne w r i : Nat} {p : MR} (hd : decode (cod y) pc = .ok (.putfield ix, 3)) (hq : pc + 3 = q) (ho : own y = o) (hf : fldR o ix = some (c, s, ne, w)) (hs : sh r i = .inl c) (hS : isS r = false) (hfin : knd y = 2 ∧ o = c ∧ ne = 0) (hk : ftk c s = 3) (hp : PP t0 r i s = some p) : Res d y pc ls (va (some p) :: vr r i :: st) (cn I L W k) = Res d y q ls st (cn I L (ws W r i s) k) := by
  subst hq; subst ho
  refine res_step hd rfl ?_
  show putX (own y) ix _ (knd y) ls (va (some p) :: vr r i :: st) (cn I L W k) = _
  unfold putX
  rw [hf]
  dsimp only
  rw [if_pos ⟨hs, hS, fun _ => hfin⟩, if_pos hk, TQ_ws hp]
theorem c_putI {ix o c s ne w r i : Nat} (hd : decode (cod y) pc = .ok (.putfield ix, 3)) (hq : pc + 3 = q) (ho : own y = o) (hf : fldR o ix = some (c, s, ne, w)) (hs : sh r i = .inl c) (hS : isS r = false) (hfin : knd y = 2 ∧ o = c ∧ ne = 0) (hk : ftk c s = 0) : Res d y pc ls (vi x :: vr r i :: st) (I, L, P, k) = Res d y q ls st (up3 I r i s x, L, P, k) := by
  subst hq; subst ho
  refine res_step hd rfl ?_
  show putX (own y) ix _ (knd y) ls (vi x :: vr r i :: st) (I, L, P, k) = _
  unfold putX
  rw [hf]
  dsimp only
  rw [if_pos ⟨hs, hS, fun _ => hfin⟩, if_pos (Or.inl hk)]
theorem c_getP {ix o c s ne w r i : Nat} {p : MR} (hd : decode (cod y) pc = .ok (.getfield ix, 3)) (hq : pc + 3 = q) (ho : own y = o) (hf : fldR o ix = some (c, s, ne, w)) (hs : sh r i = .inl c) (hk : ftk c s = 3) (hW : W r i s = true) (hp : PP t0 r i s = some p) : Res d y pc ls (vr r i :: st) (cn I L W k) = Res d y q ls (va (some p) :: st) (cn I L W k) := by
  subst hq; subst ho
  refine res_step hd rfl ?_
  show getX (own y) ix _ ls (vr r i :: st) (cn I L W k) = _
  unfold getX
  rw [hf]
  dsimp only
  rw [if_pos hs]
  unfold rdk
  rw [hk, if_neg (by decide), if_neg (by decide)]
  show nk _ ls (va (TQ W r i s) :: st) _ = _
  unfold TQ
  rw [if_pos hW, hp]
theorem c_aast {r i r' i' s n : Nat} (hd : decode (cod y) pc = .ok (.aastore, 1)) (hq : pc + 1 = q) (he : 10 ≤ aek r i ∧ aek r i < 23) (hs : sh r' i' = .inl (aek r i - 10)) (hn : (alen (aek r i) r i : Int) = (n : Int)) (hS : isS r = false) (hS' : isS r' = false) (g : s < n) (hp : PP t0 r i s = some (r', i')) : Res d y pc ls (vr r' i' :: vi (s : Int) :: vr r i :: st) (cn I L W k) = Res d y q ls st (cn I L (ws W r i s) k) := by
  subst hq
  refine res_step hd rfl ?_
  show astX 10 _ ls (vr r' i' :: vi (s : Int) :: vr r i :: st) (cn I L W k) = _
  unfold astX
  dsimp only
  rw [if_pos ⟨rfl, he.1, he.2, hs, by omega, by omega, hS, hS'⟩, Int.toNat_natCast]
  show nk _ ls st (I, L, up3 (TQ W) r i s (some (r', i')), k) = _
  rw [TQ_ws hp]
theorem c_aald {r i s n : Nat} {p : MR} (hd : decode (cod y) pc = .ok (.aaload, 1)) (hq : pc + 1 = q) (he : 9 ≤ aek r i ∧ aek r i < 23) (hn : (alen (aek r i) r i : Int) = (n : Int)) (g : s < n) (hW : W r i s = true) (hp : PP t0 r i s = some p) : Res d y pc ls (vi (s : Int) :: vr r i :: st) (cn I L W k) = Res d y q ls (va (some p) :: st) (cn I L W k) := by
  subst hq
  refine res_step hd rfl ?_
  show aaldX _ ls (vi (s : Int) :: vr r i :: st) (cn I L W k) = _
  unfold aaldX
  dsimp only
  rw [if_pos ⟨he.1, he.2, by omega, by omega⟩, Int.toNat_natCast]
  show nk _ ls (va (TQ W r i s) :: st) _ = _
  unfold TQ
  rw [if_pos hW, hp]
theorem c_iast {r i : Nat} {n : Int} (hd : decode (cod y) pc = .ok (.iastore, 1)) (hq : pc + 1 = q) (hn : alen 0 r i = n) (hS : isS r = false) (g : 0 ≤ a ∧ a < n) : Res d y pc ls (vi x :: vi a :: vr r i :: st) (I, L, P, k) = Res d y q ls st (up3 I r i a.toNat x, L, P, k) := by
  subst hq; subst hn
  refine res_step hd rfl ?_
  show astX 0 _ ls (vi x :: vi a :: vr r i :: st) (I, L, P, k) = _
  unfold astX
  dsimp only
  rw [if_pos ⟨Or.inl rfl, g.1, g.2, hS⟩]
theorem c_icge (hd : decode (cod y) pc = .ok (.if_icmp .ge off, 3)) (hq : pc + 3 = q) (ht : (pc : Int) + off = (q1 : Nat)) (g : ¬ b ≤ a) : Res d y pc ls (vi b :: vi a :: st) h = Res d y q ls st h :=
  (e_icge hd hq ht).trans (if_neg g)
theorem c_icge' (hd : decode (cod y) pc = .ok (.if_icmp .ge off, 3)) (hq : pc + 3 = q) (ht : (pc : Int) + off = (q1 : Nat)) (g : b ≤ a) : Res d y pc ls (vi b :: vi a :: st) h = Res d y q1 ls st h :=
  (e_icge hd hq ht).trans (if_pos g)
end CON
section FILLG
variable {d r i n k0 : Nat} {I L : H3} {P : PT} {x : Int}
theorem l249g (hS : isS r = false) (hn : (alen 0 r i : Int) = (n : Int)) (hb : n < 1000000) : ∀ (m k : Nat), k + m = n → Res d 249 5 [vr r i, vi x, vi (k : Int), vi (n : Int)] [] (sr I r i k (fun _ => x), L, P, k0) = some (vx, (sr I r i n (fun _ => x), L, P, k0))
  | 0, k, hk => by
    have hk' : k = n := by omega
    subst hk'
    refine Eq.trans (e_iload_n D249_5 rfl rfl) <| Eq.trans (e_iload_n D249_6 rfl rfl) <| Eq.trans (c_icge' (q1 := 20) D249_7 rfl rfl (Int.le_refl _)) (e_vret D249_20 rfl)
  | m + 1, k, hk => by
    refine Eq.trans (e_iload_n D249_5 rfl rfl) <| Eq.trans (e_iload_n D249_6 rfl rfl) <| Eq.trans (c_icge (q1 := 20) D249_7 rfl rfl (by omega)) ?_
    refine Eq.trans (e_aload_n D249_10 rfl rfl) <| Eq.trans (e_iload_n D249_11 rfl rfl) <| Eq.trans (e_iload_n D249_12 rfl rfl) <| Eq.trans (c_iast (n := n) D249_13 rfl hn hS (by omega)) <| Eq.trans (e_iinc (ls1 := [vr r i, vi x, vi (w32 ((k : Int) + 1)), vi (n : Int)]) D249_14 rfl rfl rfl) <| Eq.trans (e_goto (q1 := 5) D249_17 rfl) ?_
    rw [lem_w32k (by omega)]
    have e : up3 (sr I r i k (fun _ => x)) r i ((k : Int).toNat) x = sr I r i (k + 1) (fun _ => x) := sr_s (f := fun _ => x)
    rw [e]
    exact l249g hS hn hb m (k + 1) (by omega)
theorem s249g (ha : aek r i = 0) (hS : isS r = false) (hn : alen 0 r i = n) (hp : 0 < n) (hb : n < 1000000) : Cal d 249 [vr r i, vi x] (I, L, P, k0) = some (vx, (sr I r i n (fun _ => x), L, P, k0)) := by
  show Res d 249 0 [vr r i, vi x, vx, vx] [] (I, L, P, k0) = _
  refine Eq.trans (e_iconst (x := 0) D249_0 rfl rfl) <| Eq.trans (e_istore_n (ls1 := [vr r i, vi x, vi 0, vx]) D249_1 rfl (show 2 < 4 by decide) rfl) <| Eq.trans (e_aload_n D249_2 rfl rfl) <| Eq.trans (e_alen (n := n) D249_3 rfl ha hS hn hp) <| Eq.trans (e_istore_n (ls1 := [vr r i, vi x, vi 0, vi n]) D249_4 rfl (show 3 < 4 by decide) rfl) ?_
  have := l249g (I := I) (L := L) (P := P) (k0 := k0) (x := x) (d := d) hS (by rw [hn]) hb n 0 (by omega)
  rw [sr_0] at this
  exact this
end FILLG
