/-! one step of the small machine is a step of the machine: what makes cells, copies, numbers -/
/-- of each class: the places of instantiable, initialized, arrayOver -/
def clW : List (Nat × Nat × Nat) := [(207, 7, 9999), (263, 9, 31), (120, 5, 96), (213, 8, 201), (332, 11, 35), (100, 4, 9999), (347, 12, 203), (43, 3, 9999), (37, 2, 9999), (148, 6, 98), (383, 13, 205), (23, 1, 9999), (1105, 14, 9999)]
set_option maxRecDepth 100000 in
theorem clW_all : (List.range 13).all (fun ci => decide (at? (clW.getD ci (0, 0, 0)).1 = some (Cond.instantiable (cst ci) (cN ci))) && decide (at? (clW.getD ci (0, 0, 0)).2.1 = some (Cond.initialized (cst ci)))) = true := by decide +kernel
set_option maxRecDepth 100000 in
theorem aoW_all : (List.range 13).all (fun ci => decide ((clW.getD ci (0, 0, 0)).2.2 = 9999) || decide (at? (clW.getD ci (0, 0, 0)).2.2 = some (Cond.arrayOver (.object (cst ci))))) = true := by decide +kernel
theorem aoC2 : ∀ ci, ci < 13 → (clW.getD ci (0, 0, 0)).2.2 ≠ 9999 → aoC ci = true := by decide +kernel
set_option maxRecDepth 100000 in
theorem acW_all : at? 94 = some (Cond.arrayClass .int) ∧ at? 261 = some (Cond.arrayClass .long) ∧ at? 1393 = some (Cond.arrayClass .boolean) ∧ at? 33 = some (Cond.arrayOver (.array .int)) := by decide +kernel
set_option maxRecDepth 100000 in
theorem arW_all : at? 485 = some (Cond.native arraycopyName) ∧ at? 484 = some (Cond.static arraycopyName) ∧ at? 15 = some (Cond.initialized "java/lang/System") ∧ at? 20 = some (Cond.initialized "java/lang/Math") := by decide +kernel
theorem vr_outer (c : ClassId) (N h0 : Nat) : ∀ i : Nat, Jvm.Free.Multi.outerC c N h0 i = arrV c N (fun j => va_rf (if j < i then some (h0 + 1 + j) else none))
  | 0 => by
    show ({ cls := c, slots := Array.replicate N .null, vm := .none } : Cell) = _
    rw [arrV_new]
    refine congrArg (arrV c N) (funext fun j => ?_)
    simp [va_rf]
  | i + 1 => by
    show (Jvm.Free.Multi.outerC c N h0 i).setSlot i (.ref (h0 + 1 + i)) = _
    rw [vr_outer c N h0 i, arrV_store]
    refine congrArg (arrV c N) (funext fun j => ?_)
    by_cases e : j = i
    · subst e
      simp [updV, va_rf]
    · by_cases h : j < i
      · simp [updV, e, h, Nat.lt_succ_of_lt h]
      · simp [updV, e, h, show ¬ j < i + 1 by omega]
theorem Rp.push {G : GG} {h : MS} {H H' : Heap} (R : Rp G h H) (hz : H'.size = H.size + 1) (ho : ∀ q : Nat, q < H.size → H'[q]? = H[q]?) (hn : cell1 G h (nm h.2.2.2) (gB G + h.2.2.2) H') : Rp G (h.1, h.2.1, h.2.2.1, h.2.2.2 + 1) H' := ⟨R.1.push hz ho hn, R.2⟩
section S4S
variable {p : Program} {l : Launch} {e : Env} {R : Room} {s : State} {m : MethodId} {args : Array Value} {below : List Frame} {meth : Method} {c : Code} {H : Heap} {locs : List Loc} {cells slots : Nat} {Q : State → Prop}
variable {G : GG} {y d pc q q' : Nat} {lsr : Array Slot} {ls ls' st st' rest : List MV} {h h' : MS}
theorem arrV_congr {c : ClassId} {N : Nat} {f g : Nat → Value} (h : ∀ k, k < N → f k = g k) : arrV c N f = arrV c N g := by
  unfold arrV
  congr 2
  funext j
  exact h j.val j.isLt
theorem zero_rdk {h : MS} {H : Heap} (hR : Rep G h H) {k : Nat} (hk : k < sz (nm h.2.2.2)) (t : Nat) : rdk h (nm h.2.2.2).1 (nm h.2.2.2).2 k t = if t ≤ 1 then vi 0 else if t = 2 then vl 0 else va none := by
  obtain ⟨z1, z2, z3⟩ := hR.2.2.1 h.2.2.2 (Nat.le_refl _) k
  unfold rdk
  rw [z1, z2, z3 hk]
/-- behind a new cell -/
theorem new_go {v : Nat ⊕ (Nat × Nat)} {u : List MV} (D : Dy G s y lsr ls u h H locs) (hu : ∀ w ∈ rest, okv G h.2.2.2 w) (hn : newX v q ls rest h = some (q', ls', st', h')) (K : Nx p l e R s m args below meth c cells slots Q G y h q' ls' st' h') (n : Nat) (hsz : sz (nm h.2.2.2) = n) (H' : Heap) (hz : H'.size = H.size + 1) (ho : ∀ q : Nat, q < H.size → H'[q]? = H[q]?)
    (hc : cell1 G h (nm h.2.2.2) H.size H') : W p l e R s m args below meth c H' locs (cells + 1) (slots + n) Q (F0 m q lsr (.ref H.size :: rest.map (tv G))) := by
  unfold newX at hn
  split at hn
  · obtain ⟨rfl, rfl, rfl, rfl⟩ := inj4 hn
    have hB : H.size = gB G + h.2.2.2 := D.1.1.1
    have hR := D.1.push hz ho (by rw [← hB]; exact hc)
    have := K lsr H' locs ⟨hR, ⟨Nat.le_trans D.2.1.1 (by omega), fun a h1 h2 => (ho a (Nat.lt_of_lt_of_le h1 D.2.1.1)).trans (D.2.1.2.1 a h1 h2), D.2.1.2.2⟩, D.2.2.1.mono (Nat.le_succ _), fun w hw => by
      rcases List.mem_cons.mp hw with rfl | hw
      · exact Or.inl ⟨h.2.2.2, Nat.lt_succ_self _, rfl⟩
      · exact (hu w hw).mono (Nat.le_succ _)⟩
    rw [show sl (h.2.2.2 + 1) - sl h.2.2.2 = n by rw [← hsz]; exact Nat.add_sub_cancel_left _ _, show h.2.2.2 + 1 - h.2.2.2 = 1 by omega] at this
    rw [hB, ← adr_nm G h.2.2.2]
    exact this
  · cases hn
theorem newX_sh {v : Nat ⊕ (Nat × Nat)} (hn : newX v q ls rest h = some (q', ls', st', h')) : sh (nm h.2.2.2).1 (nm h.2.2.2).2 = v ∧ h'.2.2.2 = h.2.2.2 + 1 := by
  unfold newX at hn
  split at hn
  · next e =>
    obtain ⟨-, -, -, rfl⟩ := inj4 hn
    exact ⟨e, rfl⟩
  · cases hn
theorem s_new (C0 : Cx G p R s m args meth c y d) (D : Dy G s y lsr ls st h H locs) {ix ci ps : Nat} (hd : decode (cod y) pc = .ok (.new ix, 3)) (hcl : clsR (own y) ix = some (ci, ps)) (hci : ci < 13) (hn : newX (.inl ci) (pc + 3) ls st h = some (q', ls', st', h')) (hcs : cells + (h'.2.2.2 - h.2.2.2) ≤ R.cells) (hss : slots + (sl h'.2.2.2 - sl h.2.2.2) ≤ R.slots) (K : Nx p l e R s m args below meth c cells slots Q G y h q' ls' st' h') : W p l e R s m args below meth c H locs cells slots Q (F0 m pc lsr (st.map (tv G))) := by
  obtain ⟨hx, hb, hml, hown, hts, hin, hK, hfr, hlo, hO⟩ := C0
  obtain ⟨hsh, hk'⟩ := newX_sh hn
  have hsz : sz (nm h.2.2.2) = cN ci := by unfold sz; rw [hsh]
  rw [hk', show h.2.2.2 + 1 - h.2.2.2 = 1 by omega] at hcs
  rw [hk', show sl (h.2.2.2 + 1) - sl h.2.2.2 = cN ci by rw [← hsz]; exact Nat.add_sub_cancel_left _ _] at hss
  have hw := byo cls_all hcl
  simp only [clsW, decide_eq_true_eq] at hw
  rw [if_neg (by omega)] at hw
  have hci2 := List.all_eq_true.mp clW_all ci (List.mem_range.mpr hci)
  simp only [Bool.and_eq_true, decide_eq_true_eq] at hci2
  have hKn := hK.1 ci hci
  refine W.newcK hx hb hown (hts _ (tt_in (tb_in (at_in hw)) rfl)) (hts _ (tt_in (tb_in (at_in hci2.1)) rfl)) (hts _ (tt_in (tb_in (at_in hci2.2)) rfl)) rfl hd hcs hss hKn.2.1 rfl fun H1 kC hkC e1 z1 o1 => ?_
  refine new_go D D.2.2.2 hn K _ hsz H1 z1 o1 ?_
  unfold cell1
  rw [hsh]
  refine (u_born (cty ci) hts (lays_in hci) hKn hkC e1 (cty_ok ci hci)).to (fun k hk => ?_)
  show defaultValue (cty ci k) = tv G (rdk h (nm h.2.2.2).1 (nm h.2.2.2).2 k (ftk ci k))
  rw [zero_rdk D.1.1 (by rw [hsz]; exact hk)]
  rcases of_decide_eq_true (rg2 ftk_all hci hk) with ⟨a1, a2⟩ | ⟨a1, a2⟩ | ⟨a1, a2⟩
  · rw [a1, a2]; rfl
  · rw [a1, a2]; rfl
  · rw [a1]
    match hty : cty ci k, a2 with
    | .object _, _ => rfl
    | .array _, _ => rfl
theorem s_newa (C0 : Cx G p R s m args meth c y d) {a : Jvm.ClassFile.ArrayType} {n : Int} (D : Dy G s y lsr ls (.inl n :: rest) h H locs) (hd : decode (cod y) pc = .ok (.newarray a, 2)) (hg : 0 ≤ n ∧ n < 100000 ∧ atk a < 8) (hn : newX (.inr (atk a, n.toNat)) (pc + 2) ls rest h = some (q', ls', st', h')) (hcs : cells + (h'.2.2.2 - h.2.2.2) ≤ R.cells) (hss : slots + (sl h'.2.2.2 - sl h.2.2.2) ≤ R.slots) (K : Nx p l e R s m args below meth c cells slots Q G y h q' ls' st' h') : W p l e R s m args below meth c H locs cells slots Q (F0 m pc lsr ((.inl n :: rest).map (tv G))) := by
  obtain ⟨hx, hb, hml, hown, hts, hin, hK, hfr, hlo, hO⟩ := C0
  obtain ⟨hsh, hk'⟩ := newX_sh hn
  have hsz : sz (nm h.2.2.2) = n.toNat := by unfold sz; rw [hsh]
  rw [hk', show h.2.2.2 + 1 - h.2.2.2 = 1 by omega] at hcs
  rw [hk', show sl (h.2.2.2 + 1) - sl h.2.2.2 = n.toNat by rw [← hsz]; exact Nat.add_sub_cancel_left _ _] at hss
  have hcan : w32 n = n := okc D
  have hn0 : ¬ Int32.ofInt n < 0 := fun z => by have := (cn_lt hcan cn_0).mp z; omega
  have gen : ∀ ek : Nat, atk a = ek → okE ek → newarray.typeOf a = ety ek → (Cond.arrayClass (newarray.typeOf a)).before args s = true → n.toNat * componentBytes (newarray.typeOf a) ≤ 536870912 → defaultValue (ety ek) = tv G (if ekk ek ≤ 1 then vi 0 else if ekk ek = 2 then vl 0 else va none) → (∀ cA, va_RA s (gA G ek) (ety ek) → s.vm.findClass ("[" ++ (ety ek).toString) = some cA → cA = gA G ek) → W p l e R s m args below meth c H locs cells slots Q (F0 m pc lsr ((.inl n :: rest).map (tv G))) := by
    intro ek hek hok hty hac hby hdv hra
    refine va_newaK hx hb hac rfl hd rfl hn0 (cn_nat hcan) hby hcs hss rfl fun H1 cA e1 z1 o1 _ f1 => ?_
    refine new_go D (okt D) hn K _ hsz H1 z1 o1 ?_
    unfold cell1
    rw [hsh]
    show H1[H.size]? = some (arrV (gA G (atk a)) n.toNat _)
    rw [hek, e1]
    rw [hty] at f1
    rw [hra cA (hK.2.1 ek hok).2 f1]
    refine congrArg some (arrV_congr fun k hk => ?_)
    rw [zero_rdk D.1.1 (by rw [hsz]; exact hk), hty]
    exact hdv
  match a, hg, gen with
  | .int, hg, gen => exact gen 0 rfl (Or.inl rfl) rfl (hts _ (tt_in (tb_in (at_in acW_all.1)) rfl)) (by show n.toNat * 4 ≤ _; omega) rfl (fun cA h1 h2 => (Option.some.inj ((show s.vm.findClass ("[" ++ (ety 0).toString) = some (gA G 0) from h1).symm.trans h2)).symm)
  | .long, hg, gen => exact gen 1 rfl (Or.inr (Or.inl rfl)) rfl (hts _ (tt_in (tb_in (at_in acW_all.2.1)) rfl)) (by show n.toNat * 8 ≤ _; omega) rfl (fun cA h1 h2 => (Option.some.inj ((show s.vm.findClass ("[" ++ (ety 1).toString) = some (gA G 1) from h1).symm.trans h2)).symm)
  | .boolean, hg, gen => exact gen 2 rfl (Or.inr (Or.inr (Or.inl rfl))) rfl (hts _ (tt_in (tb_in (at_in acW_all.2.2.1)) rfl)) (by show n.toNat * 1 ≤ _; omega) rfl (fun cA h1 h2 => (Option.some.inj ((show s.vm.findClass ("[" ++ (ety 2).toString) = some (gA G 2) from h1).symm.trans h2)).symm)
  | .char, hg, _ => exact absurd hg.2.2 (by decide)
  | .float, hg, _ => exact absurd hg.2.2 (by decide)
  | .double, hg, _ => exact absurd hg.2.2 (by decide)
  | .byte, hg, _ => exact absurd hg.2.2 (by decide)
  | .short, hg, _ => exact absurd hg.2.2 (by decide)
theorem s_newq (C0 : Cx G p R s m args meth c y d) {ix ci ps : Nat} {n : Int} (D : Dy G s y lsr ls (.inl n :: rest) h H locs) (hd : decode (cod y) pc = .ok (.anewarray ix, 3)) (hcl : clsR (own y) ix = some (ci, ps)) (hg : 0 ≤ n ∧ n < 100000 ∧ ci < 13) (hn : newX (.inr (10 + ci, n.toNat)) (pc + 3) ls rest h = some (q', ls', st', h')) (hao : (clW.getD ci (0, 0, 0)).2.2 ≠ 9999) (hcs : cells + (h'.2.2.2 - h.2.2.2) ≤ R.cells) (hss : slots + (sl h'.2.2.2 - sl h.2.2.2) ≤ R.slots) (K : Nx p l e R s m args below meth c cells slots Q G y h q' ls' st' h') : W p l e R s m args below meth c H locs cells slots Q (F0 m pc lsr ((.inl n :: rest).map (tv G))) := by
  obtain ⟨hx, hb, hml, hown, hts, hin, hK, hfr, hlo, hO⟩ := C0
  obtain ⟨hsh, hk'⟩ := newX_sh hn
  have hsz : sz (nm h.2.2.2) = n.toNat := by unfold sz; rw [hsh]
  rw [hk', show h.2.2.2 + 1 - h.2.2.2 = 1 by omega] at hcs
  rw [hk', show sl (h.2.2.2 + 1) - sl h.2.2.2 = n.toNat by rw [← hsz]; exact Nat.add_sub_cancel_left _ _] at hss
  have hcan : w32 n = n := okc D
  have hn0 : ¬ Int32.ofInt n < 0 := fun z => by have := (cn_lt hcan cn_0).mp z; omega
  have hw := byo cls_all hcl
  simp only [clsW, decide_eq_true_eq] at hw
  rw [if_neg (by omega)] at hw
  have hov := List.all_eq_true.mp aoW_all ci (List.mem_range.mpr hg.2.2)
  simp only [Bool.or_eq_true, decide_eq_true_eq] at hov
  have hov2 := hov.resolve_left hao
  have ht : (Int32.ofInt n).toNatClampNeg = n.toNat := cn_nat hcan
  refine W.anew hx hb hown (hts _ (tt_in (tb_in (at_in hw)) rfl)) (va_AO.use (show va_AO (cst ci) s from hK.2.2.1 _ (at_in hov2) rfl)) rfl hd rfl hn0 (by rw [ht]; omega) hcs (by rw [ht]; exact hss) fun cA kA comp f1 f2 f3 f4 => ?_
  rw [ht]
  generalize hH1 : H.push ({ cls := cA, slots := Array.replicate n.toNat .null, vm := .none } : Cell) = H1
  have z1 : H1.size = H.size + 1 := by rw [← hH1, Array.size_push]
  have e1 : H1[H.size]? = some (arrV cA n.toNat (fun _ => .null)) := by rw [← hH1, Array.getElem?_push_size, ← arrV_new]
  have o1 : ∀ q : Nat, q < H.size → H1[q]? = H[q]? := fun q hq => by rw [← hH1, Array.getElem?_push, if_neg (Nat.ne_of_lt hq)]
  refine new_go D (okt D) hn K _ hsz H1 z1 o1 ?_
  unfold cell1
  rw [hsh]
  show H1[H.size]? = some (arrV (gA G (10 + ci)) n.toNat _)
  have hra := (hK.2.1 (10 + ci) (Or.inr (Or.inr (Or.inr ⟨by omega, by omega, by unfold eO; rw [show 10 + ci - 10 = ci by omega, aoC2 ci hg.2.2 hao, Bool.or_true]⟩)))).2
  rw [ety_obj] at hra
  obtain ⟨kB, comp2, -, -, -, k4⟩ := hra
  rw [← Option.some.inj (f1.symm.trans k4), e1]
  refine congrArg some (arrV_congr fun k hk => ?_)
  rw [zero_rdk D.1.1 (by rw [hsz]; exact hk), ekk_ref (by omega)]
  rfl
theorem s_multi (C0 : Cx G p R s m args meth c y d) {ix ps : Nat} (D : Dy G s y lsr ls (.inl 16 :: .inl 6 :: rest) h H locs) (hd : decode (cod y) pc = .ok (.multianewarray ix 2, 4)) (hcl : clsR (own y) ix = some (99, ps)) (hsi : ∀ j, j < 6 → sh (nm (h.2.2.2 + 1 + j)).1 (nm (h.2.2.2 + 1 + j)).2 = .inr (0, 16)) (hso : sh (nm h.2.2.2).1 (nm h.2.2.2).2 = .inr (9, 6))
    (hh : h' = (h.1, h.2.1, (fun a b s => if (a, b) = nm h.2.2.2 ∧ s < 6 then some (nm (h.2.2.2 + 1 + s)) else h.2.2.1 a b s), h.2.2.2 + 7)) (hcs : cells + (h'.2.2.2 - h.2.2.2) ≤ R.cells) (hss : slots + (sl h'.2.2.2 - sl h.2.2.2) ≤ R.slots) (K : Nx p l e R s m args below meth c cells slots Q G y h (pc + 4) ls (va (some (nm h.2.2.2)) :: rest) h') : W p l e R s m args below meth c H locs cells slots Q (F0 m pc lsr ((.inl 16 :: .inl 6 :: rest).map (tv G))) := by
  obtain ⟨hx, hb, hml, hown, hts, hin, hK, hfr, hlo, hO⟩ := C0
  have hk7 : h'.2.2.2 = h.2.2.2 + 7 := by rw [hh]
  have hsl : sl h'.2.2.2 - sl h.2.2.2 = 102 := by
    rw [hk7]
    show sl h.2.2.2 + sz (nm h.2.2.2) + sz (nm (h.2.2.2 + 1)) + sz (nm (h.2.2.2 + 2)) + sz (nm (h.2.2.2 + 3)) + sz (nm (h.2.2.2 + 4)) + sz (nm (h.2.2.2 + 5)) + sz (nm (h.2.2.2 + 6)) - sl h.2.2.2 = 102
    have a0 : sz (nm h.2.2.2) = 6 := by unfold sz; rw [hso]
    have a1 : sz (nm (h.2.2.2 + 1)) = 16 := by unfold sz; rw [hsi 0 (by omega)]
    have a2 : sz (nm (h.2.2.2 + 2)) = 16 := by unfold sz; rw [hsi 1 (by omega)]
    have a3 : sz (nm (h.2.2.2 + 3)) = 16 := by unfold sz; rw [hsi 2 (by omega)]
    have a4 : sz (nm (h.2.2.2 + 4)) = 16 := by unfold sz; rw [hsi 3 (by omega)]
    have a5 : sz (nm (h.2.2.2 + 5)) = 16 := by unfold sz; rw [hsi 4 (by omega)]
    have a6 : sz (nm (h.2.2.2 + 6)) = 16 := by unfold sz; rw [hsi 5 (by omega)]
    omega
  rw [hk7, show h.2.2.2 + 7 - h.2.2.2 = 7 by omega] at hcs
  rw [hsl] at hss
  have hw := byo cls_all hcl
  simp only [clsW, decide_eq_true_eq] at hw
  rw [if_pos trivial] at hw
  have e6 : Int32.ofInt 6 = 6 := by decide +kernel
  have e16 : Int32.ofInt 16 = 16 := by decide +kernel
  have n6 : (6 : Int32).toNatClampNeg = 6 := by decide +kernel
  have n16 : (16 : Int32).toNatClampNeg = 16 := by decide +kernel
  show W p l e R s m args below meth c H locs cells slots Q (F0 m pc lsr (.int (Int32.ofInt 16) :: .int (Int32.ofInt 6) :: rest.map (tv G)))
  rw [e6, e16]
  intro T hT Xs
  have hov : va_Nw (.arrayOver (.array .int)) s := hK.2.2.1 _ (at_in acW_all.2.2.2) rfl
  obtain ⟨vm₁, cA, comp, -, fA, fC, -, -, X', step⟩ := Xs.multianewarray2F hx hown (ty := .int) (hts _ (tt_in (tb_in (at_in hw)) rfl)) (show (Cond.arrayOver (.array .int)).before args s = true from hov) (hts _ (tt_in (tb_in (at_in acW_all.1)) rfl)) (g := F0 m pc lsr (.int 16 :: .int 6 :: rest.map (tv G))) rfl (by rw [hb]; exact hd) rfl (by decide +kernel) (by decide +kernel) (by rw [n6]; decide) (by rw [n16]; decide) (by rw [n16]; decide) rfl rfl (by rw [n6]; exact hcs) (by rw [n6, n16]; exact hss)
  rw [n6, n16] at X' step
  generalize hF : Jvm.Free.Multi.fill (T.setVm vm₁) cA comp 6 16 (defaultValue .int) 6 = F at X' step
  have hTh : (T.setVm vm₁).heap = H := hT
  obtain ⟨f1, f2, -, -⟩ := Jvm.Free.Multi.fill_facts (T.setVm vm₁) cA comp 6 16 (defaultValue .int) 6
  rw [hF, hTh] at f1 f2
  have hold : ∀ x : Nat, x < H.size → F.heap[x]? = H[x]? := fun x hx => by
    have := Jvm.Free.Multi.fill_old (T.setVm vm₁) cA comp 6 16 (defaultValue .int) (a := x) (by rw [hTh]; exact hx) 6
    rw [hF, hTh] at this
    exact this
  have hrow : ∀ j : Nat, j < 6 → F.heap[H.size + 1 + j]? = some (arrV comp 16 (fun _ => .int 0)) := fun j hj => by
    have := Jvm.Free.Multi.fill_inner (T.setVm vm₁) cA comp 6 16 (defaultValue .int) 6 j hj
    rw [hF, hTh] at this
    rw [this, ← arrV_new]
    rfl
  rw [vr_outer] at f2
  have hB : H.size = gB G + h.2.2.2 := D.1.1.1
  have hA9 : cA = gA G 9 := Option.some.inj (fA.symm.trans (show s.vm.findClass ("[" ++ (ety 9).toString) = some (gA G 9) from (hK.2.1 9 (Or.inr (Or.inr (Or.inr ⟨by omega, by omega, rfl⟩)))).2))
  have hA0 : comp = gA G 0 := Option.some.inj (fC.symm.trans (show s.vm.findClass ("[" ++ (ety 0).toString) = some (gA G 0) from (hK.2.1 0 (Or.inl rfl)).2))
  subst hA9
  subst hA0
  have hP' : ∀ j k, nm j ≠ nm h.2.2.2 → h'.2.2.1 (nm j).1 (nm j).2 k = h.2.2.1 (nm j).1 (nm j).2 k := fun j k hj => by
    rw [hh]
    exact if_neg (fun z => hj z.1)
  have hR : Rep G h' F.heap := by
    obtain ⟨r1, r2, r3, r4⟩ := D.1.1
    refine ⟨by rw [f1, r1, hk7]; omega, fun j hj => ?_, fun j hj k => ?_, fun a b k => ?_⟩
    · rw [hk7] at hj
      by_cases j1 : j < h.2.2.2
      · refine (r2 j j1).kept (fun k => ⟨by rw [hh], by rw [hh], hP' j k (fun z => by have := nm_inj z; omega)⟩) (hold _ (by omega))
      · by_cases j2 : j = h.2.2.2
        · subst j2
          unfold cell1
          rw [hso]
          show F.heap[gB G + h.2.2.2]? = some (arrV (gA G 9) 6 _)
          rw [← r1, f2]
          refine congrArg some (arrV_congr fun k hk6 => ?_)
          show va_rf _ = tv G (va (h'.2.2.1 (nm h.2.2.2).1 (nm h.2.2.2).2 k))
          rw [hh]
          by_cases hk : k < 6
          · show va_rf (if k < 6 then _ else _) = tv G (va (if _ ∧ k < 6 then _ else _))
            rw [if_pos hk, if_pos ⟨rfl, hk⟩]
            show Value.ref (H.size + 1 + k) = Value.ref (adr G (nm (h.2.2.2 + 1 + k)))
            rw [adr_nm]
            exact congrArg Value.ref (show (H.size + 1 + k : Nat) = gB G + (h.2.2.2 + 1 + k) by omega)
          · exact absurd hk6 hk
        · obtain ⟨i, rfl⟩ : ∃ i, j = h.2.2.2 + 1 + i := ⟨j - (h.2.2.2 + 1), by omega⟩
          unfold cell1
          rw [hsi i (by omega)]
          show F.heap[gB G + (h.2.2.2 + 1 + i)]? = some (arrV (gA G 0) 16 _)
          rw [show gB G + (h.2.2.2 + 1 + i) = H.size + 1 + i by omega, hrow i (by omega)]
          congr 2
          funext k
          have hz := (r3 (h.2.2.2 + 1 + i) (by omega) k).1
          show Value.int 0 = tv G (vi (h'.1 (nm (h.2.2.2 + 1 + i)).1 (nm (h.2.2.2 + 1 + i)).2 k))
          rw [hh]
          show Value.int 0 = tv G (vi (h.1 _ _ k))
          rw [hz]
          rfl
    · rw [hk7] at hj
      refine ⟨by rw [hh]; exact (r3 j (by omega) k).1, by rw [hh]; exact (r3 j (by omega) k).2.1, ?_⟩
      rw [hP' j k (fun z => by have := nm_inj z; omega)]
      exact (r3 j (by omega) k).2.2
    · have r4 := r4
      refine ⟨by rw [hh]; exact (r4 a b k).1, by rw [hh]; exact (r4 a b k).2.1, fun qq hv hsr hsk hq => ?_⟩
      rw [hk7]
      rw [hk7] at hv
      rw [hh] at hq
      have hq' : (if (a, b) = nm h.2.2.2 ∧ k < 6 then some (nm (h.2.2.2 + 1 + k)) else h.2.2.1 a b k) = some qq := hq
      split at hq'
      · next hc =>
        cases hq'
        exact Or.inl ⟨h.2.2.2 + 1 + k, by omega, rfl⟩
      · next hc =>
        by_cases hv0 : vld G h.2.2.2 (a, b)
        · exact ((r4 a b k).2.2 qq hv0 hsr hsk hq').mono (by omega)
        · obtain ⟨d1, d2⟩ := hv.dyn hsr
          have hge : h.2.2.2 ≤ mn (a, b) := Nat.le_of_not_lt fun z => hv0 (Or.inl ⟨_, z, d2⟩)
          have h3 := (r3 (mn (a, b)) hge k).2.2
          rw [d2] at h3
          have h3 : h.2.2.1 a b k = none := h3 hsk
          rw [h3] at hq'
          cases hq'
  have kgo := K lsr F.heap locs ⟨⟨hR, fun j hj => by rw [hh]; exact D.1.2 j hj⟩, ⟨Nat.le_trans D.2.1.1 (by omega), fun a h1 h2 => (hold a (Nat.lt_of_lt_of_le h1 D.2.1.1)).trans (D.2.1.2.1 a h1 h2), D.2.1.2.2⟩, by rw [hk7]; exact D.2.2.1.mono (by omega), fun w hw => by
    rw [hk7]
    rcases List.mem_cons.mp hw with rfl | hw
    · exact Or.inl ⟨h.2.2.2, by omega, rfl⟩
    · exact (D.2.2.2 w (List.mem_cons_of_mem _ (List.mem_cons_of_mem _ hw))).mono (by omega)⟩
  rw [hsl, hk7, show h.2.2.2 + 7 - h.2.2.2 = 7 by omega] at kgo
  obtain ⟨t, a1, b1⟩ := kgo F rfl X'
  refine ⟨t, step t ?_, b1⟩
  have e1 : T.heap.size = adr G (nm h.2.2.2) := by rw [adr_nm, hT, hB]
  rw [e1]
  exact a1
end S4S
