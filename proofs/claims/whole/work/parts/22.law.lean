/-! the law, once its run in the small machine is known -/
abbrev PT : Type := Nat → Nat → Nat → Option MR
def hS (P0 : PT) (L : Nat) (xs : Nat → Int32) : MS := (fun r i s => if r = rSCR ∧ i = L ∧ s < L then (xs s).toInt else 0, fun _ _ _ => 0, P0, 0)
def LawRuns : Prop := ∃ P0 : PT, (∀ j t, t < sz (nm j) → P0 (nm j).1 (nm j).2 t = none) ∧ ∀ (L : Nat) (xs : Nat → Int32), L ≤ 5120 → ∃ (n : Nat) (h1 : MS), run n 64 250 0 [va (some (rSCR, L)), vx, vx, vx] [] (hS P0 L xs) = some (vi 1, h1) ∧ h1.2.2.2 = 1021
theorem sl_law : sl 1021 ≤ 7302250 := by decide +kernel
/-- the law's own end, with 1 on the stack, nothing written that was there before, its room as the claim has it -/
theorem lw_ret {p : Program} {l : Launch} {e : Env} {s : State} {m : MethodId} {below : List Frame} {meth : Method} {c : Code} {b : Nat} (hx : p.tables.exec = Jvm.exec) (hb : c.code = code) (hr : meth.sig.returnType = ret) (hlocks : meth.locks = false) {pc : Nat} {H : Heap} {ls : Array Slot} (hdg : decode code pc = .ok (.ireturn, 1)) : W p l e room_1 s m #[Value.ref b] below meth c H [] 600000 7302250 (lw_Z below #[Value.ref b] s) (F0 m pc ls [.int 1]) := by
  intro T hT X
  obtain ⟨fs, hret, hrun, hended, hW, hframe⟩ := X.leave (v := some (.int 1)) (hlocks := hlocks) (fun h => by rw [hr] at h; cases h)
  have hmeth' : T.vm.method? m = some meth := X.method'
  refine ⟨T.setFrames fs, ?_, .returned (some (.int 1)), hrun, hended, rfl, ⟨_, rfl⟩, hW, hframe⟩
  jvm_step X.here [X.here.top, hx, hb, hdg, hmeth', hr, ret, narrow_b1]
  (try refine ⟨rfl, ?_⟩); (try refine ⟨rfl, ?_⟩)
  first | (intro acts; rw [hret _ acts rfl rfl rfl]) | rw [hret _ _ rfl rfl rfl]
  exact Steps.refl _
def lw_At (p : Program) (s : State) (m : MethodId) (meth : Method) (c : Code) (b L : Nat) (xs : Nat → Int32) : Prop :=
  p.tables.exec = Jvm.exec ∧ c.code = code ∧ meth.sig.returnType = ret ∧ c.maxLocals = 4 ∧ s.vm.findClass R_law = some m.cls ∧ (∀ w ∈ lw_tbl, w.before #[Value.ref b] s = true) ∧ va_X b L xs s s.heap ∧ b < s.heap.size ∧ meth.locks = false ∧ (Jvm.Cond.and given_1 narrow_1).before #[Value.ref b] s = true
theorem sl_sub (a : Nat) : sl a - sl 0 = sl a := Nat.sub_zero _
theorem w64_0 : w64 0 = 0 := by decide +kernel
theorem mxl_250 : 1 ≤ mxl 250 := by decide +kernel
theorem code_250 : code = cod 250 := rfl
theorem law_walk (hrun : LawRuns) {p : Program} {e : Env} {s : State} {m : MethodId} {below : List Frame} {meth : Method} {c : Code} (l : Launch) {b L : Nat} {xs : Nat → Int32} (hL : L ≤ 5120) (C0 : lw_At p s m meth c b L xs) : W p l e room_1 s m #[Value.ref b] below meth c s.heap [] 0 0 (lw_Z below #[Value.ref b] s) (entryFrame m ([Value.ref b] : List Value).toArray 4) := by
  obtain ⟨hx, hb, hr, hml, hown, hts, hX, hlt, hlocks, hgv⟩ := C0
  obtain ⟨G, gB0, gS0, gL0, gX0, hK, hO⟩ := ent_G hts hX hlt hgv
  obtain ⟨P0, hP0, hrun⟩ := hrun
  obtain ⟨n, h1, hn, hk1⟩ := hrun L xs hL
  have hk0 : (hS P0 L xs).2.2.2 = 0 := rfl
  have hcx : Cx G p room_1 s m #[Value.ref b] meth c 250 64 := ⟨hx, hb.trans code_250, hml, hown, fun w hw => hts w (List.mem_filter.mp hw).1, fun h => absurd h (by decide +kernel), hK, by decide, by decide, hO⟩
  have hRp : Rp G (hS P0 L xs) s.heap := by
    refine ⟨⟨gB0.symm, fun j hj => absurd hj (Nat.not_lt_zero _), fun j _ t => ⟨?_, rfl, hP0 j t⟩, fun r i t => ⟨?_, w64_0, fun q hv hsr => absurd (hv.dyn hsr).1 (Nat.not_lt_zero _)⟩⟩, fun j hj => ?_⟩
    · show (if (nm j).1 = rSCR ∧ (nm j).2 = L ∧ t < L then (xs t).toInt else 0) = 0
      rw [if_neg (fun h => (isS_f (isS_nm j)).2.2 h.1)]
    · show w32 (if r = rSCR ∧ i = L ∧ t < L then (xs t).toInt else 0) = (if r = rSCR ∧ i = L ∧ t < L then (xs t).toInt else 0)
      split
      · exact w32_t _
      · exact cn_0
    · show (if rSCR = rSCR ∧ gL G = L ∧ j < L then (xs j).toInt else 0) = _
      rw [if_pos ⟨rfl, gL0, by omega⟩, gX0]
  have hok : ∀ v ∈ [va (some (rSCR, L))], okv G (hS P0 L xs).2.2.2 v := fun v hv => by
    rw [List.mem_singleton.mp hv]
    exact Or.inr (Or.inr (Or.inr (by rw [gL0])))
  have hS0 : va_S (fun q => gB G ≤ q) s.heap s.heap [] := ⟨Nat.le_refl _, fun _ _ _ => rfl, fun l hl => by cases hl⟩
  have hlv := LV.entry (G := G) (k := (hS P0 L xs).2.2.2) (as := [va (some (rSCR, L))]) (z := 250) rfl (show 1 ≤ mxl 250 from mxl_250) hok
  have htv : [va (some (rSCR, L))].map (tv G) = [Value.ref b] := by
    show [Value.ref (gS G)] = _
    rw [gS0]
  rw [htv] at hlv
  rw [lg_entry_eq]
  have D : Dy G s 250 ((lg_sl [Value.ref b] ++ List.replicate (4 - (lg_sl [Value.ref b]).length) Slot.unset).toArray) [va (some (rSCR, L)), vx, vx, vx] [] (hS P0 L xs) s.heap [] := ⟨hRp, hS0, hlv, fun v hv => by cases hv⟩
  have hk : (vi 1, h1).2.2.2.2 - (hS P0 L xs).2.2.2 = 1021 := by show h1.2.2.2 - 0 = 1021; omega
  have hs0 : ∀ k, h1.2.2.2 = k → sl (vi 1, h1).2.2.2.2 - sl (hS P0 L xs).2.2.2 = sl k := fun k hk => by
    subst hk
    exact sl_sub _
  have hs1 := hs0 1021 hk1
  refine run_sim (G := G) (by omega) n _ _ _ _ [] _ _ hn hcx D (by rw [hk]; decide) (by rw [hs1, Nat.zero_add]; exact sl_law) ?_
  rw [hk, hs1]
  intro pc len i lsr st H locs hd hln hrt hRp' hS' hst
  refine va_forget (fun q hq => by have := hS'.2.2 q hq; rw [← gB0]; exact this) ?_
  unfold rtn at hrt
  split at hrt
  · split at hrt
    · next x =>
      split at hrt
      · have hx1 : x = 1 := Sum.inl.inj (congrArg Prod.fst (Option.some.inj hrt))
        subst hx1
        have hl1 : len = 1 := hln
        subst hl1
        exact W.widen (by decide) (by rw [Nat.zero_add]; exact sl_law) (lw_ret hx hb hr hlocks (by rw [code_250]; exact hd))
      · cases hrt
    · cases hrt
  · split at hrt
    · split at hrt
      · cases (congrArg Prod.fst (Option.some.inj hrt))
      · cases hrt
    · cases hrt
  · split at hrt
    · split at hrt
      · cases (congrArg Prod.fst (Option.some.inj hrt))
      · cases (congrArg Prod.fst (Option.some.inj hrt))
      · cases hrt
    · cases hrt
  · split at hrt
    · split at hrt
      · cases (congrArg Prod.fst (Option.some.inj hrt))
      · cases hrt
    · cases hrt
  · cases hrt
