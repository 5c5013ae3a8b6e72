/-! one step of the small machine is a step of the machine: the rest -/
set_option maxRecDepth 100000 in
theorem mcd_1 : at? 772 = some (Cond.code Lib.Math.max.name Lib.Math.max.code 2 (some .int)) := rfl
set_option maxRecDepth 100000 in
theorem mcd_2 : at? 769 = some (Cond.code Lib.Math.min.name Lib.Math.min.code 2 (some .int)) := rfl
set_option maxRecDepth 100000 in
theorem mcd_3 : at? 921 = some (Cond.code Lib.Math.abs.name Lib.Math.abs.code 1 (some .int)) := rfl
set_option maxRecDepth 100000 in
theorem mst_1 : at? 771 = some (Cond.static Lib.Math.max.name) ∧ at? 768 = some (Cond.static Lib.Math.min.name) ∧ at? 920 = some (Cond.static Lib.Math.abs.name) := by decide +kernel
set_option maxRecDepth 100000 in
theorem oi_1 : at? 28 = some (Cond.instanceMethod Lib.objectInit) := by decide +kernel
set_option maxRecDepth 100000 in
theorem oi_2 : at? 29 = some (Cond.code Lib.objectInit ⟨#[0xb1]⟩ 1 none) := rfl
theorem lk_900 {o ix ps : Nat} (hm : mthR o ix = some (900, 0, ps)) : at? ps = some (Cond.methodLink (onm o) ix Lib.objectInit) := by
  have hw := byo link_all hm
  simpa [mthW] using hw
theorem lk_901 {o ix ps : Nat} (hm : mthR o ix = some (901, 0, ps)) : at? ps = some (Cond.methodLink (onm o) ix arraycopyName) := by
  have hw := byo link_all hm
  simpa [mthW] using hw
theorem lk_902 {o ix ps : Nat} (hm : mthR o ix = some (902, 0, ps)) : at? ps = some (Cond.methodLink (onm o) ix yJ0_length_8abf5) := by
  have hw := byo link_all hm
  simpa [mthW] using hw
theorem lk_903 {o ix ps : Nat} (hm : mthR o ix = some (903, 0, ps)) : at? ps = some (Cond.methodLink (onm o) ix yJ0_charAt_5068e) := by
  have hw := byo link_all hm
  simpa [mthW] using hw
theorem lk_904 {o ix ps : Nat} (hm : mthR o ix = some (904, 0, ps)) : at? ps = some (Cond.methodLink (onm o) ix Lib.Math.max.name) := by
  have hw := byo link_all hm
  simpa [mthW] using hw
theorem lk_905 {o ix ps : Nat} (hm : mthR o ix = some (905, 0, ps)) : at? ps = some (Cond.methodLink (onm o) ix Lib.Math.min.name) := by
  have hw := byo link_all hm
  simpa [mthW] using hw
theorem lk_906 {o ix ps : Nat} (hm : mthR o ix = some (906, 0, ps)) : at? ps = some (Cond.methodLink (onm o) ix Lib.Math.abs.name) := by
  have hw := byo link_all hm
  simpa [mthW] using hw
section S5S
variable {p : Program} {l : Launch} {e : Env} {R : Room} {s : State} {m : MethodId} {args : Array Value} {below : List Frame} {meth : Method} {c : Code} {H : Heap} {locs : List Loc} {cells slots : Nat} {Q : State → Prop}
variable {G : GG} {y d pc q q' : Nat} {lsr : Array Slot} {ls ls' st st' rest : List MV} {h h' : MS}
theorem cw_sum : ∀ (vs : List MV), (∀ v ∈ vs, okv G h.2.2.2 v) → ((vs.map (tv G)).map fun v => v.category).sum = (vs.map cw).sum
  | [], _ => rfl
  | v :: vs, hv => by
    have ih := cw_sum vs (fun w hw => hv w (List.mem_cons_of_mem _ hw))
    have h1 : (tv G v).category = cw v := by
      match v, hv v List.mem_cons_self with
      | .inl x, _ => rfl
      | .inr (.inl x), _ => rfl
      | .inr (.inr (.inl (some x))), _ => rfl
      | .inr (.inr (.inl none)), _ => rfl
      | .inr (.inr (.inr _)), hh => exact absurd hh (fun z => z)
    simp only [List.map_cons, List.sum_cons, h1, ih]
theorem s_math {ix z ps : Nat} (C0 : Cx G p R s m args meth c y d) (D : Dy G s y lsr ls st h H locs) (hd : decode (cod y) pc = .ok (.invokestatic ix, 3)) (hm : mthR (own y) ix = some (z, 0, ps)) (hz : 904 ≤ z ∧ z ≤ 906) (hd0 : 0 < d) (hn : mthX z (pc + 3) ls st h = some (q', ls', st', h')) (hcs : cells ≤ R.cells) (hss : slots ≤ R.slots) (K : Nx p l e R s m args below meth c cells slots Q G y h q' ls' st' h') : W p l e R s m args below meth c H locs cells slots Q (F0 m pc lsr (st.map (tv G))) := by
  obtain ⟨hx, hb, hml, hown, hts, hin, hK, hfr, hlo, hO⟩ := C0
  have hini : (Cond.initialized "java/lang/Math").before args s = true := hts _ (tt_at arW_all.2.2.2 rfl)
  have hsz : c.maxLocals = lsr.size := by rw [hml, D.2.2.1.2.1]
  unfold mthX at hn
  split at hn
  · next hz4 =>
    subst hz4
    have hl := lk_904 hm
    split at hn
    · next b a r =>
      split at hn
      · next hsum =>
        obtain ⟨rfl, rfl, rfl, rfl⟩ := inj4 hn
        have ha : w32 a = a := D.2.2.2 (.inl a) (List.mem_cons_of_mem _ List.mem_cons_self)
        have hb2 : w32 b = b := okc D
        have hr : ∀ w ∈ r, okv G h.2.2.2 w := fun w hw => D.2.2.2 w (List.mem_cons_of_mem _ (List.mem_cons_of_mem _ hw))
        have kgo := K.go (D.stk (okp (v := vi (if a < b then b else a)) (by show w32 _ = _; split <;> assumption) hr))
        refine va_mmax hx hb hsz hown (hts _ (tt_at hl rfl)) (hts _ (tt_at mst_1.1 rfl)) hini (hts _ (tt_at mcd_1 rfl)) (by omega) (by rw [cw_sum r hr]; omega) hcs hss hd ?_
        have e1 : (if Int32.ofInt a < Int32.ofInt b then Int32.ofInt b else Int32.ofInt a) = Int32.ofInt (if a < b then b else a) := by
          by_cases hh : a < b
          · rw [if_pos hh, if_pos ((cn_lt ha hb2).mpr hh)]
          · rw [if_neg hh, if_neg (fun z => hh ((cn_lt ha hb2).mp z))]
        rw [e1]
        exact kgo
      · cases hn
    · cases hn
  · split at hn
    · next hz5 =>
      subst hz5
      have hl := lk_905 hm
      split at hn
      · next b a r =>
        split at hn
        · next hsum =>
          obtain ⟨rfl, rfl, rfl, rfl⟩ := inj4 hn
          have ha : w32 a = a := D.2.2.2 (.inl a) (List.mem_cons_of_mem _ List.mem_cons_self)
          have hb2 : w32 b = b := okc D
          have hr : ∀ w ∈ r, okv G h.2.2.2 w := fun w hw => D.2.2.2 w (List.mem_cons_of_mem _ (List.mem_cons_of_mem _ hw))
          have kgo := K.go (D.stk (okp (v := vi (if b < a then b else a)) (by show w32 _ = _; split <;> assumption) hr))
          refine va_mmin hx hb hsz hown (hts _ (tt_at hl rfl)) (hts _ (tt_at mst_1.2.1 rfl)) hini (hts _ (tt_at mcd_2 rfl)) (by omega) (by rw [cw_sum r hr]; omega) hcs hss hd ?_
          have e1 : (if Int32.ofInt b < Int32.ofInt a then Int32.ofInt b else Int32.ofInt a) = Int32.ofInt (if b < a then b else a) := by
            by_cases hh : b < a
            · rw [if_pos hh, if_pos ((cn_lt hb2 ha).mpr hh)]
            · rw [if_neg hh, if_neg (fun z => hh ((cn_lt hb2 ha).mp z))]
          rw [e1]
          exact kgo
        · cases hn
      · cases hn
    · have hz6 : z = 906 := by omega
      subst hz6
      have hl := lk_906 hm
      split at hn
      · next a r =>
        split at hn
        · next hsum =>
          obtain ⟨rfl, rfl, rfl, rfl⟩ := inj4 hn
          have ha : w32 a = a := okc D
          have hr : ∀ w ∈ r, okv G h.2.2.2 w := okt D
          have kgo := K.go (D.stk (okp (v := vi (if 0 ≤ a then a else w32 (-a))) (by show w32 _ = _; split; exact ha; exact w32_w _) hr))
          refine va_mabs hx hb hsz hown (hts _ (tt_at hl rfl)) (hts _ (tt_at mst_1.2.2 rfl)) hini (hts _ (tt_at mcd_3 rfl)) (by omega) (by rw [cw_sum r hr]; omega) hcs hss hd ?_
          have e1 : (if (0 : Int32) ≤ Int32.ofInt a then Int32.ofInt a else 0 - Int32.ofInt a) = Int32.ofInt (if 0 ≤ a then a else w32 (-a)) := by
            by_cases hh : 0 ≤ a
            · rw [if_pos hh, if_pos (show (0 : Int32) ≤ Int32.ofInt a from (cn_le cn_0 ha).mpr hh)]
            · rw [if_neg hh, if_neg (show ¬ (0 : Int32) ≤ Int32.ofInt a from fun z => hh ((cn_le cn_0 ha).mp z)), w32_i, Int32.ofInt_neg]
              exact Int32.zero_sub _
          rw [e1]
          exact kgo
        · cases hn
      · cases hn
theorem s_slen {ix ps : Nat} (C0 : Cx G p R s m args meth c y d) (D : Dy G s y lsr ls st h H locs) (hd : decode (cod y) pc = .ok (.invokevirtual ix, 3)) (hm : mthR (own y) ix = some (902, 0, ps)) (hd0 : 6 < d) (hn : slnX (pc + 3) ls st h = some (q', ls', st', h')) (hcs : cells ≤ R.cells) (hss : slots ≤ R.slots) (K : Nx p l e R s m args below meth c cells slots Q G y h q' ls' st' h') : W p l e R s m args below meth c H locs cells slots Q (F0 m pc lsr (st.map (tv G))) := by
  obtain ⟨hx, hb, hml, hown, hts, hin, hK, hfr, hlo, hO⟩ := C0
  have hl := lk_902 hm
  unfold slnX at hn
  split at hn
  · next r i rest =>
    split at hn
    · next hg =>
      obtain ⟨rfl, hi, hsum⟩ := hg
      obtain ⟨rfl, rfl, rfl, rfl⟩ := inj4 hn
      have hr : ∀ w ∈ rest, okv G h.2.2.2 w := okt D
      have hsl := slen_lt hi
      have kgo := K.go (D.stk (okp (v := vi (slen i)) (w32_id (by omega) (by omega)) hr))
      have hOH : Old G s H := hO.kept D.2.1.1 D.2.1.2.1
      exact W.callV (W.runV (Ts := TT) (As := []) (rest := rest.map (tv G)) ⟨hx, hb, hml, hown, hts⟩ (c_len l G i hi) (cwV 0 hts (gi (fun w hw => by
        rcases List.mem_append.mp hw with hw | hw
        · rcases List.mem_cons.mp hw with rfl | hw
          · exact tt_at hl rfl
          rcases List.mem_cons.mp hw with rfl | hw
          · exact tt_at jw_7.1 rfl
          rcases List.mem_cons.mp hw with rfl | hw
          · exact tt_at jw_7.2.1 rfl
          rcases List.mem_cons.mp hw with rfl | hw
          · exact tt_at jw_2.2.2.2 rfl
          · cases hw
        · exact wJ_tt jc_2 w hw) (fun w hw => hw)) rfl rfl rfl (by decide +kernel) ⟨by show 1 + 1 ≤ R.frames; omega, by show 8 + (1 + 11) + 64 ≤ R.locals; omega⟩) ⟨PcS.blind, str_recv hi hO D.2.1, fun U hU hW => ⟨rfl, hK.warm hW, by rw [hU]; exact hOH.moved hW.alike⟩⟩ rfl rfl D.2.2.1.2.1 rfl (by show 2 * 0 + _ ≤ 8; rw [cw_sum rest hr]; omega) hd ⟨hcs, hss⟩) kgo
    · cases hn
  · cases hn
theorem s_schr {ix ps : Nat} (C0 : Cx G p R s m args meth c y d) (D : Dy G s y lsr ls st h H locs) (hd : decode (cod y) pc = .ok (.invokevirtual ix, 3)) (hm : mthR (own y) ix = some (903, 0, ps)) (hd0 : 6 < d) (hn : schX (pc + 3) ls st h = some (q', ls', st', h')) (hcs : cells ≤ R.cells) (hss : slots ≤ R.slots) (K : Nx p l e R s m args below meth c cells slots Q G y h q' ls' st' h') : W p l e R s m args below meth c H locs cells slots Q (F0 m pc lsr (st.map (tv G))) := by
  obtain ⟨hx, hb, hml, hown, hts, hin, hK, hfr, hlo, hO⟩ := C0
  have hl := lk_903 hm
  unfold schX at hn
  split at hn
  · next j r i rest =>
    split at hn
    · next hg =>
      obtain ⟨rfl, hi, h0, h1, hsum⟩ := hg
      obtain ⟨rfl, rfl, rfl, rfl⟩ := inj4 hn
      have hr : ∀ w ∈ rest, okv G h.2.2.2 w := fun w hw => D.2.2.2 w (List.mem_cons_of_mem _ (List.mem_cons_of_mem _ hw))
      have kgo := K.go (D.stk (okp (v := vi (sch i j.toNat)) (sch_ok hi (show j.toNat < slen i by omega)).2.1 hr))
      have hOH : Old G s H := hO.kept D.2.1.1 D.2.1.2.1
      exact W.callV (W.runV (Ts := TT) (As := [.int (Int32.ofInt j)]) (rest := rest.map (tv G)) ⟨hx, hb, hml, hown, hts⟩ (c_char l G i hi j h0 h1) (cwV 1 hts (gi (fun w hw => by
        rcases List.mem_append.mp hw with hw | hw
        · rcases List.mem_cons.mp hw with rfl | hw
          · exact tt_at hl rfl
          rcases List.mem_cons.mp hw with rfl | hw
          · exact tt_at jw_7.2.2.1 rfl
          rcases List.mem_cons.mp hw with rfl | hw
          · exact tt_at jw_7.2.2.2 rfl
          rcases List.mem_cons.mp hw with rfl | hw
          · exact tt_at jw_2.2.2.2 rfl
          · cases hw
        · exact wJ_tt jc_3 w hw) (fun w hw => hw)) rfl rfl rfl (by decide +kernel) ⟨by show 3 + 1 ≤ R.frames; omega, by show 8 + (2 + 11) + 192 ≤ R.locals; omega⟩) ⟨PcS.blind, str_recv hi hO D.2.1, fun U hU hW => ⟨rfl, hK.warm hW, by rw [hU]; exact hOH.moved hW.alike⟩⟩ rfl rfl D.2.2.1.2.1 rfl (by show 2 * 0 + _ ≤ 8; rw [cw_sum rest hr]; omega) hd ⟨hcs, hss⟩) kgo
    · cases hn
  · cases hn
theorem s_objI {ix ps : Nat} {o : MR} (C0 : Cx G p R s m args meth c y d) (D : Dy G s y lsr ls (va (some o) :: rest) h H locs) (hd : decode (cod y) pc = .ok (.invokespecial ix, 3)) (hm : mthR (own y) ix = some (900, 0, ps)) (hd0 : 0 < d) (hsum : (rest.map cw).sum ≤ 8) (K : Nx p l e R s m args below meth c cells slots Q G y h (pc + 3) ls rest h) : W p l e R s m args below meth c H locs cells slots Q (F0 m pc lsr ((va (some o) :: rest).map (tv G))) := by
  obtain ⟨hx, hb, hml, hown, hts, hin, hK, hfr, hlo, hO⟩ := C0
  have hl := lk_900 hm
  have hr : ∀ w ∈ rest, okv G h.2.2.2 w := okt D
  have kgo := K.go (D.stk hr)
  exact W.objInit hx hb hown (hts _ (tt_at hl rfl)) (hts _ (tt_at oi_1 rfl)) (hts _ (tt_at oi_2 rfl)) rfl (by show lsr.size = _; rw [D.2.2.1.2.1, hml]) rfl hd (by omega) (by show 2 * 0 + _ + 12 ≤ _; rw [cw_sum rest hr]; omega) kgo
theorem s_cpy {ix ps : Nat} (C0 : Cx G p R s m args meth c y d) (D : Dy G s y lsr ls st h H locs) (hd : decode (cod y) pc = .ok (.invokestatic ix, 3)) (hm : mthR (own y) ix = some (901, 0, ps)) (hd0 : 0 < d) (hn : cpyX (pc + 3) ls st h = some (q', ls', st', h')) (K : Nx p l e R s m args below meth c cells slots Q G y h q' ls' st' h') : W p l e R s m args below meth c H locs cells slots Q (F0 m pc lsr (st.map (tv G))) := by
  obtain ⟨hx, hb, hml, hown, hts, hin, hK, hfr, hlo, hO⟩ := C0
  have hl := lk_901 hm
  unfold cpyX at hn
  split at hn
  · next n dp r' i' sp r i rest =>
    split at hn
    · next hg =>
      obtain ⟨h0, h1, h2, h3, h4, hs, hs', rfl, p1, p2⟩ := hg
      obtain ⟨rfl, rfl, rfl, rfl⟩ := inj4 hn
      have on : w32 n = n := okc D
      have od : w32 dp = dp := D.2.2.2 (.inl dp) (List.mem_cons_of_mem _ List.mem_cons_self)
      have ov' : vld G h.2.2.2 (r', i') := D.2.2.2 (vr r' i') (List.mem_cons_of_mem _ (List.mem_cons_of_mem _ List.mem_cons_self))
      have os : w32 sp = sp := D.2.2.2 (.inl sp) (List.mem_cons_of_mem _ (List.mem_cons_of_mem _ (List.mem_cons_of_mem _ List.mem_cons_self)))
      have ov : vld G h.2.2.2 (r, i) := D.2.2.2 (vr r i) (List.mem_cons_of_mem _ (List.mem_cons_of_mem _ (List.mem_cons_of_mem _ (List.mem_cons_of_mem _ List.mem_cons_self))))
      by_cases hal : alen 0 r i = 0 ∨ alen 0 r' i' = 0
      · exact absurd hal (by omega)
      · have hc0 := arr_cell D.1 ov hs (ek := 0) (by omega)
        have hc1 := arr_cell D.1 ov' hs' (ek := 0) (by omega)
        have nz : ∀ {z : Int}, w32 z = z → 0 ≤ z → ¬ Int32.ofInt z < 0 := fun hz h0 w => by have := (cn_lt hz cn_0).mp w; omega
        have ti : ∀ {z : Int}, w32 z = z → (Int32.ofInt z).toInt = z := fun hz => hz
        intro T hT X
        obtain ⟨-, k0, hk0, cm0, hkk0⟩ := (hK.2.1 0 (Or.inl rfl)).1 (alen 0 r i) (fun k => tv G (rdk h r i k (ekk 0)))
        obtain ⟨-, k1, hk1, cm1, hkk1⟩ := (hK.2.1 0 (Or.inl rfl)).1 (alen 0 r' i') (fun k => tv G (rdk h r' i' k (ekk 0)))
        obtain ⟨vm', X', step⟩ := X.arraycopy hx hown (hts _ (tt_at hl rfl)) (hts _ (tt_at arW_all.1 rfl)) (hts _ (tt_at arW_all.2.1 rfl)) (hts _ (tt_at arW_all.2.2.1 rfl)) (src := adr G (r, i)) (dst := adr G (r', i')) (cs := arrV (gA G 0) (alen 0 r i) (fun k => tv G (rdk h r i k (ekk 0)))) (cd := arrV (gA G 0) (alen 0 r' i') (fun k => tv G (rdk h r' i' k (ekk 0)))) (srcPos := Int32.ofInt sp) (destPos := Int32.ofInt dp) (n := Int32.ofInt n) (by rw [hT]; exact hc0) (by rw [hT]; exact hc1)
          (fun _ h => by cases h) (fun _ h => by cases h) (fun h => by cases h) (fun h => by cases h) hk0 hk1 hkk0 hkk1 (by show _ = false; rfl) (nz os h1) (nz od h2) (nz on h0)
          (by rw [ti os, ti on, arrV_size]; omega)
          (by rw [ti od, ti on, arrV_size]; omega)
          (fun vm₁ _ k hk => by
            rw [cn_nat on] at hk
            have e1 : (arrV (gA G 0) (alen 0 r i) (fun k => tv G (rdk h r i k (ekk 0)))).slots.getD ((Int32.ofInt sp).toNatClampNeg + k) .null = .int (Int32.ofInt (h.1 r i (sp.toNat + k))) := by
              rw [cn_nat os, Array.getD_eq_getD_getElem?, arrV_read _ _ (by omega)]
              rfl
            refine ⟨?_, ?_⟩
            · rw [e1]
              rfl
            · rw [e1]
              exact trivial)
          (g := F0 m pc lsr ([.inl n, .inl dp, vr r' i', .inl sp, vr r i].map (tv G))) rfl (by show lsr.size = _; rw [D.2.2.1.2.1, hml]) (rest := []) rfl (by rw [hb]; exact hd) (by omega) (by show 2 * 0 + 0 + (nativeFrameWords "java/lang/System" "arraycopy" 5 + 11) ≤ R.locals; rw [show nativeFrameWords "java/lang/System" "arraycopy" 5 = 7 from rfl]; omega)
        have e1 : copied (arrV (gA G 0) (alen 0 r i) (fun k => tv G (rdk h r i k (ekk 0)))) (arrV (gA G 0) (alen 0 r' i') (fun k => tv G (rdk h r' i' k (ekk 0)))) (Int32.ofInt sp) (Int32.ofInt dp) (Int32.ofInt n) = arrV (gA G 0) (alen 0 r' i') (fun k => tv G (vi (va_cpy (h.1 r i) (h.1 r' i') sp.toNat dp.toNat n.toNat k))) := by
          have := va_copied (fun z => tv G (vi z)) (gA G 0) (gA G 0) (n0 := alen 0 r i) (n1 := alen 0 r' i') (sp := sp.toNat) (dp := dp.toNat) (n := n.toNat) (h.1 r i) (h.1 r' i') (by omega)
          unfold copied
          rw [cn_nat os, cn_nat od, cn_nat on]
          exact this
        rw [e1] at X' step
        have hlt : adr G (r', i') < H.size := (Array.getElem?_eq_some_iff.mp hc1).1
        generalize hCell : arrV (gA G 0) (alen 0 r' i') (fun k => tv G (vi (va_cpy (h.1 r i) (h.1 r' i') sp.toNat dp.toNat n.toNat k))) = NC at X' step
        have hheap : ((T.setVm vm').setCell (adr G (r', i')) NC).heap = H.setIfInBounds (adr G (r', i')) NC := by rw [← hT]; rfl
        have oq : ∀ q : Nat, q ≠ adr G (r', i') → (H.setIfInBounds (adr G (r', i')) NC)[q]? = H[q]? := fun q hq => by simp [Array.getElem?_setIfInBounds, Ne.symm hq]
        have oe : (H.setIfInBounds (adr G (r', i')) NC)[adr G (r', i')]? = some NC := by simp [Array.getElem?_setIfInBounds, hlt]
        have hA : gB G ≤ adr G (r', i') := by rw [adr_dyn hs']; exact Nat.le_add_right _ _
        generalize hh' : ((fun a b c => if a = r' ∧ b = i' ∧ dp.toNat ≤ c ∧ c < dp.toNat + n.toNat then h.1 r i (sp.toNat + (c - dp.toNat)) else h.1 a b c, h.2) : MS) = h' at K
        have f1 : ∀ a b k, (a, b) ≠ (r', i') → h'.1 a b k = h.1 a b k := fun a b k hne => by
          rw [← hh']
          exact if_neg (fun z => hne (by rw [z.1, z.2.1]))
        have f2 : h'.2 = h.2 := by rw [← hh']
        have f3 : ∀ k, h'.1 r' i' k = va_cpy (h.1 r i) (h.1 r' i') sp.toNat dp.toNat n.toNat k := fun k => by
          rw [← hh']
          show (if r' = r' ∧ i' = i' ∧ dp.toNat ≤ k ∧ k < dp.toNat + n.toNat then _ else _) = _
          unfold va_cpy
          by_cases hk : dp.toNat ≤ k ∧ k < dp.toNat + n.toNat
          · rw [if_pos ⟨rfl, rfl, hk⟩, if_pos hk]
          · rw [if_neg (fun z => hk z.2.2), if_neg hk]
        have hR : Rp G h' (H.setIfInBounds (adr G (r', i')) NC) := by
          refine ⟨D.1.1.write ov' hs' (by rw [f2]) (fun a b k hne => ⟨f1 a b k hne, by rw [f2], by rw [f2]⟩) (fun k => ?_) (by simp) oq ?_, fun j hj => ?_⟩
          · show w32 (h'.1 r' i' k) = h'.1 r' i' k ∧ _ ∧ _
            rw [f2, f3]
            refine ⟨?_, (D.1.1.2.2.2 r' i' k).2⟩
            unfold va_cpy
            split
            · exact (D.1.1.2.2.2 r i _).1
            · exact (D.1.1.2.2.2 r' i' k).1
          · unfold cell1
            rw [show sh (r', i').1 (r', i').2 = .inr (0, alen 0 r' i') from alen_sh p2]
            show _ = some (arrV (gA G 0) (alen 0 r' i') (fun k => tv G (vi (h'.1 r' i' k))))
            rw [oe, ← hCell]
            congr 2
            funext k
            rw [f3]
          · rw [f1 _ _ _ (fun z => (isS_f hs').2.2 (congrArg Prod.fst z).symm)]
            exact D.1.2 j hj
        have e0 : cells + (h'.2.2.2 - h.2.2.2) = cells := by rw [f2]; omega
        have e00 : slots + (sl h'.2.2.2 - sl h.2.2.2) = slots := by rw [f2]; omega
        unfold Nx at K
        rw [e0, e00] at K
        obtain ⟨t, a1, b1⟩ := K lsr _ _ ⟨hR, ⟨by simp; exact D.2.1.1, fun q g1 g2 => by
          rw [oq q (fun e => g2 (by rw [e]; exact hA))]
          exact D.2.1.2.1 q g1 g2, fun q hq => by
          rcases List.mem_append.mp hq with hq | hq
          · exact D.2.1.2.2 q hq
          · obtain ⟨z, -, hz⟩ := List.mem_map.mp hq
            rw [← hz]
            exact hA⟩, by rw [f2]; exact D.2.2.1, fun w hw => by cases hw⟩ _ hheap X'
        exact ⟨t, step t a1, b1⟩
    · cases hn
  · cases hn
end S5S
