/-! the law's start -/
section ENT
variable {s : State} {b : Nat}
theorem nc_ne {args : Array Value} {i j : Nat} (hi : i < 24) (hj : j < 24) (hij : i ≠ j) (hs : ∀ w ∈ fNr, w.before args s = true) : (Cond.not (Cond.eq (stm i) (stm j))).before args s = true := by
  have fx := fun i (hi : i < 24) => by
    have := rgN fN_ex hi
    simp only [Bool.and_eq_true, decide_eq_true_eq] at this
    exact this
  obtain ⟨a, -, -, -, ha, -⟩ := Cond.exactly_spec (args := args) (first := s) (o := none) (s := s) (idx := []) (t := stm i) (cls := "java/lang/String") (hs _ (fx i hi).1.1.1)
  obtain ⟨c, -, -, -, hc, -⟩ := Cond.exactly_spec (args := args) (first := s) (o := none) (s := s) (idx := []) (t := stm j) (cls := "java/lang/String") (hs _ (fx j hj).1.1.1)
  have hne : a ≠ c := by
    intro hac
    subst hac
    have hev : (stm i).eval args s none [] s = (stm j).eval args s none [] s := ha.trans hc.symm
    have hv : (stv i).eval args s none [] s = (stv j).eval args s none [] s := by
      unfold stv
      simp only [Term.eval, hev]
    have hl : (Term.length (stv i)).eval args s none [] s = (Term.length (stv j)).eval args s none [] s := by simp only [Term.eval, hv]
    have li := va_eqt (hs _ (fx i hi).2)
    have lj := va_eqt (hs _ (fx j hj).2)
    have hnn : Int32.ofNat (nB i) = Int32.ofNat (nB j) := by
      have := li.symm.trans (hl.trans lj)
      exact Value.int.inj (Option.some.inj this)
    have h := rgN (rgN lit_ne hi) hj
    simp only [Bool.or_eq_true, decide_eq_true_eq, List.any_eq_true, Bool.and_eq_true, List.mem_range] at h
    rcases h with (h | h) | ⟨k, hk, hkj, hd⟩
    · exact hij h
    · exact h hnn
    · have he : (Term.elem (stv i) (.int (Int32.ofNat k))).eval args s none [] s = (Term.elem (stv j) (.int (Int32.ofNat k))).eval args s none [] s := by simp only [Term.eval, hv]
      have ei := va_eqt (hs _ (of_decide_eq_true (rgN (rgN fN_el hi) hk)))
      have ej := va_eqt (hs _ (of_decide_eq_true (rgN (rgN fN_el hj) hkj)))
      exact hd (Value.int.inj (Option.some.inj (ei.symm.trans (he.trans ej))))
  simp [Cond.before, Cond.holds, Cond.value, ha, hc, hne]
theorem arr_ac {args : Array Value} {ty : FieldType} (h : (Cond.arrayClass ty).before args s = true) (hty : ∀ C, ty ≠ .object C) : ∃ cA, ArrOfT s cA ty ∧ va_RA s cA ty := by
  obtain ⟨c, k, comp, h1, h2, h3⟩ := Cond.arrayClass_spec h
  refine ⟨c, fun N z => ⟨(fun k h => by cases h), k, h2, comp, h3⟩, ?_⟩
  cases ty with
  | object C => exact absurd rfl (hty C)
  | _ => exact h1
theorem arr_ao {args : Array Value} {C : String} (h : (Cond.arrayOver (.object C)).before args s = true) : ∃ cA, ArrOfT s cA (.object C) ∧ va_RA s cA (.object C) := by
  obtain ⟨comp, c, k, h1, h2, h3, h4, h5⟩ := Cond.arrayOver_spec h
  exact ⟨c, fun N z => ⟨(fun k h => by cases h), k, h3, comp, h4⟩, k, comp, h3, h4, h1, h5⟩
theorem arr_aa {args : Array Value} {t : FieldType} (h : (Cond.arrayOver (.array t)).before args s = true) : ∃ cA, ArrOfT s cA (.array t) ∧ va_RA s cA (.array t) := by
  obtain ⟨comp, c, k, h1, h2, h3, h4, h5⟩ := arrayOverA_spec h
  exact ⟨c, fun N z => ⟨(fun k h => by cases h), k, h3, comp, h4⟩, h5⟩
theorem ent_G {L : Nat} {xs : Nat → Int32} (hts : ∀ w ∈ lw_tbl, w.before #[Value.ref b] s = true) (hX : va_X b L xs s s.heap) (hb : b < s.heap.size) (hgv : (Jvm.Cond.and given_1 narrow_1).before #[Value.ref b] s = true) :
    ∃ G : GG, gB G = s.heap.size ∧ gS G = b ∧ gL G = L ∧ gX G = xs ∧ KK G s ∧ Old G s s.heap := by
  have hs : ∀ w ∈ fNr, w.before #[Value.ref b] s = true := flat_of_before _ hgv
  have hat : ∀ {i w}, at? i = some w → w.before #[Value.ref b] s = true := fun h => hts _ (tb_in (at_in h))
  have hA : ∀ a : Nat, a < s.heap.size → ¬ s.heap.size ≤ a := fun a h => Nat.not_le.mpr h
  -- classes
  have h1 : ∀ c, ∃ q : ClassId × (Nat → Nat), c < 13 → u_Kn s (cst c) (cT c) (cN c) q.1 q.2 := by
    intro c
    by_cases hc : c < 13
    · have hci := rgN clW_all hc
      simp only [Bool.and_eq_true, decide_eq_true_eq] at hci
      obtain ⟨id, I, h⟩ := u_known (ws := lw_tbl) hts (fun w hw => (List.mem_filter.mp (lays_in hc w hw)).1) (hat hci.1)
      exact ⟨(id, I), fun _ => h⟩
    · exact ⟨(0, fun _ => 0), fun h => absurd h hc⟩
  have h2 : ∀ e, ∃ cA : ClassId, okE e → ArrOfT s cA (ety e) ∧ va_RA s cA (ety e) := by
    intro e
    by_cases he : okE e
    · rcases he with rfl | rfl | rfl | ⟨h9, h23, ho⟩
      · obtain ⟨c, h⟩ := arr_ac (hat acW_all.1) (fun C h => by cases h); exact ⟨c, fun _ => h⟩
      · obtain ⟨c, h⟩ := arr_ac (hat acW_all.2.1) (fun C h => by cases h); exact ⟨c, fun _ => h⟩
      · obtain ⟨c, h⟩ := arr_ac (hat acW_all.2.2.1) (fun C h => by cases h); exact ⟨c, fun _ => h⟩
      · by_cases e9 : e = 9
        · subst e9
          obtain ⟨c, h⟩ := arr_aa (hat acW_all.2.2.2); exact ⟨c, fun _ => h⟩
        · have ho2 : aoC (e - 10) = true := by
            unfold eO at ho
            rcases Bool.or_eq_true _ _ ▸ ho with h | h
            · exact absurd (by simpa using h) e9
            · exact h
          have hao := aoC_ok (e - 10) (by omega) ho2
          have hov := rgN aoW_all (show e - 10 < 13 by omega)
          simp only [Bool.or_eq_true, decide_eq_true_eq] at hov
          obtain ⟨c, h⟩ := arr_ao (hat (hov.resolve_left hao))
          refine ⟨c, fun _ => ?_⟩
          have : ety e = .object (cst (e - 10)) := by
            have : ety (10 + (e - 10)) = .object (cst (e - 10)) := ety_obj
            rwa [show 10 + (e - 10) = e by omega] at this
          rw [this]
          exact h
    · exact ⟨0, fun h => absurd h he⟩
  obtain ⟨fC, hC⟩ := Classical.axiomOfChoice h1
  obtain ⟨fA, hAr⟩ := Classical.axiomOfChoice h2
  have fx := fun i (hi : i < 24) => by
    have := rgN fN_ex hi
    simp only [Bool.and_eq_true, decide_eq_true_eq] at this
    exact this
  have elen : ∀ i, (litB.map List.length).getD i 0 = nB i := fun i => by
    unfold nB
    simp only [List.getD_eq_getElem?_getD, List.getElem?_map]
    cases litB[i]? <;> rfl
  have ebyt : ∀ i j, ((litB.map (fun b => b.map Int32.ofInt)).getD i []).getD j 0 = Int32.ofInt (bB i j) := fun i j => by
    unfold bB
    simp only [List.getD_eq_getElem?_getD, List.getElem?_map]
    cases litB[i]? with
    | none => rfl
    | some v =>
      simp only [Option.map_some, Option.getD_some, List.getElem?_map]
      cases v[j]? <;> rfl
  obtain ⟨adK, adV, hS, hadK⟩ := vk_Sof (args := #[Value.ref b]) (s := s) (N := 24) (tm := stm) (len := litB.map List.length) (byt := litB.map (fun b => b.map Int32.ofInt)) (A := fun q => s.heap.size ≤ q)
    (fun i hi => by
      rw [elen]
      have : (List.range 24).all (fun i => decide (nB i < 2 ^ 31)) = true := by decide +kernel
      exact of_decide_eq_true (rgN this hi))
    (fun i hi => hs _ (fx i hi).1.1.1) (fun i hi => hs _ (fx i hi).1.1.2) (fun i hi => hs _ (fx i hi).1.2) (fun i hi => by rw [elen]; exact hs _ (fx i hi).2)
    (fun i hi j hj => by
      rw [elen] at hj
      rw [ebyt]
      exact hs _ (of_decide_eq_true (rgN (rgN fN_el hi) hj)))
    (fun i j hi hj hij => Or.inl (nc_ne hi hj hij hs)) hA
  -- the three arrays
  have h3 : ∀ i, ∃ t : Nat, i < 3 → va_T .int t 8 (fun j => .int (Int32.ofInt (rom i j))) (fun q => s.heap.size ≤ q) s s.heap ∧ va_Z "FaceRows$Head" (["LEAST", "MOST", "USUAL"].getD i "") "[I" (.ref t) (fun q => s.heap.size ≤ q) s s.heap := by
    intro i
    by_cases hi : i < 3
    · have hr := rgN fN_rom hi
      simp only [Bool.and_eq_true, decide_eq_true_eq] at hr
      obtain ⟨t, ht, hT⟩ := va_Tof (N := 8) (f := fun j => .int (Int32.ofInt (rom i j))) (by decide) (hs _ hr.1.1) (va_eqt (hs _ hr.1.2)) (fun j hj => va_eqt (hs _ (of_decide_eq_true (rgN hr.2 hj)))) hA
      have hl : (Cond.laysStatic "FaceRows$Head" (["LEAST", "MOST", "USUAL"].getD i "") "[I").before #[Value.ref b] s = true := by
        have hc : i = 0 ∨ i = 1 ∨ i = 2 := by omega
        rcases hc with rfl | rfl | rfl
        · exact hat tb_sta.2.2.1
        · exact hat tb_sta.2.2.2.1
        · exact hat tb_sta.2.2.2.2
      exact ⟨t, fun _ => ⟨hT, va_Zof hl (hat tb_sta.1.1) ht hA⟩⟩
    · exact ⟨0, fun h => absurd h hi⟩
  obtain ⟨fR, hR⟩ := Classical.axiomOfChoice h3
  have h4 := va_Zof (hat tb_sta.2.1.1) (hat tb_sta.1.2.1) (va_eqi (hs _ (of_decide_eq_true fN_sta.1))) hA
  have h5 := va_Zqof (hat tb_sta.2.1.2) (hat tb_sta.1.2.2) (hs _ (of_decide_eq_true fN_sta.2)) hA
  refine ⟨(s.heap.size, (fun c => (fC c).1), (fun c => (fC c).2), fA, adK, fR, b, L, xs), rfl, rfl, rfl, rfl, ⟨hC, hAr, fun w hw hn => ?_, fun q hq => ?_⟩, ⟨adV, hS⟩, hR, h4, h5, ⟨hX, hb⟩, Nat.le_refl _⟩
  · have h0 := hts w (tb_in hw)
    match w, hn, h0 with
    | .fieldLinkNest _ _ _ _ _ _, _, h0 => exact va_Nw.of rfl h0
    | .methodLinkNest _ _ _ _, _, h0 => exact va_Nw.of rfl h0
    | .arrayOver (.object _), _, h0 => exact h0
    | .arrayOver (.array _), _, h0 => exact h0
  · have hlt : q.2.2.2.1 < 24 := of_decide_eq_true (List.all_eq_true.mp strW_lt q hq)
    have hw := List.all_eq_true.mp strW_all q hq
    simp only [Bool.and_eq_true, decide_eq_true_eq] at hw
    have he := List.all_eq_true.mp strW_eq q hq
    simp only [Bool.or_eq_true, Bool.and_eq_true, decide_eq_true_eq] at he
    refine vk_R.of (hat hw.1) ?_ (A := #[Value.ref b])
    show (Term.string q.1 q.2.1).eval #[Value.ref b] s none [] s = some (.ref (adK q.2.2.2.1))
    rcases he with ⟨e1, e2⟩ | he
    · rw [e1, e2]
      exact hadK _ hlt
    · obtain ⟨y, ya, yb⟩ := Cond.eq_one (hs _ he)
      rw [yb, ← ya]
      exact hadK _ hlt
end ENT
