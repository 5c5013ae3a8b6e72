/-! one step of the small machine is a step of the machine: any step -/
section S6S
variable {p : Program} {l : Launch} {e : Env} {R : Room} {s : State} {m : MethodId} {args : Array Value} {below : List Frame} {meth : Method} {c : Code} {H : Heap} {locs : List Loc} {cells slots : Nat} {Q : State → Prop}
variable {G : GG} {y d pc q q' : Nat} {lsr : Array Slot} {ls ls' st st' : List MV} {h h' : MS}
theorem va_ldcwS {own tx : String} {index q : Nat} {cc : ByteArray} {ls : Array Slot} {rest : List Value} (hexec : p.tables.exec = Jvm.exec) (hb : c.code = cc) (hown : s.vm.findClass own = some m.cls) (hZ : vk_R own index tx q s) (hdg : decode cc pc = .ok (.ldc_w index, 3))
    (k : W p l e R s m args below meth c H locs cells slots Q (F0 m (pc + 3) ls (.ref q :: rest))) : W p l e R s m args below meth c H locs cells slots Q (F0 m pc ls rest) := by
  intro T hT X
  obtain ⟨t, a1, b1⟩ := k T hT X
  exact ⟨t, Stand.ldcStringW X hexec hown (text := tx) (a := q) hZ.1 hZ.2 (g := F0 m pc ls rest) rfl (by rw [hb]; exact hdg) t a1, b1⟩
theorem str_R {ix n : Nat} {o : Nat} (hK : KK G s) (hs : strR o ix = some n) : n < 24 ∧ ∃ tx, vk_R (onm o) ix tx (gT G n) s := by
  have hw := byo str_all hs
  simp only [Bool.and_eq_true, decide_eq_true_eq, List.any_eq_true] at hw
  obtain ⟨h1, ⟨a, b, tx, n', ps⟩, hm, ⟨e1, e2⟩, e3⟩ := hw
  dsimp only at e1 e2 e3
  subst e1
  subst e2
  subst e3
  exact ⟨h1, tx, hK.2.2.2 _ hm⟩
theorem aoC_ok : ∀ ci, ci < 13 → aoC ci = true → (clW.getD ci (0, 0, 0)).2.2 ≠ 9999 := by decide +kernel
theorem alen_le (r i : Nat) : alen 0 r i ≤ 5120 ∨ r = rSCR := by
  by_cases h2 : r = rSCR
  · exact Or.inr h2
  · left
    unfold alen
    split
    · exact Nat.zero_le _
    · next e' n hsh =>
      split
      · unfold sh at hsh
        rw [if_neg h2] at hsh
        have hall : shT.all (fun v => match v with | .inl _ => true | .inr (_, n) => decide (n ≤ 5120)) = true := by decide +kernel
        by_cases hr : r < shT.length
        · have h3 := List.all_eq_true.mp hall shT[r] (List.getElem_mem hr)
          rw [List.getD_eq_getElem?_getD, List.getElem?_eq_getElem hr] at hsh
          have h4 : shT[r] = .inr (e', n) := hsh
          rw [h4] at h3
          exact of_decide_eq_true h3
        · rw [List.getD_eq_getElem?_getD, List.getElem?_eq_none (Nat.not_lt.mp hr)] at hsh
          have h4 : (Sum.inr (7, 0) : Nat ⊕ (Nat × Nat)) = .inr (e', n) := hsh
          cases h4
          decide
      · exact Nat.zero_le _
set_option maxHeartbeats 4000000 in
theorem step_sim (C0 : Cx G p R s m args meth c y d) (D : Dy G s y lsr ls st h H locs) {i : Instr} {len : Nat} (hd : decode (cod y) pc = .ok (i, len)) (hl : len = lnI i len) (hn : nxt y d pc i (pc + len) ls st h = some (q', ls', st', h')) (hcs : cells + (h'.2.2.2 - h.2.2.2) ≤ R.cells) (hss : slots + (sl h'.2.2.2 - sl h.2.2.2) ≤ R.slots) (hL : gL G ≤ 5120) (K : Nx p l e R s m args below meth c cells slots Q G y h q' ls' st' h') : W p l e R s m args below meth c H locs cells slots Q (F0 m pc lsr (st.map (tv G))) := by
  obtain ⟨hx, hb, hml, hown, hts, hin, hK, hfr, hlo, hO⟩ := id C0
  have hcs0 : cells ≤ R.cells := Nat.le_trans (Nat.le_add_right _ _) hcs
  have hss0 : slots ≤ R.slots := Nat.le_trans (Nat.le_add_right _ _) hss
  cases i
  case iconst v =>
    have hl1 : len = 1 := hl
    subst hl1
    have hn : nk (pc + 1) ls (vi (w32 v) :: st) h = some (q', ls', st', h') := hn
    obtain ⟨rfl, rfl, rfl, rfl⟩ := inj4 hn
    exact s_push (v := vi (w32 v)) D (w32_w v) K (fun k => lv_iconst hx hb hd (w32_i v).symm k)
  case bipush v =>
    have hl1 : len = 2 := hl
    subst hl1
    have hn : nk (pc + 2) ls (vi (Int8.ofInt v).toInt32.toInt :: st) h = some (q', ls', st', h') := hn
    obtain ⟨rfl, rfl, rfl, rfl⟩ := inj4 hn
    exact s_push (v := vi (Int8.ofInt v).toInt32.toInt) D (w32_t _) K (fun k => lv_bipush hx hb hd (Int32.ofInt_toInt _).symm k)
  case sipush v =>
    have hl1 : len = 3 := hl
    subst hl1
    have hn : nk (pc + 3) ls (vi (Int16.ofInt v).toInt32.toInt :: st) h = some (q', ls', st', h') := hn
    obtain ⟨rfl, rfl, rfl, rfl⟩ := inj4 hn
    exact s_push (v := vi (Int16.ofInt v).toInt32.toInt) D (w32_t _) K (fun k => lv_sipush hx hb hd (Int32.ofInt_toInt _).symm k)
  case lconst v =>
    have hl1 : len = 1 := hl
    subst hl1
    have hn : nk (pc + 1) ls (vl (Int64.ofNat (v : Nat)).toInt :: st) h = some (q', ls', st', h') := hn
    obtain ⟨rfl, rfl, rfl, rfl⟩ := inj4 hn
    exact s_push (v := vl (Int64.ofNat (v : Nat)).toInt) D (w64_t _) K (fun k => lv_lconst hx hb hd (Int64.ofInt_toInt _).symm k)
  case ldc ix =>
    have hl1 : len = 2 := hl
    subst hl1
    simp only [nxt] at hn
    split at hn
    · next v ps hi =>
      obtain ⟨rfl, rfl, rfl, rfl⟩ := inj4 hn
      have hw := of_decide_eq_true (byo int_all hi)
      exact s_push (v := vi (w32 v)) D (w32_w v) K (fun k => lv_ldc hx hb hown (hts _ (tt_at hw rfl)) hd (by rw [← w32_i v]; exact k))
    · split at hn
      · next n hs =>
        obtain ⟨rfl, rfl, rfl, rfl⟩ := inj4 hn
        obtain ⟨h1, tx, h2⟩ := str_R hK hs
        exact s_push (v := vr rSTR n) D (show vld G h.2.2.2 (rSTR, n) from Or.inr (Or.inl ⟨rfl, h1⟩)) K (fun k => va_ldcS hx hb hown h2 hd k)
      · cases hn
  case ldc_w ix =>
    have hl1 : len = 3 := hl
    subst hl1
    simp only [nxt] at hn
    split at hn
    · next v ps hi =>
      obtain ⟨rfl, rfl, rfl, rfl⟩ := inj4 hn
      have hw := of_decide_eq_true (byo int_all hi)
      exact s_push (v := vi (w32 v)) D (w32_w v) K (fun k => lv_ldcw hx hb hown (hts _ (tt_at hw rfl)) hd (by rw [← w32_i v]; exact k))
    · split at hn
      · next n hs =>
        obtain ⟨rfl, rfl, rfl, rfl⟩ := inj4 hn
        obtain ⟨h1, tx, h2⟩ := str_R hK hs
        exact s_push (v := vr rSTR n) D (show vld G h.2.2.2 (rSTR, n) from Or.inr (Or.inl ⟨rfl, h1⟩)) K (fun k => va_ldcwS hx hb hown h2 hd k)
      · cases hn
  case ldc2_w ix =>
    have hl1 : len = 3 := hl
    subst hl1
    simp only [nxt] at hn
    split at hn
    · next v ps hi =>
      obtain ⟨rfl, rfl, rfl, rfl⟩ := inj4 hn
      have hw := of_decide_eq_true (byo lng_all hi)
      exact s_push (v := vl (w64 v)) D (w64_w v) K (fun k => lv_ldc2 hx hb hown (hts _ (tt_at hw rfl)) hd (by rw [← w64_i v]; exact k))
    · cases hn
  case iload j =>
    have hl1 : len = 2 := hl
    subst hl1
    exact s_ld0 D hn K (fun x hx2 k => lv_iload hx hb hd hx2 k)
  case iload_n j =>
    have hl1 : len = 1 := hl
    subst hl1
    exact s_ld0 D hn K (fun x hx2 k => lv_iload_n hx hb hd rfl hx2 k)
  case istore j =>
    have hl1 : len = 2 := hl
    subst hl1
    exact s_st0 D hn K (fun x rest hj k => lv_istore hx hb hd D.2.2.1.has hj rfl k)
  case istore_n j =>
    have hl1 : len = 1 := hl
    subst hl1
    exact s_st0 D hn K (fun x rest hj k => lv_istore_n hx hb hd rfl D.2.2.1.has hj rfl k)
  case lload j =>
    have hl1 : len = 2 := hl
    subst hl1
    exact s_ld1 D hn K (fun x hx2 k => lv_lload hx hb hd hx2 k)
  case lload_n j =>
    have hl1 : len = 1 := hl
    subst hl1
    exact s_ld1 D hn K (fun x hx2 k => lv_lload_n hx hb hd rfl hx2 k)
  case lstore j =>
    have hl1 : len = 2 := hl
    subst hl1
    exact s_st1 D hn K (fun x rest hj k => lv_lstore hx hb hd D.2.2.1.has hj rfl k)
  case lstore_n j =>
    have hl1 : len = 1 := hl
    subst hl1
    exact s_st1 D hn K (fun x rest hj k => lv_lstore_n hx hb hd rfl D.2.2.1.has hj rfl k)
  case aload j =>
    have hl1 : len = 2 := hl
    subst hl1
    exact s_ld2 D hn K (fun x hx2 k => lv_aload hx hb hd hx2 k)
  case aload_n j =>
    have hl1 : len = 1 := hl
    subst hl1
    exact s_ld2 D hn K (fun x hx2 k => lv_aload_n hx hb hd rfl hx2 k)
  case astore j =>
    have hl1 : len = 2 := hl
    subst hl1
    exact s_st2 D hn K (fun x rest hj k => lv_astore hx hb hd D.2.2.1.has hj rfl k)
  case astore_n j =>
    have hl1 : len = 1 := hl
    subst hl1
    exact s_st2 D hn K (fun x rest hj k => lv_astore_n hx hb hd rfl D.2.2.1.has hj rfl k)
  case iinc j v =>
    have hl1 : len = 3 := hl
    subst hl1
    simp only [nxt] at hn
    split at hn
    · next x hj =>
      obtain ⟨rfl, rfl, rfl, rfl⟩ := inj4 hn
      have hjl : j < mxl y := by rw [← D.2.2.1.1]; exact (List.getElem?_eq_some_iff.mp hj).1
      obtain ⟨k, hk⟩ := List.getElem?_of_mem ((lvl_mem (q := (j, .int (Int32.ofInt x)))).mpr ⟨.inl x, hj, (fun z => by cases z), rfl⟩)
      refine lv_iinc (v := Int32.ofInt (w32 (x + v))) hx hb hd D.2.2.1.has hk (by rw [w32_i, Int32.ofInt_add]) hjl rfl (fun lsr' hl' => ?_)
      exact K.go (D.loc (D.2.2.1.set1 (v := vi (w32 (x + v))) hjl (fun z => by cases z) (w32_w _) hl') D.2.2.2)
    · cases hn
  case iadd =>
    have hl1 : len = 1 := hl
    subst hl1
    exact s_bin D (fun a b => ⟨by rw [w32_i, Int32.ofInt_add], w32_w _⟩) hn K (fun x z rest k => lv_iadd hx hb hd k)
  case isub =>
    have hl1 : len = 1 := hl
    subst hl1
    exact s_bin D (fun a b => ⟨by rw [w32_i, Int32.ofInt_sub], w32_w _⟩) hn K (fun x z rest k => lv_isub hx hb hd k)
  case imul =>
    have hl1 : len = 1 := hl
    subst hl1
    exact s_bin D (fun a b => ⟨by rw [w32_i, Int32.ofInt_mul], w32_w _⟩) hn K (fun x z rest k => lv_imul hx hb hd k)
  case idiv =>
    have hl1 : len = 1 := hl
    subst hl1
    exact s_binN D (fun a b => b32_ok _ a b) hn K (fun x z rest hz k => lv_idiv hx hb hd hz k)
  case irem =>
    have hl1 : len = 1 := hl
    subst hl1
    exact s_binN D (fun a b => b32_ok _ a b) hn K (fun x z rest hz k => lv_irem hx hb hd hz k)
  case iand =>
    have hl1 : len = 1 := hl
    subst hl1
    exact s_bin D (fun a b => b32_ok _ a b) hn K (fun x z rest k => lv_iand hx hb hd k)
  case ior =>
    have hl1 : len = 1 := hl
    subst hl1
    exact s_bin D (fun a b => b32_ok _ a b) hn K (fun x z rest k => lv_ior hx hb hd k)
  case ixor =>
    have hl1 : len = 1 := hl
    subst hl1
    exact s_bin D (fun a b => b32_ok _ a b) hn K (fun x z rest k => lv_ixor hx hb hd k)
  case ishl =>
    have hl1 : len = 1 := hl
    subst hl1
    exact s_bin D (fun a b => b32_ok _ a b) hn K (fun x z rest k => lv_ishl hx hb hd k)
  case ishr =>
    have hl1 : len = 1 := hl
    subst hl1
    exact s_bin D (fun a b => b32_ok _ a b) hn K (fun x z rest k => lv_ishr hx hb hd k)
  case iushr =>
    have hl1 : len = 1 := hl
    subst hl1
    exact s_bin D (fun a b => b32_ok _ a b) hn K (fun x z rest k => lv_iushr hx hb hd rfl k)
  case ineg =>
    have hl1 : len = 1 := hl
    subst hl1
    simp only [nxt] at hn
    split at hn
    · next a r =>
      obtain ⟨rfl, rfl, rfl, rfl⟩ := inj4 hn
      have kgo := K.go (D.stk (okp (v := vi (w32 (-a))) (w32_w _) (okt D)))
      refine lv_ineg hx hb hd ?_
      rw [← Int32.ofInt_neg, ← w32_i (-a)]
      exact kgo
    · cases hn
  case ladd =>
    have hl1 : len = 1 := hl
    subst hl1
    exact s_binL D (fun a b => ⟨by rw [w64_i, Int64.ofInt_add], w64_w _⟩) hn K (fun x z rest k => lv_ladd hx hb hd k)
  case lsub =>
    have hl1 : len = 1 := hl
    subst hl1
    exact s_binL D (fun a b => ⟨by rw [w64_i, Int64.ofInt_sub], w64_w _⟩) hn K (fun x z rest k => lv_lsub hx hb hd k)
  case lmul =>
    have hl1 : len = 1 := hl
    subst hl1
    exact s_binL D (fun a b => ⟨by rw [w64_i, Int64.ofInt_mul], w64_w _⟩) hn K (fun x z rest k => lv_lmul hx hb hd k)
  case ldiv =>
    have hl1 : len = 1 := hl
    subst hl1
    exact s_binLN D (fun a b => b64_ok _ a b) hn K (fun x z rest hz k => lv_ldiv hx hb hd hz k)
  case lcmp =>
    have hl1 : len = 1 := hl
    subst hl1
    simp only [nxt] at hn
    split at hn
    · next b a r =>
      obtain ⟨rfl, rfl, rfl, rfl⟩ := inj4 hn
      have ha : w64 a = a := D.2.2.2 (vl a) (List.mem_cons_of_mem _ List.mem_cons_self)
      have hb2 : w64 b = b := okc D
      have hcan : w32 (vLcmp a b) = vLcmp a b := by
        unfold vLcmp
        split
        · decide +kernel
        · split <;> decide +kernel
      have kgo := K.go (D.stk (okp (v := vi (vLcmp a b)) hcan (fun w hw => D.2.2.2 w (List.mem_cons_of_mem _ (List.mem_cons_of_mem _ hw)))))
      refine W.lcmp hx hb hd ?_
      have e1 : lg_cmp (Int64.ofInt a) (Int64.ofInt b) = Int32.ofInt (vLcmp a b) := by
        unfold lg_cmp vLcmp
        by_cases h1 : b < a
        · rw [if_pos h1, if_pos ((cn_llt hb2 ha).mpr h1)]
          decide +kernel
        · rw [if_neg h1, if_neg (fun z => h1 ((cn_llt hb2 ha).mp z))]
          by_cases h2 : a = b
          · rw [if_pos h2, if_pos ((cn_leq ha hb2).mpr h2)]
            decide +kernel
          · rw [if_neg h2, if_neg (fun z => h2 ((cn_leq ha hb2).mp z))]
            decide +kernel
      rw [e1]
      exact kgo
    · cases hn
  case i2l =>
    have hl1 : len = 1 := hl
    subst hl1
    simp only [nxt] at hn
    split at hn
    · next a r =>
      obtain ⟨rfl, rfl, rfl, rfl⟩ := inj4 hn
      have ha : w32 a = a := okc D
      have hab : -2147483648 ≤ a ∧ a ≤ 2147483647 := by rw [← ha]; exact w32_le a
      have ha2 : w64 a = a := w64_id (by omega) (by omega)
      have kgo := K.go (D.stk (okp (v := vl a) ha2 (okt D)))
      refine lv_i2l (v := Int64.ofInt a) hx hb hd ?_ kgo
      apply Int64.toInt_inj.mp
      rw [Int32.toInt_toInt64]
      show w32 a = w64 a
      rw [ha, ha2]
    · cases hn
  case l2i =>
    have hl1 : len = 1 := hl
    subst hl1
    simp only [nxt] at hn
    split at hn
    · next a r =>
      obtain ⟨rfl, rfl, rfl, rfl⟩ := inj4 hn
      have kgo := K.go (D.stk (okp (v := vi (w32 a)) (w32_w _) (okt D)))
      exact lv_l2i (v := Int32.ofInt (w32 a)) hx hb hd (by rw [w32_i]; exact Int64.toInt32_ofInt) kgo
    · cases hn
  case ifCond cn off =>
    have hl1 : len = 3 := hl
    subst hl1
    simp only [nxt] at hn
    split at hn
    · next hg =>
      cases cn with
      | eq => exact s_jmp1 (Pr := fun x => x = 0) D (fun a ha => by simp only [cndB, decide_eq_true_eq]; exact cn_eq ha cn_0) hn K (fun x rest kt kf => lv_if_eq hx hb hd (pcn hg) kt kf)
      | ne => exact s_jmp1 (Pr := fun x => ¬ x = 0) D (fun a ha => by simp only [cndB, decide_eq_true_eq]; exact not_congr (cn_eq ha cn_0)) hn K (fun x rest kt kf => lv_if_ne hx hb hd (pcn hg) kt (fun w => kf (fun v => v w)))
      | lt => exact s_jmp1 (Pr := fun x => x < 0) D (fun a ha => by simp only [cndB, decide_eq_true_eq]; exact cn_lt ha cn_0) hn K (fun x rest kt kf => lv_if_lt hx hb hd (pcn hg) kt kf)
      | ge => exact s_jmp1 (Pr := fun x => 0 ≤ x) D (fun a ha => by simp only [cndB, decide_eq_true_eq]; exact cn_le cn_0 ha) hn K (fun x rest kt kf => lv_if_ge hx hb hd (pcn hg) kt kf)
      | gt => exact s_jmp1 (Pr := fun x => 0 < x) D (fun a ha => by simp only [cndB, decide_eq_true_eq]; exact cn_lt cn_0 ha) hn K (fun x rest kt kf => lv_if_gt hx hb hd (pcn hg) kt kf)
      | le => exact s_jmp1 (Pr := fun x => x ≤ 0) D (fun a ha => by simp only [cndB, decide_eq_true_eq]; exact cn_le ha cn_0) hn K (fun x rest kt kf => lv_if_le hx hb hd (pcn hg) kt kf)
    · cases hn
  case if_icmp cn off =>
    have hl1 : len = 3 := hl
    subst hl1
    simp only [nxt] at hn
    split at hn
    · next hg =>
      cases cn with
      | eq => exact s_jmp2 (Pr := fun x z => x = z) D (fun a b ha hb2 => by simp only [cndB, decide_eq_true_eq]; exact cn_eq ha hb2) hn K (fun x z rest kt kf => lv_icmp_eq hx hb hd (pcn hg) kt kf)
      | ne => exact s_jmp2 (Pr := fun x z => ¬ x = z) D (fun a b ha hb2 => by simp only [cndB, decide_eq_true_eq]; exact not_congr (cn_eq ha hb2)) hn K (fun x z rest kt kf => lv_icmp_ne hx hb hd (pcn hg) kt (fun w => kf (fun v => v w)))
      | lt => exact s_jmp2 (Pr := fun x z => x < z) D (fun a b ha hb2 => by simp only [cndB, decide_eq_true_eq]; exact cn_lt ha hb2) hn K (fun x z rest kt kf => lv_icmp_lt hx hb hd (pcn hg) kt kf)
      | ge => exact s_jmp2 (Pr := fun x z => z ≤ x) D (fun a b ha hb2 => by simp only [cndB, decide_eq_true_eq]; exact cn_le hb2 ha) hn K (fun x z rest kt kf => lv_icmp_ge hx hb hd (pcn hg) kt kf)
      | gt => exact s_jmp2 (Pr := fun x z => z < x) D (fun a b ha hb2 => by simp only [cndB, decide_eq_true_eq]; exact cn_lt hb2 ha) hn K (fun x z rest kt kf => lv_icmp_gt hx hb hd (pcn hg) kt kf)
      | le => exact s_jmp2 (Pr := fun x z => x ≤ z) D (fun a b ha hb2 => by simp only [cndB, decide_eq_true_eq]; exact cn_le ha hb2) hn K (fun x z rest kt kf => lv_icmp_le hx hb hd (pcn hg) kt kf)
    · cases hn
  case goto off =>
    have hl1 : len = 3 := hl
    subst hl1
    simp only [nxt] at hn
    split at hn
    · next hg =>
      obtain ⟨rfl, rfl, rfl, rfl⟩ := inj4 hn
      exact lv_goto hx hb hd (pcn hg) (K.go D)
    · cases hn
  case tableswitch df lo hi offs =>
    simp only [nxt] at hn
    split at hn
    · next x r =>
      have hxx : (Int32.ofInt x).toInt = x := okc D
      split at hn
      · next hout =>
        split at hn
        · next hg =>
          obtain ⟨rfl, rfl, rfl, rfl⟩ := inj4 hn
          exact lv_tableOut hx hb hd (by rw [hxx]; exact hout) (pcn hg) (K.go (D.stk (okt D)))
        · cases hn
      · next hout =>
        split at hn
        · next off ho =>
          split at hn
          · next hg =>
            obtain ⟨rfl, rfl, rfl, rfl⟩ := inj4 hn
            exact lv_tableIn hx hb hd (by rw [hxx]; exact fun z => hout (Or.inl z)) (by rw [hxx]; exact fun z => hout (Or.inr z)) (by rw [hxx]; exact ho) (pcn hg) (K.go (D.stk (okt D)))
          · cases hn
        · cases hn
    · cases hn
  case lookupswitch df ps =>
    simp only [nxt] at hn
    split at hn
    · next x r =>
      have hxx : (Int32.ofInt x).toInt = x := okc D
      split at hn
      · next hg =>
        obtain ⟨rfl, rfl, rfl, rfl⟩ := inj4 hn
        exact lv_lookup hx hb hd hg.1 (by rw [hxx]) (pcn hg.2) (K.go (D.stk (okt D)))
      · cases hn
    · cases hn
  case getfield ix =>
    have hl1 : len = 3 := hl
    subst hl1
    exact s_get C0 D hd hn K
  case putfield ix =>
    have hl1 : len = 3 := hl
    subst hl1
    exact s_put C0 D hd hn K
  case getstatic ix =>
    have hl1 : len = 3 := hl
    subst hl1
    simp only [nxt] at hn
    split at hn
    · next n ps hi =>
      obtain ⟨rfl, rfl, rfl, rfl⟩ := inj4 hn
      have hw := byo sta_all hi
      simp only [Bool.and_eq_true, decide_eq_true_eq] at hw
      refine s_push (v := vr rROM n) D (show vld G h.2.2.2 (rROM, n) from Or.inr (Or.inr (Or.inl ⟨rfl, hw.1.1⟩))) K (fun k => ?_)
      exact va_gets hx hb (hO.2.1 n hw.1.1).2 D.2.1 hown (hts _ (tt_at hw.2 rfl)) (fun _ h => h) hd k
    · cases hn
  case iaload =>
    have hl1 : len = 1 := hl
    subst hl1
    exact s_iald C0 D hd hn K
  case laload =>
    have hl1 : len = 1 := hl
    subst hl1
    exact s_lald C0 D hd hn K
  case baload =>
    have hl1 : len = 1 := hl
    subst hl1
    exact s_zald C0 D hd hn K
  case aaload =>
    have hl1 : len = 1 := hl
    subst hl1
    exact s_aald C0 D hd hn K
  case iastore =>
    have hl1 : len = 1 := hl
    subst hl1
    simp only [nxt] at hn
    split at hn
    · exact s_iast C0 D hd hn K
    · cases hn
  case lastore =>
    have hl1 : len = 1 := hl
    subst hl1
    simp only [nxt] at hn
    split at hn
    · exact s_last C0 D hd hn K
    · cases hn
  case bastore =>
    have hl1 : len = 1 := hl
    subst hl1
    simp only [nxt] at hn
    split at hn
    · exact s_zast C0 D hd hn K
    · cases hn
  case aastore =>
    have hl1 : len = 1 := hl
    subst hl1
    simp only [nxt] at hn
    split at hn
    · exact s_aast C0 D hd hn K
    · cases hn
  case arraylength =>
    have hl1 : len = 1 := hl
    subst hl1
    simp only [nxt] at hn
    split at hn
    · next r i rest =>
      rcases alen_le r i with ha | ha
      · exact s_alen C0 D hd hn hL ha K
      · subst ha
        refine s_alen C0 D hd hn hL ?_ K
        have hi : i = gL G := vld_scr (okc D)
        subst hi
        exact hL
    · cases hn
  case new ix =>
    have hl1 : len = 3 := hl
    subst hl1
    simp only [nxt] at hn
    split at hn
    · next ci ps hi =>
      split at hn
      · next hc => exact s_new C0 D hd hi hc hn hcs hss K
      · cases hn
    · cases hn
  case newarray a =>
    have hl1 : len = 2 := hl
    subst hl1
    simp only [nxt] at hn
    split at hn
    · next n r =>
      split at hn
      · next hg => exact s_newa C0 D hd hg hn hcs hss K
      · cases hn
    · cases hn
  case anewarray ix =>
    have hl1 : len = 3 := hl
    subst hl1
    simp only [nxt] at hn
    split at hn
    · next ci ps n r hi =>
      split at hn
      · next hg => exact s_newq C0 D hd hi ⟨hg.1, hg.2.1, hg.2.2.1⟩ hn (aoC_ok ci hg.2.2.1 hg.2.2.2) hcs hss K
      · cases hn
    · cases hn
  case multianewarray ix dm =>
    have hl1 : len = 4 := hl
    subst hl1
    simp only [nxt] at hn
    split at hn
    · next ci ps n m2 r hi =>
      split at hn
      · next hg =>
        obtain ⟨rfl, rfl, rfl, rfl, hsi, hso⟩ := hg
        obtain ⟨rfl, rfl, rfl, rfl⟩ := inj4 hn
        exact s_multi C0 D hd hi hsi hso rfl hcs hss K
      · cases hn
    · cases hn
  case invokestatic ix =>
    have hl1 : len = 3 := hl
    subst hl1
    simp only [nxt] at hn
    split at hn
    · next z ne ps hi =>
      split at hn
      · next hg =>
        obtain ⟨rfl, rfl, hd0⟩ := hg
        exact s_cpy C0 D hd hi hd0 hn K
      · split at hn
        · next hg =>
          obtain ⟨h1, h2, rfl, hd0⟩ := hg
          exact s_math C0 D hd hi ⟨h1, h2⟩ hd0 hn hcs0 hss0 K
        · cases hn
    · cases hn
  case invokevirtual ix =>
    have hl1 : len = 3 := hl
    subst hl1
    simp only [nxt] at hn
    split at hn
    · next z ne ps hi =>
      split at hn
      · next hg =>
        obtain ⟨rfl, rfl, hd0⟩ := hg
        exact s_slen C0 D hd hi hd0 hn hcs0 hss0 K
      · split at hn
        · next hg =>
          obtain ⟨rfl, rfl, hd0⟩ := hg
          exact s_schr C0 D hd hi hd0 hn hcs0 hss0 K
        · cases hn
    · cases hn
  case invokespecial ix =>
    have hl1 : len = 3 := hl
    subst hl1
    simp only [nxt] at hn
    split at hn
    · next z ne ps hi =>
      split at hn
      · next hg =>
        obtain ⟨rfl, rfl, hd0⟩ := hg
        split at hn
        · next o r =>
          split at hn
          · next hsum =>
            obtain ⟨rfl, rfl, rfl, rfl⟩ := inj4 hn
            exact s_objI C0 D hd hi hd0 hsum K
          · cases hn
        · cases hn
      · cases hn
    · cases hn
  case dup =>
    have hl1 : len = 1 := hl
    subst hl1
    simp only [nxt] at hn
    split at hn
    · next v r =>
      split at hn
      · next hc =>
        obtain ⟨rfl, rfl, rfl, rfl⟩ := inj4 hn
        exact lv_dup hx hb hd (tv_cat hc) (K.go (D.stk (okp (okc D) D.2.2.2)))
      · cases hn
    · cases hn
  case dup2 =>
    have hl1 : len = 1 := hl
    subst hl1
    simp only [nxt] at hn
    split at hn
    · next v w r =>
      split at hn
      · next hc =>
        obtain ⟨rfl, rfl, rfl, rfl⟩ := inj4 hn
        have o2 : okv G h.2.2.2 w := D.2.2.2 w (List.mem_cons_of_mem _ List.mem_cons_self)
        exact lv_dup2_11 hx hb hd (tv_cat hc.1) (tv_cat hc.2) (K.go (D.stk (okp (okc D) (okp o2 D.2.2.2))))
      · cases hn
    · cases hn
  all_goals (exact absurd hn (fun z => by cases z))
end S6S
