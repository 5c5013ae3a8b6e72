/-! String's length and charAt on the texts of the class files -/
theorem gi {Ts ws : List Cond} (h : ∀ w ∈ ws, w ∈ TT) (hT : ∀ w ∈ TT, w ∈ Ts) : GoodIn Ts ws := fun w hw => ⟨hT w (h w hw), good_of_word ((List.mem_filter.mp (h w hw)).2)⟩
theorem tt_at {i : Nat} {w : Cond} (h : at? i = some w) (hg : goodWord w = true) : w ∈ TT := tt_in (tb_in (at_in h)) hg
def PcS (G : GG) (av : List Value) : Array Value → State → Prop := va_Pc av (fun U => KK G U ∧ Old G U U.heap)
theorem PcS.blind {G : GG} {av : List Value} : FrameBlind (PcS G av) := fun a U g mk h => ⟨h.1, KK.same (s := U) (U := U.calling g mk a) rfl h.2.1, Old.moved (U := U.calling g mk a) (Vm.Alike.refl U.vm) h.2.2⟩
theorem PcS.at {G : GG} {av : List Value} {s U : State} (hK : KK G s) (hO : Old G s s.heap) (hU : U.heap = s.heap) (hW : s.WarmedH U.vm) : PcS G av av.toArray U := ⟨rfl, hK.warm hW, by rw [hU]; exact hO.moved hW.alike⟩
def wJ (y : MethodName) (cc : ByteArray) (maxL : Nat) (ret : Option FieldType) : List Cond := Cond.code y cc maxL ret :: TT
theorem wJ_tt {y : MethodName} {cc : ByteArray} {maxL : Nat} {ret : Option FieldType} {i : Nat} (h : at? i = some (Cond.code y cc maxL ret)) : ∀ w ∈ wJ y cc maxL ret, w ∈ TT := fun w hw => by
  rcases List.mem_cons.mp hw with rfl | hw
  · exact tt_at h rfl
  · exact hw
set_option maxRecDepth 100000 in
theorem jc_1 : at? 572 = some (Cond.code yJ0_coder_7d493 cJ0_coder_7d493 1 (some .byte)) := rfl
set_option maxRecDepth 100000 in
theorem jc_2 : at? 568 = some (Cond.code yJ0_length_8abf5 cJ0_length_8abf5 1 (some .int)) := rfl
set_option maxRecDepth 100000 in
theorem jc_3 : at? 578 = some (Cond.code yJ0_charAt_5068e cJ0_charAt_5068e 2 (some .char)) := rfl
set_option maxRecDepth 100000 in
theorem jc_4 : at? 582 = some (Cond.code yJ0_isLatin1_aae02 cJ0_isLatin1_aae02 1 (some .boolean)) := rfl
set_option maxRecDepth 100000 in
theorem jc_5 : at? 585 = some (Cond.code yJ1_charAt_3b067 cJ1_charAt_3b067 2 (some .char)) := rfl
set_option maxRecDepth 100000 in
theorem jc_6 : at? 588 = some (Cond.code yJ0_checkIndex_df160 cJ0_checkIndex_df160 2 none) := rfl
set_option maxRecDepth 100000 in
theorem jc_7 : at? 593 = some (Cond.code yJ3_checkIndex_8e157 cJ3_checkIndex_8e157 3 (some .int)) := rfl
set_option maxRecDepth 100000 in
theorem jw_1 : at? 573 = some (Cond.fieldLink RJ0 38 "java/lang/String" "COMPACT_STRINGS" "Z") ∧ at? 1800 = some (Cond.fieldLink RJ0 15 "java/lang/String" "coder" "B") ∧ at? 1799 = some (Cond.fieldLink RJ0 9 "java/lang/String" "value" "[B") ∧ at? 589 = some (Cond.fieldLink RJ0 1053 "jdk/internal/util/Preconditions" "SIOOBE_FORMATTER" "Ljava/util/function/BiFunction;") := by decide +kernel
set_option maxRecDepth 100000 in
theorem jw_2 : at? 569 = some (Cond.methodLink RJ0 335 yJ0_coder_7d493) ∧ at? 570 = some (Cond.instanceMethod yJ0_coder_7d493) ∧ at? 571 = some (Cond.selects RJ0 yJ0_coder_7d493 yJ0_coder_7d493) ∧ at? 16 = some (Cond.initialized RJ0) := by decide +kernel
set_option maxRecDepth 100000 in
theorem jw_3 : at? 579 = some (Cond.methodLink RJ0 492 yJ0_isLatin1_aae02) ∧ at? 580 = some (Cond.instanceMethod yJ0_isLatin1_aae02) ∧ at? 581 = some (Cond.selects RJ0 yJ0_isLatin1_aae02 yJ0_isLatin1_aae02) := by decide +kernel
set_option maxRecDepth 100000 in
theorem jw_4 : at? 583 = some (Cond.methodLink RJ0 495 yJ1_charAt_3b067) ∧ at? 584 = some (Cond.static yJ1_charAt_3b067) ∧ at? 17 = some (Cond.initialized RJ1) := by decide +kernel
set_option maxRecDepth 100000 in
theorem jw_5 : at? 586 = some (Cond.methodLink RJ1 9 yJ0_checkIndex_df160) ∧ at? 587 = some (Cond.static yJ0_checkIndex_df160) := by decide +kernel
set_option maxRecDepth 100000 in
theorem jw_6 : at? 591 = some (Cond.methodLink RJ0 1059 yJ3_checkIndex_8e157) ∧ at? 592 = some (Cond.static yJ3_checkIndex_8e157) ∧ at? 18 = some (Cond.initialized RJ3) := by decide +kernel
set_option maxRecDepth 100000 in
theorem jw_7 : at? 566 = some (Cond.instanceMethod yJ0_length_8abf5) ∧ at? 567 = some (Cond.selects RJ0 yJ0_length_8abf5 yJ0_length_8abf5) ∧ at? 576 = some (Cond.instanceMethod yJ0_charAt_5068e) ∧ at? 577 = some (Cond.selects RJ0 yJ0_charAt_5068e yJ0_charAt_5068e) := by decide +kernel
-- codes
theorem dj_coder_0 : decode cJ0_coder_7d493 0 = .ok (.getstatic 38, 3) := by decide +kernel
theorem dj_coder_3 : decode cJ0_coder_7d493 3 = .ok (.ifCond .eq 10, 3) := by decide +kernel
theorem dj_coder_6 : decode cJ0_coder_7d493 6 = .ok (.aload_n 0, 1) := by decide +kernel
theorem dj_coder_7 : decode cJ0_coder_7d493 7 = .ok (.getfield 15, 3) := by decide +kernel
theorem dj_coder_10 : decode cJ0_coder_7d493 10 = .ok (.goto 4, 3) := by decide +kernel
theorem dj_coder_14 : decode cJ0_coder_7d493 14 = .ok (.ireturn, 1) := by decide +kernel
theorem dj_len_0 : decode cJ0_length_8abf5 0 = .ok (.aload_n 0, 1) := by decide +kernel
theorem dj_len_1 : decode cJ0_length_8abf5 1 = .ok (.getfield 9, 3) := by decide +kernel
theorem dj_len_4 : decode cJ0_length_8abf5 4 = .ok (.arraylength, 1) := by decide +kernel
theorem dj_len_5 : decode cJ0_length_8abf5 5 = .ok (.aload_n 0, 1) := by decide +kernel
theorem dj_len_6 : decode cJ0_length_8abf5 6 = .ok (.invokevirtual 335, 3) := by decide +kernel
theorem dj_len_9 : decode cJ0_length_8abf5 9 = .ok (.ishr, 1) := by decide +kernel
theorem dj_len_10 : decode cJ0_length_8abf5 10 = .ok (.ireturn, 1) := by decide +kernel
theorem dj_il_0 : decode cJ0_isLatin1_aae02 0 = .ok (.getstatic 38, 3) := by decide +kernel
theorem dj_il_3 : decode cJ0_isLatin1_aae02 3 = .ok (.ifCond .eq 14, 3) := by decide +kernel
theorem dj_il_6 : decode cJ0_isLatin1_aae02 6 = .ok (.aload_n 0, 1) := by decide +kernel
theorem dj_il_7 : decode cJ0_isLatin1_aae02 7 = .ok (.getfield 15, 3) := by decide +kernel
theorem dj_il_10 : decode cJ0_isLatin1_aae02 10 = .ok (.ifCond .ne 7, 3) := by decide +kernel
theorem dj_il_13 : decode cJ0_isLatin1_aae02 13 = .ok (.iconst 1, 1) := by decide +kernel
theorem dj_il_14 : decode cJ0_isLatin1_aae02 14 = .ok (.goto 4, 3) := by decide +kernel
theorem dj_il_18 : decode cJ0_isLatin1_aae02 18 = .ok (.ireturn, 1) := by decide +kernel
theorem dj_pc_0 : decode cJ3_checkIndex_8e157 0 = .ok (.iload_n 0, 1) := by decide +kernel
theorem dj_pc_1 : decode cJ3_checkIndex_8e157 1 = .ok (.ifCond .lt 8, 3) := by decide +kernel
theorem dj_pc_4 : decode cJ3_checkIndex_8e157 4 = .ok (.iload_n 0, 1) := by decide +kernel
theorem dj_pc_5 : decode cJ3_checkIndex_8e157 5 = .ok (.iload_n 1, 1) := by decide +kernel
theorem dj_pc_6 : decode cJ3_checkIndex_8e157 6 = .ok (.if_icmp .lt 10, 3) := by decide +kernel
theorem dj_pc_16 : decode cJ3_checkIndex_8e157 16 = .ok (.iload_n 0, 1) := by decide +kernel
theorem dj_pc_17 : decode cJ3_checkIndex_8e157 17 = .ok (.ireturn, 1) := by decide +kernel
theorem dj_sc_0 : decode cJ0_checkIndex_df160 0 = .ok (.iload_n 0, 1) := by decide +kernel
theorem dj_sc_1 : decode cJ0_checkIndex_df160 1 = .ok (.iload_n 1, 1) := by decide +kernel
theorem dj_sc_2 : decode cJ0_checkIndex_df160 2 = .ok (.getstatic 1053, 3) := by decide +kernel
theorem dj_sc_5 : decode cJ0_checkIndex_df160 5 = .ok (.invokestatic 1059, 3) := by decide +kernel
theorem dj_sc_8 : decode cJ0_checkIndex_df160 8 = .ok (.pop, 1) := by decide +kernel
theorem dj_sc_9 : decode cJ0_checkIndex_df160 9 = .ok (.return_, 1) := by decide +kernel
theorem dj_lc_0 : decode cJ1_charAt_3b067 0 = .ok (.iload_n 1, 1) := by decide +kernel
theorem dj_lc_1 : decode cJ1_charAt_3b067 1 = .ok (.aload_n 0, 1) := by decide +kernel
theorem dj_lc_2 : decode cJ1_charAt_3b067 2 = .ok (.arraylength, 1) := by decide +kernel
theorem dj_lc_3 : decode cJ1_charAt_3b067 3 = .ok (.invokestatic 9, 3) := by decide +kernel
theorem dj_lc_6 : decode cJ1_charAt_3b067 6 = .ok (.aload_n 0, 1) := by decide +kernel
theorem dj_lc_7 : decode cJ1_charAt_3b067 7 = .ok (.iload_n 1, 1) := by decide +kernel
theorem dj_lc_8 : decode cJ1_charAt_3b067 8 = .ok (.baload, 1) := by decide +kernel
theorem dj_lc_9 : decode cJ1_charAt_3b067 9 = .ok (.sipush 255, 3) := by decide +kernel
theorem dj_lc_12 : decode cJ1_charAt_3b067 12 = .ok (.iand, 1) := by decide +kernel
theorem dj_lc_13 : decode cJ1_charAt_3b067 13 = .ok (.i2c, 1) := by decide +kernel
theorem dj_lc_14 : decode cJ1_charAt_3b067 14 = .ok (.ireturn, 1) := by decide +kernel
theorem dj_ca_0 : decode cJ0_charAt_5068e 0 = .ok (.aload_n 0, 1) := by decide +kernel
theorem dj_ca_1 : decode cJ0_charAt_5068e 1 = .ok (.invokevirtual 492, 3) := by decide +kernel
theorem dj_ca_4 : decode cJ0_charAt_5068e 4 = .ok (.ifCond .eq 12, 3) := by decide +kernel
theorem dj_ca_7 : decode cJ0_charAt_5068e 7 = .ok (.aload_n 0, 1) := by decide +kernel
theorem dj_ca_8 : decode cJ0_charAt_5068e 8 = .ok (.getfield 9, 3) := by decide +kernel
theorem dj_ca_11 : decode cJ0_charAt_5068e 11 = .ok (.iload_n 1, 1) := by decide +kernel
theorem dj_ca_12 : decode cJ0_charAt_5068e 12 = .ok (.invokestatic 495, 3) := by decide +kernel
theorem dj_ca_15 : decode cJ0_charAt_5068e 15 = .ok (.ireturn, 1) := by decide +kernel
set_option maxHeartbeats 4000000 in
set_option maxRecDepth 100000 in
theorem c_coder (l : Launch) (G : GG) (i : Nat) (hi : i < 24) : Met l yJ0_coder_7d493 (wJ yJ0_coder_7d493 cJ0_coder_7d493 1 (some .byte)) { frames := 0, cells := 0, slots := 0, locals := 0 } (PcS G [.ref (gT G i)]) (k2_QcV (.int 0)) 0 0 (fun _ => False) := by
  refine Met.ofW (cc := cJ0_coder_7d493) (maxL := 1) (ret := some .byte) (by decide) rfl ?_
  intro p e s m args below meth c s₁ B hml hv
  obtain ⟨rfl, hK, hO⟩ := hv
  have hx := B.exec
  have hb := B.bytes
  have hr := B.returns
  have hts := atoms_spec (ws := wJ yJ0_coder_7d493 cJ0_coder_7d493 1 (some .byte)) B.pre
  have hown : s.vm.findClass RJ0 = some m.cls := findClass_of_methodNamed B.named
  have hlocks := B.notSynchronized
  have hS : va_S (fun q : Nat => gB G ≤ q) s.heap s.heap [] := va_S.rf
  have hl := lv_entry ([.ref (gT G i)]) (n := 1) (Nat.le_of_ble_eq_true rfl)
  rw [lg_entry_eq]
  generalize (lg_sl ([.ref (gT G i)]) ++ List.replicate (1 - (lg_sl ([.ref (gT G i)])).length) Slot.unset).toArray = ls at hl ⊢
  have hl : lv_has ls 1 [(0, .ref (gT G i))] := hl
  obtain ⟨⟨adV, hE, -⟩, -, hC, -⟩ := id hO
  refine va_gets hx hb hC hS hown (hts _ (List.mem_cons_of_mem _ (tt_at jw_1.1 rfl))) (fun _ h => h) dj_coder_0 ?_
  refine lv_if_eq (tgt := 13) hx hb dj_coder_3 (by decide) (fun z => absurd z (by decide)) (fun _ => ?_)
  refine lv_aload_n hx hb dj_coder_6 rfl (lv_at hl 0 rfl) ?_
  refine vk_getf hx hb (hE i hi).2.1 hS hown (hts _ (List.mem_cons_of_mem _ (tt_at jw_1.2.1 rfl))) (fun _ h => h) dj_coder_7 ?_
  refine lv_goto (tgt := 14) hx hb dj_coder_10 (by decide) ?_
  exact W.zret (v := 0) hx hb hr rfl (fun t ht hW => ⟨rfl, ht⟩) (fun q hq => by cases hq) dj_coder_14
set_option maxHeartbeats 4000000 in
set_option maxRecDepth 100000 in
theorem c_isLat (l : Launch) (G : GG) (i : Nat) (hi : i < 24) : Met l yJ0_isLatin1_aae02 (wJ yJ0_isLatin1_aae02 cJ0_isLatin1_aae02 1 (some .boolean)) { frames := 0, cells := 0, slots := 0, locals := 0 } (PcS G [.ref (gT G i)]) (k2_QcV (.int 1)) 0 0 (fun _ => False) := by
  refine Met.ofW (cc := cJ0_isLatin1_aae02) (maxL := 1) (ret := some .boolean) (by decide) rfl ?_
  intro p e s m args below meth c s₁ B hml hv
  obtain ⟨rfl, hK, hO⟩ := hv
  have hx := B.exec
  have hb := B.bytes
  have hr := B.returns
  have hts := atoms_spec (ws := wJ yJ0_isLatin1_aae02 cJ0_isLatin1_aae02 1 (some .boolean)) B.pre
  have hown : s.vm.findClass RJ0 = some m.cls := findClass_of_methodNamed B.named
  have hlocks := B.notSynchronized
  have hS : va_S (fun q : Nat => gB G ≤ q) s.heap s.heap [] := va_S.rf
  have hl := lv_entry ([.ref (gT G i)]) (n := 1) (Nat.le_of_ble_eq_true rfl)
  rw [lg_entry_eq]
  generalize (lg_sl ([.ref (gT G i)]) ++ List.replicate (1 - (lg_sl ([.ref (gT G i)])).length) Slot.unset).toArray = ls at hl ⊢
  have hl : lv_has ls 1 [(0, .ref (gT G i))] := hl
  obtain ⟨⟨adV, hE, -⟩, -, hC, -⟩ := id hO
  refine va_gets hx hb hC hS hown (hts _ (List.mem_cons_of_mem _ (tt_at jw_1.1 rfl))) (fun _ h => h) dj_il_0 ?_
  refine lv_if_eq (tgt := 17) hx hb dj_il_3 (by decide) (fun z => absurd z (by decide)) (fun _ => ?_)
  refine lv_aload_n hx hb dj_il_6 rfl (lv_at hl 0 rfl) ?_
  refine vk_getf hx hb (hE i hi).2.1 hS hown (hts _ (List.mem_cons_of_mem _ (tt_at jw_1.2.1 rfl))) (fun _ h => h) dj_il_7 ?_
  refine lv_if_ne (tgt := 17) hx hb dj_il_10 (by decide) (fun z => absurd rfl z) (fun _ => ?_)
  refine lv_iconst (v := 1) hx hb dj_il_13 (by decide) ?_
  refine lv_goto (tgt := 18) hx hb dj_il_14 (by decide) ?_
  exact W.zret (v := 1) hx hb hr rfl (fun t ht hW => ⟨rfl, ht⟩) (fun q hq => by cases hq) dj_il_18
theorem str_recv {G : GG} {s : State} {i : Nat} (hi : i < 24) {H : Heap} {locs : List Loc} (hO : Old G s s.heap) (hS : va_S (fun q : Nat => gB G ≤ q) s.heap H locs) : ∃ cell : Cell, H[gT G i]? = some cell ∧ cell.vm.isStatics = false ∧ s.vm.findClass RJ0 = some cell.cls := by
  obtain ⟨⟨adV, hE⟩, -⟩ := hO
  exact vk_recv hE hi hS
theorem slen_eq (i : Nat) : (litB.map List.length).getD i 0 = slen i := by
  unfold slen
  rw [List.getD_eq_getElem?_getD, List.getD_eq_getElem?_getD, List.getElem?_map]
  cases litB[i]? <;> rfl
theorem slen_lt {i : Nat} (hi : i < 24) : slen i < 100 := by
  have : ∀ i, i < 24 → slen i < 100 := by decide +kernel
  exact this i hi
theorem int32_ofNat (n : Nat) : Int32.ofNat n = Int32.ofInt (n : Int) := rfl
set_option maxHeartbeats 4000000 in
set_option maxRecDepth 100000 in
theorem c_len (l : Launch) (G : GG) (i : Nat) (hi : i < 24) : Met l yJ0_length_8abf5 (wJ yJ0_length_8abf5 cJ0_length_8abf5 1 (some .int)) { frames := 1, cells := 0, slots := 0, locals := 64 } (PcS G [.ref (gT G i)]) (k2_QcV (.int (Int32.ofInt (slen i)))) 0 0 (fun _ => False) := by
  refine Met.ofW (cc := cJ0_length_8abf5) (maxL := 1) (ret := some .int) (by decide) rfl ?_
  intro p e s m args below meth c s₁ B hml hv
  obtain ⟨rfl, hK, hO⟩ := hv
  have hx := B.exec
  have hb := B.bytes
  have hr := B.returns
  have hts := atoms_spec (ws := wJ yJ0_length_8abf5 cJ0_length_8abf5 1 (some .int)) B.pre
  have hown : s.vm.findClass RJ0 = some m.cls := findClass_of_methodNamed B.named
  have hlocks := B.notSynchronized
  have hS : va_S (fun q : Nat => gB G ≤ q) s.heap s.heap [] := va_S.rf
  have hl := lv_entry ([.ref (gT G i)]) (n := 1) (Nat.le_of_ble_eq_true rfl)
  rw [lg_entry_eq]
  generalize (lg_sl ([.ref (gT G i)]) ++ List.replicate (1 - (lg_sl ([.ref (gT G i)])).length) Slot.unset).toArray = ls at hl ⊢
  have hl : lv_has ls 1 [(0, .ref (gT G i))] := hl
  obtain ⟨⟨adV, hE, -⟩, -, hC, -⟩ := id hO
  refine lv_aload_n hx hb dj_len_0 rfl (lv_at hl 0 rfl) ?_
  refine vk_getf hx hb (hE i hi).2.2.1 hS hown (hts _ (List.mem_cons_of_mem _ (tt_at jw_1.2.2.1 rfl))) (fun _ h => h) dj_len_1 ?_
  have hT := (hE i hi).2.2.2
  rw [slen_eq] at hT
  refine va_tlen hx hb hT hS (v := Int32.ofInt (slen i)) rfl dj_len_4 ?_
  refine lv_aload_n hx hb dj_len_5 rfl (lv_at hl 0 rfl) ?_
  refine W.callV (W.runV (Ts := wJ yJ0_length_8abf5 cJ0_length_8abf5 1 (some .int)) (As := []) (rest := [.int (Int32.ofInt (slen i))]) ⟨hx, hb, hml, hown, hts⟩ (c_coder l G i hi) (cwV 0 hts (gi (fun w hw => by
    rcases List.mem_append.mp hw with hw | hw
    · rcases List.mem_cons.mp hw with rfl | hw
      · exact tt_at jw_2.1 rfl
      rcases List.mem_cons.mp hw with rfl | hw
      · exact tt_at jw_2.2.1 rfl
      rcases List.mem_cons.mp hw with rfl | hw
      · exact tt_at jw_2.2.2.1 rfl
      rcases List.mem_cons.mp hw with rfl | hw
      · exact tt_at jw_2.2.2.2 rfl
      · cases hw
    · exact wJ_tt jc_1 w hw) (fun w hw => List.mem_cons_of_mem _ hw)) rfl rfl rfl (by decide +kernel) ⟨Nat.le_of_ble_eq_true rfl, Nat.le_of_ble_eq_true rfl⟩) ⟨PcS.blind, str_recv hi hO hS, fun U hU hW => PcS.at hK hO hU hW⟩ rfl rfl hl.1 rfl (by show 2 * 0 + 1 ≤ 8; decide) dj_len_6 ⟨Nat.zero_le _, Nat.zero_le _⟩) ?_
  refine lv_ishr hx hb dj_len_9 ?_
  have e0 : Int32.ofInt (slen i) >>> ((0 : Int32) &&& 31) = Int32.ofInt (slen i) := by
    rw [show (0 : Int32) &&& 31 = 0 by decide]
    exact Int32.shiftRight_zero
  rw [e0]
  exact W.zret (v := Int32.ofInt (slen i)) hx hb hr rfl (fun t ht hW => ⟨rfl, ht⟩) (fun q hq => by cases hq) dj_len_10
set_option maxHeartbeats 4000000 in
set_option maxRecDepth 100000 in
theorem c_pchk (l : Launch) (G : GG) (x n : Int32) (v : Value) (h0 : ¬ x < 0) (h1 : x < n) (hv : v = .null ∨ ∃ a, v = .ref a) : Met l yJ3_checkIndex_8e157 (wJ yJ3_checkIndex_8e157 cJ3_checkIndex_8e157 3 (some .int)) { frames := 0, cells := 0, slots := 0, locals := 0 } (PcS G [.int x, .int n, v]) (k2_QcV (.int x)) 0 0 (fun _ => False) := by
  refine Met.ofW (cc := cJ3_checkIndex_8e157) (maxL := 3) (ret := some .int) (by decide) rfl ?_
  intro p e s m args below meth c s₁ B hml hvv
  obtain ⟨rfl, hK, hO⟩ := hvv
  have hx := B.exec
  have hb := B.bytes
  have hr := B.returns
  have hlocks := B.notSynchronized
  have hc : v.category = 1 := by
    rcases hv with rfl | ⟨a, rfl⟩ <;> rfl
  have hcat : ∀ w ∈ [.int x, .int n, v], w.category = 1 := by
    intro w hw
    rcases List.mem_cons.mp hw with rfl | hw
    · rfl
    rcases List.mem_cons.mp hw with rfl | hw
    · rfl
    rcases List.mem_cons.mp hw with rfl | hw
    · exact hc
    · cases hw
  have hlen : (lg_sl ([.int x, .int n, v])).length ≤ 3 := by
    rw [lg_sl_one _ hcat]
    exact Nat.le_refl _
  have hl0 := lv_entry ([.int x, .int n, v]) (n := 3) hlen
  rw [lg_entry_eq]
  generalize (lg_sl ([.int x, .int n, v]) ++ List.replicate (3 - (lg_sl ([.int x, .int n, v])).length) Slot.unset).toArray = ls at hl0 ⊢
  have hl : lv_has ls 3 [(0, .int x), (1, .int n)] := ⟨hl0.1, hl0.2.1, fun q hq => hl0.2.2 q (by
    show q ∈ (0, Value.int x) :: (1, Value.int n) :: _
    rcases List.mem_cons.mp hq with rfl | hq
    · exact List.mem_cons_self
    rcases List.mem_cons.mp hq with rfl | hq
    · exact List.mem_cons_of_mem _ List.mem_cons_self
    · cases hq)⟩
  refine lv_iload_n hx hb dj_pc_0 rfl (lv_at hl 0 rfl) ?_
  refine lv_if_lt (tgt := 9) hx hb dj_pc_1 (by decide) (fun z => absurd z h0) (fun _ => ?_)
  refine lv_iload_n hx hb dj_pc_4 rfl (lv_at hl 0 rfl) ?_
  refine lv_iload_n hx hb dj_pc_5 rfl (lv_at hl 1 rfl) ?_
  refine lv_icmp_lt (tgt := 16) hx hb dj_pc_6 (by decide) (fun _ => ?_) (fun z => absurd h1 z)
  refine lv_iload_n hx hb dj_pc_16 rfl (lv_at hl 0 rfl) ?_
  exact W.zret (v := x) hx hb hr rfl (fun t ht hW => ⟨rfl, ht⟩) (fun q hq => by cases hq) dj_pc_17
/-- behind a call that answers nothing and leaves the heap -/
def QcN : Array Value → State → Outcome → State → Prop := fun _ st o t => o = .returned none ∧ t.heap = st.heap
set_option maxHeartbeats 4000000 in
set_option maxRecDepth 100000 in
theorem c_schk (l : Launch) (G : GG) (x n : Int32) (h0 : ¬ x < 0) (h1 : x < n) : Met l yJ0_checkIndex_df160 (wJ yJ0_checkIndex_df160 cJ0_checkIndex_df160 2 none) { frames := 1, cells := 0, slots := 0, locals := 64 } (PcS G [.int x, .int n]) QcN 0 0 (fun _ => False) := by
  refine Met.ofW (cc := cJ0_checkIndex_df160) (maxL := 2) (ret := none) (by decide) rfl ?_
  intro p e s m args below meth c s₁ B hml hv
  obtain ⟨rfl, hK, hO⟩ := hv
  have hx := B.exec
  have hb := B.bytes
  have hr := B.returns
  have hts := atoms_spec (ws := wJ yJ0_checkIndex_df160 cJ0_checkIndex_df160 2 none) B.pre
  have hown : s.vm.findClass RJ0 = some m.cls := findClass_of_methodNamed B.named
  have hlocks := B.notSynchronized
  have hS : va_S (fun q : Nat => gB G ≤ q) s.heap s.heap [] := va_S.rf
  have hl := lv_entry ([.int x, .int n]) (n := 2) (Nat.le_of_ble_eq_true rfl)
  rw [lg_entry_eq]
  generalize (lg_sl ([.int x, .int n]) ++ List.replicate (2 - (lg_sl ([.int x, .int n])).length) Slot.unset).toArray = ls at hl ⊢
  have hl : lv_has ls 2 [(0, .int x), (1, .int n)] := hl
  obtain ⟨-, -, -, hZ, -⟩ := id hO
  obtain ⟨v, hv, hZv⟩ : ∃ v : Value, (v = .null ∨ ∃ a, v = .ref a) ∧ va_Z "jdk/internal/util/Preconditions" "SIOOBE_FORMATTER" "Ljava/util/function/BiFunction;" v (fun q => gB G ≤ q) s s.heap := by
    rcases hZ with h | ⟨t, h⟩
    · exact ⟨_, Or.inl rfl, h⟩
    · exact ⟨_, Or.inr ⟨t, rfl⟩, h⟩
  refine lv_iload_n hx hb dj_sc_0 rfl (lv_at hl 0 rfl) ?_
  refine lv_iload_n hx hb dj_sc_1 rfl (lv_at hl 1 rfl) ?_
  refine va_gets hx hb hZv hS hown (hts _ (List.mem_cons_of_mem _ (tt_at jw_1.2.2.2 rfl))) (fun _ h => h) dj_sc_2 ?_
  refine W.callV (W.runS (Ts := wJ yJ0_checkIndex_df160 cJ0_checkIndex_df160 2 none) (As := [.int x, .int n, v]) (rest := []) ⟨hx, hb, hml, hown, hts⟩ (c_pchk l G x n v h0 h1 hv) (va_cwS 3 hts (gi (fun w hw => by
    rcases List.mem_append.mp hw with hw | hw
    · rcases List.mem_cons.mp hw with rfl | hw
      · exact tt_at jw_6.1 rfl
      rcases List.mem_cons.mp hw with rfl | hw
      · exact tt_at jw_6.2.1 rfl
      rcases List.mem_cons.mp hw with rfl | hw
      · exact tt_at jw_6.2.2 rfl
      · cases hw
    · exact wJ_tt jc_7 w hw) (fun w hw => List.mem_cons_of_mem _ hw)) rfl rfl rfl (by decide +kernel) ⟨Nat.le_of_ble_eq_true rfl, Nat.le_of_ble_eq_true rfl⟩) ⟨PcS.blind, fun U hU hW => PcS.at hK hO hU hW⟩ rfl rfl hl.1 rfl (by show 2 * 0 + 0 ≤ 8; decide) dj_sc_5 ⟨Nat.zero_le _, Nat.zero_le _⟩) ?_
  refine lv_pop hx hb dj_sc_8 rfl ?_
  exact W.vret hx hb hr (fun t ht hW => ⟨rfl, ht⟩) (fun q hq => by cases hq) dj_sc_9
theorem byt_at (i j : Nat) : ((litB.map (fun b => b.map Int32.ofInt)).getD i []).getD j 0 = Int32.ofInt (sch i j) := by
  unfold sch
  rw [List.getD_eq_getElem?_getD, List.getD_eq_getElem?_getD, List.getD_eq_getElem?_getD (l := litB), List.getD_eq_getElem?_getD, List.getElem?_map]
  cases litB[i]? with
  | none => rfl
  | some b =>
    show ((b.map Int32.ofInt)[j]?).getD 0 = Int32.ofInt ((b[j]?).getD 0)
    rw [List.getElem?_map]
    cases b[j]? <;> rfl
theorem sch_ok {i j : Nat} (hi : i < 24) (hj : j < slen i) : ((Int32.ofInt (sch i j) &&& 255).toUInt32 % 65536).toInt32 = Int32.ofInt (sch i j) ∧ w32 (sch i j) = sch i j ∧ narrow .char (.int (Int32.ofInt (sch i j))) = .int (Int32.ofInt (sch i j)) := by
  have : ∀ i, i < 24 → ∀ j, j < slen i → (((Int32.ofInt (sch i j) &&& 255).toUInt32 % 65536).toInt32 = Int32.ofInt (sch i j) ∧ w32 (sch i j) = sch i j ∧ narrow .char (.int (Int32.ofInt (sch i j))) = .int (Int32.ofInt (sch i j))) := by decide +kernel
  exact this i hi j hj
set_option maxHeartbeats 4000000 in
set_option maxRecDepth 100000 in
theorem c_lchar (l : Launch) (G : GG) (i : Nat) (hi : i < 24) (a : Nat) (hT : ∀ s : State, Old G s s.heap → (∃ adV, vk_S 24 (litB.map List.length) (litB.map (fun b => b.map Int32.ofInt)) (gT G) adV (fun q => gB G ≤ q) s s.heap ∧ adV i = a) → True) (x : Int) (h0 : 0 ≤ x) (h1 : x < slen i) :
    Met l yJ1_charAt_3b067 (wJ yJ1_charAt_3b067 cJ1_charAt_3b067 2 (some .char)) { frames := 2, cells := 0, slots := 0, locals := 128 } (va_Pc [.ref a, .int (Int32.ofInt x)] (fun U => KK G U ∧ Old G U U.heap ∧ va_T .byte a (slen i) (fun j => .int (Int32.ofInt (sch i j))) (fun q => gB G ≤ q) U U.heap)) (k2_QcV (.int (Int32.ofInt (sch i x.toNat)))) 0 0 (fun _ => False) := by
  refine Met.ofW (cc := cJ1_charAt_3b067) (maxL := 2) (ret := some .char) (by decide) rfl ?_
  intro p e s m args below meth c s₁ B hml hv
  obtain ⟨rfl, hK, hO, hTb⟩ := hv
  have hx := B.exec
  have hb := B.bytes
  have hr := B.returns
  have hts := atoms_spec (ws := wJ yJ1_charAt_3b067 cJ1_charAt_3b067 2 (some .char)) B.pre
  have hown : s.vm.findClass RJ1 = some m.cls := findClass_of_methodNamed B.named
  have hlocks := B.notSynchronized
  have hS : va_S (fun q : Nat => gB G ≤ q) s.heap s.heap [] := va_S.rf
  have hl := lv_entry ([.ref a, .int (Int32.ofInt x)]) (n := 2) (Nat.le_of_ble_eq_true rfl)
  rw [lg_entry_eq]
  generalize (lg_sl ([.ref a, .int (Int32.ofInt x)]) ++ List.replicate (2 - (lg_sl ([.ref a, .int (Int32.ofInt x)])).length) Slot.unset).toArray = ls at hl ⊢
  have hl : lv_has ls 2 [(0, .ref a), (1, .int (Int32.ofInt x))] := hl
  have hsl := slen_lt hi
  have hcx : w32 x = x := w32_id (by omega) (by omega)
  have hcn : w32 (slen i : Int) = (slen i : Int) := w32_id (by omega) (by omega)
  refine lv_iload_n hx hb dj_lc_0 rfl (lv_at hl 1 rfl) ?_
  refine lv_aload_n hx hb dj_lc_1 rfl (lv_at hl 0 rfl) ?_
  refine va_tlen hx hb hTb hS (v := Int32.ofInt (slen i)) rfl dj_lc_2 ?_
  refine W.callX (W.runS (Ts := wJ yJ1_charAt_3b067 cJ1_charAt_3b067 2 (some .char)) (As := [.int (Int32.ofInt x), .int (Int32.ofInt (slen i))]) (rest := []) ⟨hx, hb, hml, hown, hts⟩ (c_schk l G _ _ (fun z => by have := (cn_lt hcx cn_0).mp z; omega) ((cn_lt hcx hcn).mpr h1)) (va_cwS 2 hts (gi (fun w hw => by
    rcases List.mem_append.mp hw with hw | hw
    · rcases List.mem_cons.mp hw with rfl | hw
      · exact tt_at jw_5.1 rfl
      rcases List.mem_cons.mp hw with rfl | hw
      · exact tt_at jw_5.2 rfl
      rcases List.mem_cons.mp hw with rfl | hw
      · exact tt_at jw_2.2.2.2 rfl
      · cases hw
    · exact wJ_tt jc_6 w hw) (fun w hw => List.mem_cons_of_mem _ hw)) rfl rfl rfl (by decide +kernel) ⟨Nat.le_of_ble_eq_true rfl, Nat.le_of_ble_eq_true rfl⟩) ⟨PcS.blind, fun U hU hW => PcS.at hK hO hU hW⟩ rfl rfl hl.1 rfl (by show 2 * 0 + 0 ≤ 8; decide) dj_lc_3 ⟨Nat.zero_le _, Nat.zero_le _⟩) (fun _ h => h.elim) (fun v st₀ t he hq => ?_)
  obtain ⟨hq1, hq2⟩ := hq
  cases hq1
  rw [hq2, he]
  show W p l e _ s m _ below meth c s.heap [] 0 0 _ (F0 m 6 ls [])
  refine lv_aload_n hx hb dj_lc_6 rfl (lv_at hl 0 rfl) ?_
  refine lv_iload_n hx hb dj_lc_7 rfl (lv_at hl 1 rfl) ?_
  refine va_tb hx hb hTb hS (i := Int32.ofInt x) (v := .int (Int32.ofInt (sch i x.toNat))) (cn_in hcx h0 h1) (by show Value.int (Int32.ofInt (sch i (Int32.ofInt x).toNatClampNeg)) = _; rw [cn_nat hcx]) dj_lc_8 ?_
  refine lv_sipush (v := 255) hx hb dj_lc_9 (by decide) ?_
  refine lv_iand hx hb dj_lc_12 ?_
  obtain ⟨g1, g2, g3⟩ := sch_ok hi (show x.toNat < slen i by omega)
  refine lv_i2c hx hb dj_lc_13 g1 ?_
  exact W.zret (v := Int32.ofInt (sch i x.toNat)) hx hb hr g3 (fun t ht hW => ⟨rfl, ht⟩) (fun q hq => by cases hq) dj_lc_14
set_option maxHeartbeats 4000000 in
set_option maxRecDepth 100000 in
theorem c_char (l : Launch) (G : GG) (i : Nat) (hi : i < 24) (x : Int) (h0 : 0 ≤ x) (h1 : x < slen i) : Met l yJ0_charAt_5068e (wJ yJ0_charAt_5068e cJ0_charAt_5068e 2 (some .char)) { frames := 3, cells := 0, slots := 0, locals := 192 } (PcS G [.ref (gT G i), .int (Int32.ofInt x)]) (k2_QcV (.int (Int32.ofInt (sch i x.toNat)))) 0 0 (fun _ => False) := by
  refine Met.ofW (cc := cJ0_charAt_5068e) (maxL := 2) (ret := some .char) (by decide) rfl ?_
  intro p e s m args below meth c s₁ B hml hv
  obtain ⟨rfl, hK, hO⟩ := hv
  have hx := B.exec
  have hb := B.bytes
  have hr := B.returns
  have hts := atoms_spec (ws := wJ yJ0_charAt_5068e cJ0_charAt_5068e 2 (some .char)) B.pre
  have hown : s.vm.findClass RJ0 = some m.cls := findClass_of_methodNamed B.named
  have hlocks := B.notSynchronized
  have hS : va_S (fun q : Nat => gB G ≤ q) s.heap s.heap [] := va_S.rf
  have hl := lv_entry ([.ref (gT G i), .int (Int32.ofInt x)]) (n := 2) (Nat.le_of_ble_eq_true rfl)
  rw [lg_entry_eq]
  generalize (lg_sl ([.ref (gT G i), .int (Int32.ofInt x)]) ++ List.replicate (2 - (lg_sl ([.ref (gT G i), .int (Int32.ofInt x)])).length) Slot.unset).toArray = ls at hl ⊢
  have hl : lv_has ls 2 [(0, .ref (gT G i)), (1, .int (Int32.ofInt x))] := hl
  obtain ⟨⟨adV, hE, -⟩, -, hC, -⟩ := id hO
  refine lv_aload_n hx hb dj_ca_0 rfl (lv_at hl 0 rfl) ?_
  refine W.callV (W.runV (Ts := wJ yJ0_charAt_5068e cJ0_charAt_5068e 2 (some .char)) (As := []) (rest := []) ⟨hx, hb, hml, hown, hts⟩ (c_isLat l G i hi) (cwV 0 hts (gi (fun w hw => by
    rcases List.mem_append.mp hw with hw | hw
    · rcases List.mem_cons.mp hw with rfl | hw
      · exact tt_at jw_3.1 rfl
      rcases List.mem_cons.mp hw with rfl | hw
      · exact tt_at jw_3.2.1 rfl
      rcases List.mem_cons.mp hw with rfl | hw
      · exact tt_at jw_3.2.2 rfl
      rcases List.mem_cons.mp hw with rfl | hw
      · exact tt_at jw_2.2.2.2 rfl
      · cases hw
    · exact wJ_tt jc_4 w hw) (fun w hw => List.mem_cons_of_mem _ hw)) rfl rfl rfl (by decide +kernel) ⟨Nat.le_of_ble_eq_true rfl, Nat.le_of_ble_eq_true rfl⟩) ⟨PcS.blind, str_recv hi hO hS, fun U hU hW => PcS.at hK hO hU hW⟩ rfl rfl hl.1 rfl (by show 2 * 0 + 0 ≤ 8; decide) dj_ca_1 ⟨Nat.zero_le _, Nat.zero_le _⟩) ?_
  show W p l e _ s m _ below meth c s.heap [] 0 0 _ (F0 m 4 ls [.int 1])
  refine lv_if_eq (tgt := 16) hx hb dj_ca_4 (by decide) (fun z => absurd z (by decide)) (fun _ => ?_)
  refine lv_aload_n hx hb dj_ca_7 rfl (lv_at hl 0 rfl) ?_
  refine vk_getf hx hb (hE i hi).2.2.1 hS hown (hts _ (List.mem_cons_of_mem _ (tt_at jw_1.2.2.1 rfl))) (fun _ h => h) dj_ca_8 ?_
  refine lv_iload_n hx hb dj_ca_11 rfl (lv_at hl 1 rfl) ?_
  have hT := (hE i hi).2.2.2
  rw [slen_eq] at hT
  have hT2 : va_T .byte (adV i) (slen i) (fun j => .int (Int32.ofInt (sch i j))) (fun q => gB G ≤ q) s s.heap := by
    have : (fun j => Value.int (((litB.map (fun b => b.map Int32.ofInt)).getD i []).getD j 0)) = fun j => Value.int (Int32.ofInt (sch i j)) := funext fun j => by rw [byt_at]
    rw [← this]
    exact hT
  refine W.callV (W.runS (Ts := wJ yJ0_charAt_5068e cJ0_charAt_5068e 2 (some .char)) (As := [.ref (adV i), .int (Int32.ofInt x)]) (rest := []) ⟨hx, hb, hml, hown, hts⟩ (c_lchar l G i hi (adV i) (fun _ _ _ => trivial) x h0 h1) (va_cwS 2 hts (gi (fun w hw => by
    rcases List.mem_append.mp hw with hw | hw
    · rcases List.mem_cons.mp hw with rfl | hw
      · exact tt_at jw_4.1 rfl
      rcases List.mem_cons.mp hw with rfl | hw
      · exact tt_at jw_4.2.1 rfl
      rcases List.mem_cons.mp hw with rfl | hw
      · exact tt_at jw_4.2.2 rfl
      · cases hw
    · exact wJ_tt jc_5 w hw) (fun w hw => List.mem_cons_of_mem _ hw)) rfl rfl rfl (by decide +kernel) ⟨Nat.le_of_ble_eq_true rfl, Nat.le_of_ble_eq_true rfl⟩) ⟨fun a U g mk h => ⟨h.1, KK.same (s := U) (U := U.calling g mk a) rfl h.2.1, Old.moved (U := U.calling g mk a) (Vm.Alike.refl U.vm) h.2.2.1, va_T.moved (U := U.calling g mk a) (Vm.Alike.refl U.vm) h.2.2.2⟩, fun U hU hW => ⟨rfl, hK.warm hW, by rw [hU]; exact hO.moved hW.alike, by rw [hU]; exact hT2.moved hW.alike⟩⟩ rfl rfl hl.1 rfl (by show 2 * 0 + 0 ≤ 8; decide) dj_ca_12 ⟨Nat.zero_le _, Nat.zero_le _⟩) ?_
  exact W.zret (v := Int32.ofInt (sch i x.toNat)) hx hb hr (sch_ok hi (show x.toNat < slen i by omega)).2.2 (fun t ht hW => ⟨rfl, ht⟩) (fun q hq => by cases hq) dj_ca_15
