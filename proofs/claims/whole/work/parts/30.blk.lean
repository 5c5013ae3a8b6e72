/-! block equations (printed by wip/whole/genblk.py) -/
/-! m_aDay -/
theorem cc_192 : cod 192 = cX12_aDay := rfl
theorem D192_0 : decode (cod 192) 0 = .ok (.aload_n 0, 1) := by rw [cc_192]; decide +kernel
theorem D192_1 : decode (cod 192) 1 = .ok (.iconst 2, 1) := by rw [cc_192]; decide +kernel
theorem D192_2 : decode (cod 192) 2 = .ok (.invokevirtual 432, 3) := by rw [cc_192]; decide +kernel
theorem D192_5 : decode (cod 192) 5 = .ok (.istore_n 1, 1) := by rw [cc_192]; decide +kernel
theorem D192_6 : decode (cod 192) 6 = .ok (.iconst 0, 1) := by rw [cc_192]; decide +kernel
theorem D192_7 : decode (cod 192) 7 = .ok (.istore_n 2, 1) := by rw [cc_192]; decide +kernel
theorem D192_8 : decode (cod 192) 8 = .ok (.iload_n 2, 1) := by rw [cc_192]; decide +kernel
theorem D192_9 : decode (cod 192) 9 = .ok (.bipush 16, 2) := by rw [cc_192]; decide +kernel
theorem D192_11 : decode (cod 192) 11 = .ok (.if_icmp .ge 36, 3) := by rw [cc_192]; decide +kernel
theorem D192_14 : decode (cod 192) 14 = .ok (.aload_n 0, 1) := by rw [cc_192]; decide +kernel
theorem D192_15 : decode (cod 192) 15 = .ok (.getfield 99, 3) := by rw [cc_192]; decide +kernel
theorem D192_18 : decode (cod 192) 18 = .ok (.iload_n 2, 1) := by rw [cc_192]; decide +kernel
theorem D192_19 : decode (cod 192) 19 = .ok (.dup2, 1) := by rw [cc_192]; decide +kernel
theorem D192_20 : decode (cod 192) 20 = .ok (.iaload, 1) := by rw [cc_192]; decide +kernel
theorem D192_21 : decode (cod 192) 21 = .ok (.aload_n 0, 1) := by rw [cc_192]; decide +kernel
theorem D192_22 : decode (cod 192) 22 = .ok (.getfield 102, 3) := by rw [cc_192]; decide +kernel
theorem D192_25 : decode (cod 192) 25 = .ok (.iload_n 2, 1) := by rw [cc_192]; decide +kernel
theorem D192_26 : decode (cod 192) 26 = .ok (.iaload, 1) := by rw [cc_192]; decide +kernel
theorem D192_27 : decode (cod 192) 27 = .ok (.aload_n 0, 1) := by rw [cc_192]; decide +kernel
theorem D192_28 : decode (cod 192) 28 = .ok (.getfield 99, 3) := by rw [cc_192]; decide +kernel
theorem D192_31 : decode (cod 192) 31 = .ok (.iload_n 2, 1) := by rw [cc_192]; decide +kernel
theorem D192_32 : decode (cod 192) 32 = .ok (.iaload, 1) := by rw [cc_192]; decide +kernel
theorem D192_33 : decode (cod 192) 33 = .ok (.isub, 1) := by rw [cc_192]; decide +kernel
theorem D192_34 : decode (cod 192) 34 = .ok (.iload_n 1, 1) := by rw [cc_192]; decide +kernel
theorem D192_35 : decode (cod 192) 35 = .ok (.imul, 1) := by rw [cc_192]; decide +kernel
theorem D192_36 : decode (cod 192) 36 = .ok (.bipush 100, 2) := by rw [cc_192]; decide +kernel
theorem D192_38 : decode (cod 192) 38 = .ok (.idiv, 1) := by rw [cc_192]; decide +kernel
theorem D192_39 : decode (cod 192) 39 = .ok (.iadd, 1) := by rw [cc_192]; decide +kernel
theorem D192_40 : decode (cod 192) 40 = .ok (.iastore, 1) := by rw [cc_192]; decide +kernel
theorem D192_41 : decode (cod 192) 41 = .ok (.iinc 2 1, 3) := by rw [cc_192]; decide +kernel
theorem D192_44 : decode (cod 192) 44 = .ok (.goto (-36), 3) := by rw [cc_192]; decide +kernel
theorem D192_47 : decode (cod 192) 47 = .ok (.aload_n 0, 1) := by rw [cc_192]; decide +kernel
theorem D192_48 : decode (cod 192) 48 = .ok (.getfield 96, 3) := by rw [cc_192]; decide +kernel
theorem D192_51 : decode (cod 192) 51 = .ok (.bipush 7, 2) := by rw [cc_192]; decide +kernel
theorem D192_53 : decode (cod 192) 53 = .ok (.dup2, 1) := by rw [cc_192]; decide +kernel
theorem D192_54 : decode (cod 192) 54 = .ok (.iaload, 1) := by rw [cc_192]; decide +kernel
theorem D192_55 : decode (cod 192) 55 = .ok (.iconst 1, 1) := by rw [cc_192]; decide +kernel
theorem D192_56 : decode (cod 192) 56 = .ok (.iadd, 1) := by rw [cc_192]; decide +kernel
theorem D192_57 : decode (cod 192) 57 = .ok (.iastore, 1) := by rw [cc_192]; decide +kernel
theorem D192_58 : decode (cod 192) 58 = .ok (.return_, 1) := by rw [cc_192]; decide +kernel
theorem b192_0 {d : Nat} {i0 : Nat} {u1 u2 : MV} {I L : Nat → Nat → Nat → Int} {t : Nat → Nat} : Res (d + 1) 192 0 [vr 12 i0, u1, u2] [] (mk I L t) = (Cal d 184 [vr 12 i0, vi 2] (mk I L t)).bind fun v => Res (d + 1) 192 5 [vr 12 i0, u1, u2] (psh 184 v.1 []) v.2 :=
  Eq.trans (e_aload_n D192_0 rfl rfl) <| Eq.trans (e_iconst (x := 2) D192_1 rfl rfl) <| e_callV D192_2 rfl o_192 m_12_432 (by decide) rfl rfl
theorem b192_5 {d : Nat} {i0 : Nat} {u1 u2 : MV} {xs0 : Int} {I L : Nat → Nat → Nat → Int} {t : Nat → Nat} : Res d 192 5 [vr 12 i0, u1, u2] [vi xs0] (mk I L t) = Res d 192 8 [vr 12 i0, vi xs0, vi 0] [] (mk I L t) :=
  Eq.trans (e_istore_n (ls1 := [vr 12 i0, vi xs0, u2]) D192_5 rfl (show 1 < 3 by decide) rfl) <| Eq.trans (e_iconst (x := 0) D192_6 rfl rfl) <| e_istore_n (ls1 := [vr 12 i0, vi xs0, vi 0]) D192_7 rfl (show 2 < 3 by decide) rfl
theorem b192_8 {d : Nat} {i0 : Nat} {x1 x2 : Int} {I L : Nat → Nat → Nat → Int} {t : Nat → Nat} : Res d 192 8 [vr 12 i0, vi x1, vi x2] [] (mk I L t) = if 16 ≤ x2 then Res d 192 47 [vr 12 i0, vi x1, vi x2] [] (mk I L t) else Res d 192 14 [vr 12 i0, vi x1, vi x2] [] (mk I L t) :=
  Eq.trans (e_iload_n D192_8 rfl rfl) <| Eq.trans (e_bipush (x := 16) D192_9 rfl rfl) <| e_icge D192_11 rfl rfl
theorem b192_14 {d : Nat} {i0 : Nat} {x1 x2 : Int} {I L : Nat → Nat → Nat → Int} {t : Nat → Nat} (g1 : 0 ≤ x2 ∧ x2 < 16) : Res d 192 14 [vr 12 i0, vi x1, vi x2] [] (mk I L t) = Res d 192 8 [vr 12 i0, vi x1, vi (w32 (x2 + 1))] [] (mk (up3 I 76 i0 x2.toNat (w32 ((I 76 i0 x2.toNat) + (vIdiv (w32 ((w32 ((I 77 i0 x2.toNat) - (I 76 i0 x2.toNat))) * x1)) 100)))) L t) :=
  Eq.trans (e_aload_n D192_14 rfl rfl) <| Eq.trans (e_getP (p := (76, i0)) D192_15 rfl o_192 f_12_99 (sh_12 _) (by decide) (pp_12_52 _ _)) <| Eq.trans (e_iload_n D192_18 rfl rfl) <| Eq.trans (e_dup2 D192_19 rfl) <| Eq.trans (e_iald D192_20 rfl (al_76 _) g1) <| Eq.trans (e_aload_n D192_21 rfl rfl) <| Eq.trans (e_getP (p := (77, i0)) D192_22 rfl o_192 f_12_102 (sh_12 _) (by decide) (pp_12_53 _ _)) <| Eq.trans (e_iload_n D192_25 rfl rfl) <| Eq.trans (e_iald D192_26 rfl (al_77 _) g1) <| Eq.trans (e_aload_n D192_27 rfl rfl) <| Eq.trans (e_getP (p := (76, i0)) D192_28 rfl o_192 f_12_99 (sh_12 _) (by decide) (pp_12_52 _ _)) <| Eq.trans (e_iload_n D192_31 rfl rfl) <| Eq.trans (e_iald D192_32 rfl (al_76 _) g1) <| Eq.trans (e_isub D192_33 rfl) <| Eq.trans (e_iload_n D192_34 rfl rfl) <| Eq.trans (e_imul D192_35 rfl) <| Eq.trans (e_bipush (x := 100) D192_36 rfl rfl) <| Eq.trans (e_idiv D192_38 rfl (by decide)) <| Eq.trans (e_iadd D192_39 rfl) <| Eq.trans (e_iast D192_40 rfl (al_76 _) rfl g1) <| Eq.trans (e_iinc (ls1 := [vr 12 i0, vi x1, vi (w32 (x2 + 1))]) D192_41 rfl rfl rfl) <| e_goto (q1 := 8) D192_44 rfl
theorem b192_47 {d : Nat} {i0 : Nat} {x1 x2 : Int} {I L : Nat → Nat → Nat → Int} {t : Nat → Nat} : Res d 192 47 [vr 12 i0, vi x1, vi x2] [] (mk I L t) = some (vx, (mk (up3 I 75 i0 7 (w32 ((I 75 i0 7) + 1))) L t)) :=
  Eq.trans (e_aload_n D192_47 rfl rfl) <| Eq.trans (e_getP (p := (75, i0)) D192_48 rfl o_192 f_12_96 (sh_12 _) (by decide) (pp_12_51 _ _)) <| Eq.trans (e_bipush (x := 7) D192_51 rfl rfl) <| Eq.trans (e_dup2 D192_53 rfl) <| Eq.trans (e_iald D192_54 rfl (al_75 _) (by decide)) <| Eq.trans (e_iconst (x := 1) D192_55 rfl rfl) <| Eq.trans (e_iadd D192_56 rfl) <| Eq.trans (e_iast D192_57 rfl (al_75 _) rfl (by decide)) <| e_vret D192_58 rfl
/-! m_isIn -/
theorem cc_146 : cod 146 = cX12_isIn := rfl
theorem D146_0 : decode (cod 146) 0 = .ok (.iload_n 0, 1) := by rw [cc_146]; decide +kernel
theorem D146_1 : decode (cod 146) 1 = .ok (.iload_n 1, 1) := by rw [cc_146]; decide +kernel
theorem D146_2 : decode (cod 146) 2 = .ok (.if_icmp .lt 12, 3) := by rw [cc_146]; decide +kernel
theorem D146_5 : decode (cod 146) 5 = .ok (.iload_n 0, 1) := by rw [cc_146]; decide +kernel
theorem D146_6 : decode (cod 146) 6 = .ok (.iload_n 2, 1) := by rw [cc_146]; decide +kernel
theorem D146_7 : decode (cod 146) 7 = .ok (.if_icmp .gt 7, 3) := by rw [cc_146]; decide +kernel
theorem D146_10 : decode (cod 146) 10 = .ok (.iconst 1, 1) := by rw [cc_146]; decide +kernel
theorem D146_11 : decode (cod 146) 11 = .ok (.goto 4, 3) := by rw [cc_146]; decide +kernel
theorem D146_14 : decode (cod 146) 14 = .ok (.iconst 0, 1) := by rw [cc_146]; decide +kernel
theorem D146_15 : decode (cod 146) 15 = .ok (.ireturn, 1) := by rw [cc_146]; decide +kernel
theorem b146_0 {d : Nat} {x0 x1 x2 : Int} {I L : Nat → Nat → Nat → Int} {t : Nat → Nat} : Res d 146 0 [vi x0, vi x1, vi x2] [] (mk I L t) = if x0 < x1 then Res d 146 14 [vi x0, vi x1, vi x2] [] (mk I L t) else Res d 146 5 [vi x0, vi x1, vi x2] [] (mk I L t) :=
  Eq.trans (e_iload_n D146_0 rfl rfl) <| Eq.trans (e_iload_n D146_1 rfl rfl) <| e_iclt D146_2 rfl rfl
theorem b146_5 {d : Nat} {x0 x1 x2 : Int} {I L : Nat → Nat → Nat → Int} {t : Nat → Nat} : Res d 146 5 [vi x0, vi x1, vi x2] [] (mk I L t) = if x2 < x0 then Res d 146 14 [vi x0, vi x1, vi x2] [] (mk I L t) else Res d 146 10 [vi x0, vi x1, vi x2] [] (mk I L t) :=
  Eq.trans (e_iload_n D146_5 rfl rfl) <| Eq.trans (e_iload_n D146_6 rfl rfl) <| e_icgt D146_7 rfl rfl
theorem b146_10 {d : Nat} {x0 x1 x2 : Int} {I L : Nat → Nat → Nat → Int} {t : Nat → Nat} : Res d 146 10 [vi x0, vi x1, vi x2] [] (mk I L t) = Res d 146 15 [vi x0, vi x1, vi x2] [vi 1] (mk I L t) :=
  Eq.trans (e_iconst (x := 1) D146_10 rfl rfl) <| e_goto (q1 := 15) D146_11 rfl
theorem b146_14 {d : Nat} {x0 x1 x2 : Int} {I L : Nat → Nat → Nat → Int} {t : Nat → Nat} : Res d 146 14 [vi x0, vi x1, vi x2] [] (mk I L t) = Res d 146 15 [vi x0, vi x1, vi x2] [vi 0] (mk I L t) :=
  e_iconst (x := 0) D146_14 rfl rfl
theorem b146_15 {d : Nat} {x0 x1 x2 xs0 : Int} {I L : Nat → Nat → Nat → Int} {t : Nat → Nat} (g1 : xs0 = 0 ∨ xs0 = 1) : Res d 146 15 [vi x0, vi x1, vi x2] [vi xs0] (mk I L t) = some (vi xs0, (mk I L t)) :=
  e_iret D146_15 (nrz rfl g1)
/-! m_cut -/
theorem cc_182 : cod 182 = cX12_cut := rfl
theorem D182_0 : decode (cod 182) 0 = .ok (.iload_n 0, 1) := by rw [cc_182]; decide +kernel
theorem D182_1 : decode (cod 182) 1 = .ok (.iload_n 1, 1) := by rw [cc_182]; decide +kernel
theorem D182_2 : decode (cod 182) 2 = .ok (.if_icmp .ge 7, 3) := by rw [cc_182]; decide +kernel
theorem D182_5 : decode (cod 182) 5 = .ok (.iload_n 1, 1) := by rw [cc_182]; decide +kernel
theorem D182_6 : decode (cod 182) 6 = .ok (.goto 13, 3) := by rw [cc_182]; decide +kernel
theorem D182_9 : decode (cod 182) 9 = .ok (.iload_n 0, 1) := by rw [cc_182]; decide +kernel
theorem D182_10 : decode (cod 182) 10 = .ok (.iload_n 2, 1) := by rw [cc_182]; decide +kernel
theorem D182_11 : decode (cod 182) 11 = .ok (.if_icmp .le 7, 3) := by rw [cc_182]; decide +kernel
theorem D182_14 : decode (cod 182) 14 = .ok (.iload_n 2, 1) := by rw [cc_182]; decide +kernel
theorem D182_15 : decode (cod 182) 15 = .ok (.goto 4, 3) := by rw [cc_182]; decide +kernel
theorem D182_18 : decode (cod 182) 18 = .ok (.iload_n 0, 1) := by rw [cc_182]; decide +kernel
theorem D182_19 : decode (cod 182) 19 = .ok (.ireturn, 1) := by rw [cc_182]; decide +kernel
theorem b182_0 {d : Nat} {x0 x1 x2 : Int} {I L : Nat → Nat → Nat → Int} {t : Nat → Nat} : Res d 182 0 [vi x0, vi x1, vi x2] [] (mk I L t) = if x1 ≤ x0 then Res d 182 9 [vi x0, vi x1, vi x2] [] (mk I L t) else Res d 182 5 [vi x0, vi x1, vi x2] [] (mk I L t) :=
  Eq.trans (e_iload_n D182_0 rfl rfl) <| Eq.trans (e_iload_n D182_1 rfl rfl) <| e_icge D182_2 rfl rfl
theorem b182_5 {d : Nat} {x0 x1 x2 : Int} {I L : Nat → Nat → Nat → Int} {t : Nat → Nat} : Res d 182 5 [vi x0, vi x1, vi x2] [] (mk I L t) = Res d 182 19 [vi x0, vi x1, vi x2] [vi x1] (mk I L t) :=
  Eq.trans (e_iload_n D182_5 rfl rfl) <| e_goto (q1 := 19) D182_6 rfl
theorem b182_9 {d : Nat} {x0 x1 x2 : Int} {I L : Nat → Nat → Nat → Int} {t : Nat → Nat} : Res d 182 9 [vi x0, vi x1, vi x2] [] (mk I L t) = if x0 ≤ x2 then Res d 182 18 [vi x0, vi x1, vi x2] [] (mk I L t) else Res d 182 14 [vi x0, vi x1, vi x2] [] (mk I L t) :=
  Eq.trans (e_iload_n D182_9 rfl rfl) <| Eq.trans (e_iload_n D182_10 rfl rfl) <| e_icle D182_11 rfl rfl
theorem b182_14 {d : Nat} {x0 x1 x2 : Int} {I L : Nat → Nat → Nat → Int} {t : Nat → Nat} : Res d 182 14 [vi x0, vi x1, vi x2] [] (mk I L t) = Res d 182 19 [vi x0, vi x1, vi x2] [vi x2] (mk I L t) :=
  Eq.trans (e_iload_n D182_14 rfl rfl) <| e_goto (q1 := 19) D182_15 rfl
theorem b182_18 {d : Nat} {x0 x1 x2 : Int} {I L : Nat → Nat → Nat → Int} {t : Nat → Nat} : Res d 182 18 [vi x0, vi x1, vi x2] [] (mk I L t) = Res d 182 19 [vi x0, vi x1, vi x2] [vi x0] (mk I L t) :=
  e_iload_n D182_18 rfl rfl
theorem b182_19 {d : Nat} {x0 x1 x2 xs0 : Int} {I L : Nat → Nat → Nat → Int} {t : Nat → Nat} : Res d 182 19 [vi x0, vi x1, vi x2] [vi xs0] (mk I L t) = some (vi xs0, (mk I L t)) :=
  e_iret D182_19 rfl
/-! m_number -/
theorem cc_152 : cod 152 = cX12_number := rfl
theorem D152_0 : decode (cod 152) 0 = .ok (.aload_n 0, 1) := by rw [cc_152]; decide +kernel
theorem D152_1 : decode (cod 152) 1 = .ok (.iload_n 1, 1) := by rw [cc_152]; decide +kernel
theorem D152_2 : decode (cod 152) 2 = .ok (.invokevirtual 230, 3) := by rw [cc_152]; decide +kernel
theorem D152_5 : decode (cod 152) 5 = .ok (.ifCond .eq 13, 3) := by rw [cc_152]; decide +kernel
theorem D152_8 : decode (cod 152) 8 = .ok (.iload_n 2, 1) := by rw [cc_152]; decide +kernel
theorem D152_9 : decode (cod 152) 9 = .ok (.iconst 0, 1) := by rw [cc_152]; decide +kernel
theorem D152_10 : decode (cod 152) 10 = .ok (.bipush 17, 2) := by rw [cc_152]; decide +kernel
theorem D152_12 : decode (cod 152) 12 = .ok (.invokestatic 219, 3) := by rw [cc_152]; decide +kernel
theorem D152_15 : decode (cod 152) 15 = .ok (.ifCond .ne 5, 3) := by rw [cc_152]; decide +kernel
theorem D152_18 : decode (cod 152) 18 = .ok (.iconst (-1), 1) := by rw [cc_152]; decide +kernel
theorem D152_19 : decode (cod 152) 19 = .ok (.ireturn, 1) := by rw [cc_152]; decide +kernel
theorem D152_20 : decode (cod 152) 20 = .ok (.iload_n 2, 1) := by rw [cc_152]; decide +kernel
theorem D152_21 : decode (cod 152) 21 = .ok (.bipush 16, 2) := by rw [cc_152]; decide +kernel
theorem D152_23 : decode (cod 152) 23 = .ok (.if_icmp .ge 17, 3) := by rw [cc_152]; decide +kernel
theorem D152_26 : decode (cod 152) 26 = .ok (.aload_n 0, 1) := by rw [cc_152]; decide +kernel
theorem D152_27 : decode (cod 152) 27 = .ok (.getfield 7, 3) := by rw [cc_152]; decide +kernel
theorem D152_30 : decode (cod 152) 30 = .ok (.bipush 16, 2) := by rw [cc_152]; decide +kernel
theorem D152_32 : decode (cod 152) 32 = .ok (.iload_n 1, 1) := by rw [cc_152]; decide +kernel
theorem D152_33 : decode (cod 152) 33 = .ok (.imul, 1) := by rw [cc_152]; decide +kernel
theorem D152_34 : decode (cod 152) 34 = .ok (.iload_n 2, 1) := by rw [cc_152]; decide +kernel
theorem D152_35 : decode (cod 152) 35 = .ok (.iadd, 1) := by rw [cc_152]; decide +kernel
theorem D152_36 : decode (cod 152) 36 = .ok (.iaload, 1) := by rw [cc_152]; decide +kernel
theorem D152_37 : decode (cod 152) 37 = .ok (.goto 24, 3) := by rw [cc_152]; decide +kernel
theorem D152_40 : decode (cod 152) 40 = .ok (.iload_n 2, 1) := by rw [cc_152]; decide +kernel
theorem D152_41 : decode (cod 152) 41 = .ok (.bipush 16, 2) := by rw [cc_152]; decide +kernel
theorem D152_43 : decode (cod 152) 43 = .ok (.if_icmp .ne 12, 3) := by rw [cc_152]; decide +kernel
theorem D152_46 : decode (cod 152) 46 = .ok (.aload_n 0, 1) := by rw [cc_152]; decide +kernel
theorem D152_47 : decode (cod 152) 47 = .ok (.getfield 13, 3) := by rw [cc_152]; decide +kernel
theorem D152_50 : decode (cod 152) 50 = .ok (.iload_n 1, 1) := by rw [cc_152]; decide +kernel
theorem D152_51 : decode (cod 152) 51 = .ok (.iaload, 1) := by rw [cc_152]; decide +kernel
theorem D152_52 : decode (cod 152) 52 = .ok (.goto 9, 3) := by rw [cc_152]; decide +kernel
theorem D152_55 : decode (cod 152) 55 = .ok (.aload_n 0, 1) := by rw [cc_152]; decide +kernel
theorem D152_56 : decode (cod 152) 56 = .ok (.getfield 16, 3) := by rw [cc_152]; decide +kernel
theorem D152_59 : decode (cod 152) 59 = .ok (.iload_n 1, 1) := by rw [cc_152]; decide +kernel
theorem D152_60 : decode (cod 152) 60 = .ok (.iaload, 1) := by rw [cc_152]; decide +kernel
theorem D152_61 : decode (cod 152) 61 = .ok (.ireturn, 1) := by rw [cc_152]; decide +kernel
theorem b152_0 {d : Nat} {i0 : Nat} {x1 x2 : Int} {I L : Nat → Nat → Nat → Int} {t : Nat → Nat} : Res (d + 1) 152 0 [vr 12 i0, vi x1, vi x2] [] (mk I L t) = (Cal d 147 [vr 12 i0, vi x1] (mk I L t)).bind fun v => Res (d + 1) 152 5 [vr 12 i0, vi x1, vi x2] (psh 147 v.1 []) v.2 :=
  Eq.trans (e_aload_n D152_0 rfl rfl) <| Eq.trans (e_iload_n D152_1 rfl rfl) <| e_callV D152_2 rfl o_152 m_12_230 (by decide) rfl rfl
theorem b152_5 {d : Nat} {i0 : Nat} {x1 x2 xs0 : Int} {I L : Nat → Nat → Nat → Int} {t : Nat → Nat} : Res d 152 5 [vr 12 i0, vi x1, vi x2] [vi xs0] (mk I L t) = if xs0 = 0 then Res d 152 18 [vr 12 i0, vi x1, vi x2] [] (mk I L t) else Res d 152 8 [vr 12 i0, vi x1, vi x2] [] (mk I L t) :=
  e_ifeq D152_5 rfl rfl
theorem b152_8 {d : Nat} {i0 : Nat} {x1 x2 : Int} {I L : Nat → Nat → Nat → Int} {t : Nat → Nat} : Res (d + 1) 152 8 [vr 12 i0, vi x1, vi x2] [] (mk I L t) = (Cal d 146 [vi x2, vi 0, vi 17] (mk I L t)).bind fun v => Res (d + 1) 152 15 [vr 12 i0, vi x1, vi x2] (psh 146 v.1 []) v.2 :=
  Eq.trans (e_iload_n D152_8 rfl rfl) <| Eq.trans (e_iconst (x := 0) D152_9 rfl rfl) <| Eq.trans (e_bipush (x := 17) D152_10 rfl rfl) <| e_callS D152_12 rfl o_152 m_12_219 (by decide) rfl rfl
theorem b152_15 {d : Nat} {i0 : Nat} {x1 x2 xs0 : Int} {I L : Nat → Nat → Nat → Int} {t : Nat → Nat} : Res d 152 15 [vr 12 i0, vi x1, vi x2] [vi xs0] (mk I L t) = if ¬ xs0 = 0 then Res d 152 20 [vr 12 i0, vi x1, vi x2] [] (mk I L t) else Res d 152 18 [vr 12 i0, vi x1, vi x2] [] (mk I L t) :=
  e_ifne D152_15 rfl rfl
theorem b152_18 {d : Nat} {i0 : Nat} {x1 x2 : Int} {I L : Nat → Nat → Nat → Int} {t : Nat → Nat} : Res d 152 18 [vr 12 i0, vi x1, vi x2] [] (mk I L t) = some (vi (-1), (mk I L t)) :=
  Eq.trans (e_iconst (x := -1) D152_18 rfl rfl) <| e_iret D152_19 rfl
theorem b152_20 {d : Nat} {i0 : Nat} {x1 x2 : Int} {I L : Nat → Nat → Nat → Int} {t : Nat → Nat} : Res d 152 20 [vr 12 i0, vi x1, vi x2] [] (mk I L t) = if 16 ≤ x2 then Res d 152 40 [vr 12 i0, vi x1, vi x2] [] (mk I L t) else Res d 152 26 [vr 12 i0, vi x1, vi x2] [] (mk I L t) :=
  Eq.trans (e_iload_n D152_20 rfl rfl) <| Eq.trans (e_bipush (x := 16) D152_21 rfl rfl) <| e_icge D152_23 rfl rfl
theorem b152_26 {d : Nat} {i0 : Nat} {x1 x2 : Int} {I L : Nat → Nat → Nat → Int} {t : Nat → Nat} (g1 : 0 ≤ w32 ((w32 (16 * x1)) + x2) ∧ w32 ((w32 (16 * x1)) + x2) < 2112) : Res d 152 26 [vr 12 i0, vi x1, vi x2] [] (mk I L t) = Res d 152 61 [vr 12 i0, vi x1, vi x2] [vi (I 48 i0 (w32 ((w32 (16 * x1)) + x2)).toNat)] (mk I L t) :=
  Eq.trans (e_aload_n D152_26 rfl rfl) <| Eq.trans (e_getP (p := (48, i0)) D152_27 rfl o_152 f_12_7 (sh_12 _) (by decide) (pp_12_5 _ _)) <| Eq.trans (e_bipush (x := 16) D152_30 rfl rfl) <| Eq.trans (e_iload_n D152_32 rfl rfl) <| Eq.trans (e_imul D152_33 rfl) <| Eq.trans (e_iload_n D152_34 rfl rfl) <| Eq.trans (e_iadd D152_35 rfl) <| Eq.trans (e_iald D152_36 rfl (al_48 _) g1) <| e_goto (q1 := 61) D152_37 rfl
theorem b152_40 {d : Nat} {i0 : Nat} {x1 x2 : Int} {I L : Nat → Nat → Nat → Int} {t : Nat → Nat} : Res d 152 40 [vr 12 i0, vi x1, vi x2] [] (mk I L t) = if ¬ x2 = 16 then Res d 152 55 [vr 12 i0, vi x1, vi x2] [] (mk I L t) else Res d 152 46 [vr 12 i0, vi x1, vi x2] [] (mk I L t) :=
  Eq.trans (e_iload_n D152_40 rfl rfl) <| Eq.trans (e_bipush (x := 16) D152_41 rfl rfl) <| e_icne D152_43 rfl rfl
theorem b152_46 {d : Nat} {i0 : Nat} {x1 x2 : Int} {I L : Nat → Nat → Nat → Int} {t : Nat → Nat} (g1 : 0 ≤ x1 ∧ x1 < 132) : Res d 152 46 [vr 12 i0, vi x1, vi x2] [] (mk I L t) = Res d 152 61 [vr 12 i0, vi x1, vi x2] [vi (I 49 i0 x1.toNat)] (mk I L t) :=
  Eq.trans (e_aload_n D152_46 rfl rfl) <| Eq.trans (e_getP (p := (49, i0)) D152_47 rfl o_152 f_12_13 (sh_12 _) (by decide) (pp_12_6 _ _)) <| Eq.trans (e_iload_n D152_50 rfl rfl) <| Eq.trans (e_iald D152_51 rfl (al_49 _) g1) <| e_goto (q1 := 61) D152_52 rfl
theorem b152_55 {d : Nat} {i0 : Nat} {x1 x2 : Int} {I L : Nat → Nat → Nat → Int} {t : Nat → Nat} (g1 : 0 ≤ x1 ∧ x1 < 120) : Res d 152 55 [vr 12 i0, vi x1, vi x2] [] (mk I L t) = Res d 152 61 [vr 12 i0, vi x1, vi x2] [vi (I 50 i0 x1.toNat)] (mk I L t) :=
  Eq.trans (e_aload_n D152_55 rfl rfl) <| Eq.trans (e_getP (p := (50, i0)) D152_56 rfl o_152 f_12_16 (sh_12 _) (by decide) (pp_12_7 _ _)) <| Eq.trans (e_iload_n D152_59 rfl rfl) <| e_iald D152_60 rfl (al_50 _) g1
theorem b152_61 {d : Nat} {i0 : Nat} {x1 x2 xs0 : Int} {I L : Nat → Nat → Nat → Int} {t : Nat → Nat} : Res d 152 61 [vr 12 i0, vi x1, vi x2] [vi xs0] (mk I L t) = some (vi xs0, (mk I L t)) :=
  e_iret D152_61 rfl
/-! m_asks -/
theorem cc_184 : cod 184 = cX12_asks := rfl
theorem D184_0 : decode (cod 184) 0 = .ok (.aload_n 0, 1) := by rw [cc_184]; decide +kernel
theorem D184_1 : decode (cod 184) 1 = .ok (.getfield 37, 3) := by rw [cc_184]; decide +kernel
theorem D184_4 : decode (cod 184) 4 = .ok (.bipush 8, 2) := by rw [cc_184]; decide +kernel
theorem D184_6 : decode (cod 184) 6 = .ok (.aload_n 0, 1) := by rw [cc_184]; decide +kernel
theorem D184_7 : decode (cod 184) 7 = .ok (.getfield 409, 3) := by rw [cc_184]; decide +kernel
theorem D184_10 : decode (cod 184) 10 = .ok (.imul, 1) := by rw [cc_184]; decide +kernel
theorem D184_11 : decode (cod 184) 11 = .ok (.iload_n 1, 1) := by rw [cc_184]; decide +kernel
theorem D184_12 : decode (cod 184) 12 = .ok (.iadd, 1) := by rw [cc_184]; decide +kernel
theorem D184_13 : decode (cod 184) 13 = .ok (.iaload, 1) := by rw [cc_184]; decide +kernel
theorem D184_14 : decode (cod 184) 14 = .ok (.ifCond .le 7, 3) := by rw [cc_184]; decide +kernel
theorem D184_17 : decode (cod 184) 17 = .ok (.iconst 1, 1) := by rw [cc_184]; decide +kernel
theorem D184_18 : decode (cod 184) 18 = .ok (.goto 4, 3) := by rw [cc_184]; decide +kernel
theorem D184_21 : decode (cod 184) 21 = .ok (.iconst 0, 1) := by rw [cc_184]; decide +kernel
theorem D184_22 : decode (cod 184) 22 = .ok (.istore_n 2, 1) := by rw [cc_184]; decide +kernel
theorem D184_23 : decode (cod 184) 23 = .ok (.iload_n 1, 1) := by rw [cc_184]; decide +kernel
theorem D184_24 : decode (cod 184) 24 = .ok (.tableswitch 147 0 7 #[48, 127, 147, 147, 83, 105, 147, 127], 48) := by rw [cc_184]; decide +kernel
theorem D184_72 : decode (cod 184) 72 = .ok (.iload_n 2, 1) := by rw [cc_184]; decide +kernel
theorem D184_73 : decode (cod 184) 73 = .ok (.ifCond .eq 11, 3) := by rw [cc_184]; decide +kernel
theorem D184_76 : decode (cod 184) 76 = .ok (.aload_n 0, 1) := by rw [cc_184]; decide +kernel
theorem D184_77 : decode (cod 184) 77 = .ok (.iload_n 1, 1) := by rw [cc_184]; decide +kernel
theorem D184_78 : decode (cod 184) 78 = .ok (.invokevirtual 412, 3) := by rw [cc_184]; decide +kernel
theorem D184_81 : decode (cod 184) 81 = .ok (.goto 18, 3) := by rw [cc_184]; decide +kernel
theorem D184_84 : decode (cod 184) 84 = .ok (.aload_n 0, 1) := by rw [cc_184]; decide +kernel
theorem D184_85 : decode (cod 184) 85 = .ok (.getfield 96, 3) := by rw [cc_184]; decide +kernel
theorem D184_88 : decode (cod 184) 88 = .ok (.iconst 1, 1) := by rw [cc_184]; decide +kernel
theorem D184_89 : decode (cod 184) 89 = .ok (.iaload, 1) := by rw [cc_184]; decide +kernel
theorem D184_90 : decode (cod 184) 90 = .ok (.iconst 2, 1) := by rw [cc_184]; decide +kernel
theorem D184_91 : decode (cod 184) 91 = .ok (.aload_n 0, 1) := by rw [cc_184]; decide +kernel
theorem D184_92 : decode (cod 184) 92 = .ok (.getfield 96, 3) := by rw [cc_184]; decide +kernel
theorem D184_95 : decode (cod 184) 95 = .ok (.iconst 2, 1) := by rw [cc_184]; decide +kernel
theorem D184_96 : decode (cod 184) 96 = .ok (.iaload, 1) := by rw [cc_184]; decide +kernel
theorem D184_97 : decode (cod 184) 97 = .ok (.imul, 1) := by rw [cc_184]; decide +kernel
theorem D184_98 : decode (cod 184) 98 = .ok (.iadd, 1) := by rw [cc_184]; decide +kernel
theorem D184_99 : decode (cod 184) 99 = .ok (.iconst 0, 1) := by rw [cc_184]; decide +kernel
theorem D184_100 : decode (cod 184) 100 = .ok (.sipush 9999, 3) := by rw [cc_184]; decide +kernel
theorem D184_103 : decode (cod 184) 103 = .ok (.invokestatic 415, 3) := by rw [cc_184]; decide +kernel
theorem D184_106 : decode (cod 184) 106 = .ok (.ireturn, 1) := by rw [cc_184]; decide +kernel
theorem D184_107 : decode (cod 184) 107 = .ok (.iload_n 2, 1) := by rw [cc_184]; decide +kernel
theorem D184_108 : decode (cod 184) 108 = .ok (.ifCond .eq 11, 3) := by rw [cc_184]; decide +kernel
theorem D184_111 : decode (cod 184) 111 = .ok (.aload_n 0, 1) := by rw [cc_184]; decide +kernel
theorem D184_112 : decode (cod 184) 112 = .ok (.iload_n 1, 1) := by rw [cc_184]; decide +kernel
theorem D184_113 : decode (cod 184) 113 = .ok (.invokevirtual 412, 3) := by rw [cc_184]; decide +kernel
theorem D184_116 : decode (cod 184) 116 = .ok (.goto 5, 3) := by rw [cc_184]; decide +kernel
theorem D184_119 : decode (cod 184) 119 = .ok (.bipush 100, 2) := by rw [cc_184]; decide +kernel
theorem D184_121 : decode (cod 184) 121 = .ok (.iconst 0, 1) := by rw [cc_184]; decide +kernel
theorem D184_122 : decode (cod 184) 122 = .ok (.sipush 9999, 3) := by rw [cc_184]; decide +kernel
theorem D184_125 : decode (cod 184) 125 = .ok (.invokestatic 415, 3) := by rw [cc_184]; decide +kernel
theorem D184_128 : decode (cod 184) 128 = .ok (.ireturn, 1) := by rw [cc_184]; decide +kernel
theorem D184_129 : decode (cod 184) 129 = .ok (.iload_n 2, 1) := by rw [cc_184]; decide +kernel
theorem D184_130 : decode (cod 184) 130 = .ok (.ifCond .eq 11, 3) := by rw [cc_184]; decide +kernel
theorem D184_133 : decode (cod 184) 133 = .ok (.aload_n 0, 1) := by rw [cc_184]; decide +kernel
theorem D184_134 : decode (cod 184) 134 = .ok (.iload_n 1, 1) := by rw [cc_184]; decide +kernel
theorem D184_135 : decode (cod 184) 135 = .ok (.invokevirtual 412, 3) := by rw [cc_184]; decide +kernel
theorem D184_138 : decode (cod 184) 138 = .ok (.goto 5, 3) := by rw [cc_184]; decide +kernel
theorem D184_141 : decode (cod 184) 141 = .ok (.bipush 10, 2) := by rw [cc_184]; decide +kernel
theorem D184_143 : decode (cod 184) 143 = .ok (.iconst 1, 1) := by rw [cc_184]; decide +kernel
theorem D184_144 : decode (cod 184) 144 = .ok (.sipush 9999, 3) := by rw [cc_184]; decide +kernel
theorem D184_147 : decode (cod 184) 147 = .ok (.invokestatic 415, 3) := by rw [cc_184]; decide +kernel
theorem D184_150 : decode (cod 184) 150 = .ok (.ireturn, 1) := by rw [cc_184]; decide +kernel
theorem D184_151 : decode (cod 184) 151 = .ok (.iload_n 2, 1) := by rw [cc_184]; decide +kernel
theorem D184_152 : decode (cod 184) 152 = .ok (.ifCond .eq 11, 3) := by rw [cc_184]; decide +kernel
theorem D184_155 : decode (cod 184) 155 = .ok (.aload_n 0, 1) := by rw [cc_184]; decide +kernel
theorem D184_156 : decode (cod 184) 156 = .ok (.iload_n 1, 1) := by rw [cc_184]; decide +kernel
theorem D184_157 : decode (cod 184) 157 = .ok (.invokevirtual 412, 3) := by rw [cc_184]; decide +kernel
theorem D184_160 : decode (cod 184) 160 = .ok (.goto 4, 3) := by rw [cc_184]; decide +kernel
theorem D184_163 : decode (cod 184) 163 = .ok (.iconst 0, 1) := by rw [cc_184]; decide +kernel
theorem D184_164 : decode (cod 184) 164 = .ok (.iconst 0, 1) := by rw [cc_184]; decide +kernel
theorem D184_165 : decode (cod 184) 165 = .ok (.bipush 15, 2) := by rw [cc_184]; decide +kernel
theorem D184_167 : decode (cod 184) 167 = .ok (.invokestatic 415, 3) := by rw [cc_184]; decide +kernel
theorem D184_170 : decode (cod 184) 170 = .ok (.ireturn, 1) := by rw [cc_184]; decide +kernel
theorem D184_171 : decode (cod 184) 171 = .ok (.iload_n 2, 1) := by rw [cc_184]; decide +kernel
theorem D184_172 : decode (cod 184) 172 = .ok (.ifCond .eq 11, 3) := by rw [cc_184]; decide +kernel
theorem D184_175 : decode (cod 184) 175 = .ok (.aload_n 0, 1) := by rw [cc_184]; decide +kernel
theorem D184_176 : decode (cod 184) 176 = .ok (.iload_n 1, 1) := by rw [cc_184]; decide +kernel
theorem D184_177 : decode (cod 184) 177 = .ok (.invokevirtual 412, 3) := by rw [cc_184]; decide +kernel
theorem D184_180 : decode (cod 184) 180 = .ok (.goto 15, 3) := by rw [cc_184]; decide +kernel
theorem D184_183 : decode (cod 184) 183 = .ok (.iload_n 1, 1) := by rw [cc_184]; decide +kernel
theorem D184_184 : decode (cod 184) 184 = .ok (.bipush 6, 2) := by rw [cc_184]; decide +kernel
theorem D184_186 : decode (cod 184) 186 = .ok (.if_icmp .ne 8, 3) := by rw [cc_184]; decide +kernel
theorem D184_189 : decode (cod 184) 189 = .ok (.bipush 50, 2) := by rw [cc_184]; decide +kernel
theorem D184_191 : decode (cod 184) 191 = .ok (.goto 4, 3) := by rw [cc_184]; decide +kernel
theorem D184_194 : decode (cod 184) 194 = .ok (.iconst 0, 1) := by rw [cc_184]; decide +kernel
theorem D184_195 : decode (cod 184) 195 = .ok (.iconst 0, 1) := by rw [cc_184]; decide +kernel
theorem D184_196 : decode (cod 184) 196 = .ok (.bipush 100, 2) := by rw [cc_184]; decide +kernel
theorem D184_198 : decode (cod 184) 198 = .ok (.invokestatic 415, 3) := by rw [cc_184]; decide +kernel
theorem D184_201 : decode (cod 184) 201 = .ok (.ireturn, 1) := by rw [cc_184]; decide +kernel
theorem b184_0 {d : Nat} {i0 : Nat} {x1 : Int} {u2 : MV} {I L : Nat → Nat → Nat → Int} {t : Nat → Nat} (g1 : 0 ≤ w32 ((w32 (8 * (I 12 i0 54))) + x1) ∧ w32 ((w32 (8 * (I 12 i0 54))) + x1) < 32) : Res d 184 0 [vr 12 i0, vi x1, u2] [] (mk I L t) = if I 57 i0 (w32 ((w32 (8 * (I 12 i0 54))) + x1)).toNat ≤ 0 then Res d 184 21 [vr 12 i0, vi x1, u2] [] (mk I L t) else Res d 184 17 [vr 12 i0, vi x1, u2] [] (mk I L t) :=
  Eq.trans (e_aload_n D184_0 rfl rfl) <| Eq.trans (e_getP (p := (57, i0)) D184_1 rfl o_184 f_12_37 (sh_12 _) (by decide) (pp_12_15 _ _)) <| Eq.trans (e_bipush (x := 8) D184_4 rfl rfl) <| Eq.trans (e_aload_n D184_6 rfl rfl) <| Eq.trans (e_getI D184_7 rfl o_184 f_12_409 (sh_12 _) (by decide)) <| Eq.trans (e_imul D184_10 rfl) <| Eq.trans (e_iload_n D184_11 rfl rfl) <| Eq.trans (e_iadd D184_12 rfl) <| Eq.trans (e_iald D184_13 rfl (al_57 _) g1) <| e_ifle D184_14 rfl rfl
theorem b184_17 {d : Nat} {i0 : Nat} {x1 : Int} {u2 : MV} {I L : Nat → Nat → Nat → Int} {t : Nat → Nat} : Res d 184 17 [vr 12 i0, vi x1, u2] [] (mk I L t) = Res d 184 22 [vr 12 i0, vi x1, u2] [vi 1] (mk I L t) :=
  Eq.trans (e_iconst (x := 1) D184_17 rfl rfl) <| e_goto (q1 := 22) D184_18 rfl
theorem b184_21 {d : Nat} {i0 : Nat} {x1 : Int} {u2 : MV} {I L : Nat → Nat → Nat → Int} {t : Nat → Nat} : Res d 184 21 [vr 12 i0, vi x1, u2] [] (mk I L t) = Res d 184 22 [vr 12 i0, vi x1, u2] [vi 0] (mk I L t) :=
  e_iconst (x := 0) D184_21 rfl rfl
theorem b184_22 {d : Nat} {i0 : Nat} {x1 xs0 : Int} {u2 : MV} {I L : Nat → Nat → Nat → Int} {t : Nat → Nat} : Res d 184 22 [vr 12 i0, vi x1, u2] [vi xs0] (mk I L t) = Res d 184 24 [vr 12 i0, vi x1, vi xs0] [vi x1] (mk I L t) :=
  Eq.trans (e_istore_n (ls1 := [vr 12 i0, vi x1, vi xs0]) D184_22 rfl (show 2 < 3 by decide) rfl) <| e_iload_n D184_23 rfl rfl
