/-! block equations (printed by wip/whole/genall.py) -/
/-! m_bad -/
theorem cc_169 : cod 169 = cX12_bad := rfl
theorem D169_0 : decode (cod 169) 0 = .ok (.aload_n 0, 1) := by rw [cc_169]; decide +kernel
theorem D169_1 : decode (cod 169) 1 = .ok (.iload_n 1, 1) := by rw [cc_169]; decide +kernel
theorem D169_2 : decode (cod 169) 2 = .ok (.putfield 336, 3) := by rw [cc_169]; decide +kernel
theorem D169_5 : decode (cod 169) 5 = .ok (.aload_n 0, 1) := by rw [cc_169]; decide +kernel
theorem D169_6 : decode (cod 169) 6 = .ok (.aload_n 0, 1) := by rw [cc_169]; decide +kernel
theorem D169_7 : decode (cod 169) 7 = .ok (.getfield 245, 3) := by rw [cc_169]; decide +kernel
theorem D169_10 : decode (cod 169) 10 = .ok (.putfield 339, 3) := by rw [cc_169]; decide +kernel
theorem D169_13 : decode (cod 169) 13 = .ok (.iconst 0, 1) := by rw [cc_169]; decide +kernel
theorem D169_14 : decode (cod 169) 14 = .ok (.ireturn, 1) := by rw [cc_169]; decide +kernel
theorem b169_0 {d : Nat} {i0 : Nat} {x1 : Int} {I L : Nat → Nat → Nat → Int} {t : Nat → Nat} : Res d 169 0 [vr 12 i0, vi x1] [] (mk I L t) = some (vi 0, (mk (up3 (up3 I 12 i0 41 x1) 12 i0 42 ((up3 I 12 i0 41 x1) 12 i0 39)) L t)) :=
  Eq.trans (e_aload_n D169_0 rfl rfl) <| Eq.trans (e_iload_n D169_1 rfl rfl) <| Eq.trans (e_putI D169_2 rfl o_169 f_12_336 (sh_12 _) rfl (by decide) (Or.inl (by decide))) <| Eq.trans (e_aload_n D169_5 rfl rfl) <| Eq.trans (e_aload_n D169_6 rfl rfl) <| Eq.trans (e_getI D169_7 rfl o_169 f_12_245 (sh_12 _) (by decide)) <| Eq.trans (e_putI D169_10 rfl o_169 f_12_339 (sh_12 _) rfl (by decide) (Or.inl (by decide))) <| Eq.trans (e_iconst (x := 0) D169_13 rfl rfl) <| e_iret D169_14 rfl
/-! m_need -/
theorem cc_170 : cod 170 = cX12_need := rfl
theorem D170_0 : decode (cod 170) 0 = .ok (.aload_n 0, 1) := by rw [cc_170]; decide +kernel
theorem D170_1 : decode (cod 170) 1 = .ok (.getfield 318, 3) := by rw [cc_170]; decide +kernel
theorem D170_4 : decode (cod 170) 4 = .ok (.bipush 100, 2) := by rw [cc_170]; decide +kernel
theorem D170_6 : decode (cod 170) 6 = .ok (.iload_n 1, 1) := by rw [cc_170]; decide +kernel
theorem D170_7 : decode (cod 170) 7 = .ok (.iadd, 1) := by rw [cc_170]; decide +kernel
theorem D170_8 : decode (cod 170) 8 = .ok (.if_icmp .eq 9, 3) := by rw [cc_170]; decide +kernel
theorem D170_11 : decode (cod 170) 11 = .ok (.aload_n 0, 1) := by rw [cc_170]; decide +kernel
theorem D170_12 : decode (cod 170) 12 = .ok (.iconst 1, 1) := by rw [cc_170]; decide +kernel
theorem D170_13 : decode (cod 170) 13 = .ok (.invokevirtual 342, 3) := by rw [cc_170]; decide +kernel
theorem D170_16 : decode (cod 170) 16 = .ok (.ireturn, 1) := by rw [cc_170]; decide +kernel
theorem D170_17 : decode (cod 170) 17 = .ok (.aload_n 0, 1) := by rw [cc_170]; decide +kernel
theorem D170_18 : decode (cod 170) 18 = .ok (.invokevirtual 345, 3) := by rw [cc_170]; decide +kernel
theorem D170_21 : decode (cod 170) 21 = .ok (.iconst 1, 1) := by rw [cc_170]; decide +kernel
theorem D170_22 : decode (cod 170) 22 = .ok (.ireturn, 1) := by rw [cc_170]; decide +kernel
theorem b170_0 {d : Nat} {i0 : Nat} {x1 : Int} {I L : Nat → Nat → Nat → Int} {t : Nat → Nat} : Res d 170 0 [vr 12 i0, vi x1] [] (mk I L t) = if I 12 i0 38 = w32 (100 + x1) then Res d 170 17 [vr 12 i0, vi x1] [] (mk I L t) else Res d 170 11 [vr 12 i0, vi x1] [] (mk I L t) :=
  Eq.trans (e_aload_n D170_0 rfl rfl) <| Eq.trans (e_getI D170_1 rfl o_170 f_12_318 (sh_12 _) (by decide)) <| Eq.trans (e_bipush (x := 100) D170_4 rfl rfl) <| Eq.trans (e_iload_n D170_6 rfl rfl) <| Eq.trans (e_iadd D170_7 rfl) <| e_iceq D170_8 rfl rfl
theorem b170_11 {d : Nat} {i0 : Nat} {x1 : Int} {I L : Nat → Nat → Nat → Int} {t : Nat → Nat} : Res (d + 1) 170 11 [vr 12 i0, vi x1] [] (mk I L t) = (Cal d 169 [vr 12 i0, vi 1] (mk I L t)).bind fun v => Res (d + 1) 170 16 [vr 12 i0, vi x1] (psh 169 v.1 []) v.2 :=
  Eq.trans (e_aload_n D170_11 rfl rfl) <| Eq.trans (e_iconst (x := 1) D170_12 rfl rfl) <| e_callV D170_13 rfl o_170 m_12_342 (by decide) rfl rfl
theorem b170_16 {d : Nat} {i0 : Nat} {x1 xs0 : Int} {I L : Nat → Nat → Nat → Int} {t : Nat → Nat} (g1 : xs0 = 0 ∨ xs0 = 1) : Res d 170 16 [vr 12 i0, vi x1] [vi xs0] (mk I L t) = some (vi xs0, (mk I L t)) :=
  e_iret D170_16 (nrz rfl g1)
theorem b170_17 {d : Nat} {i0 : Nat} {x1 : Int} {I L : Nat → Nat → Nat → Int} {t : Nat → Nat} : Res (d + 1) 170 17 [vr 12 i0, vi x1] [] (mk I L t) = (Cal d 168 [vr 12 i0] (mk I L t)).bind fun v => Res (d + 1) 170 21 [vr 12 i0, vi x1] (psh 168 v.1 []) v.2 :=
  Eq.trans (e_aload_n D170_17 rfl rfl) <| e_callV D170_18 rfl o_170 m_12_345 (by decide) rfl rfl
theorem b170_21 {d : Nat} {i0 : Nat} {x1 : Int} {I L : Nat → Nat → Nat → Int} {t : Nat → Nat} : Res d 170 21 [vr 12 i0, vi x1] [] (mk I L t) = some (vi 1, (mk I L t)) :=
  Eq.trans (e_iconst (x := 1) D170_21 rfl rfl) <| e_iret D170_22 rfl
/-! m_lay -/
theorem cc_171 : cod 171 = cX12_lay := rfl
theorem D171_0 : decode (cod 171) 0 = .ok (.aload_n 0, 1) := by rw [cc_171]; decide +kernel
theorem D171_1 : decode (cod 171) 1 = .ok (.getfield 43, 3) := by rw [cc_171]; decide +kernel
theorem D171_4 : decode (cod 171) 4 = .ok (.iconst 2, 1) := by rw [cc_171]; decide +kernel
theorem D171_5 : decode (cod 171) 5 = .ok (.aload_n 0, 1) := by rw [cc_171]; decide +kernel
theorem D171_6 : decode (cod 171) 6 = .ok (.getfield 348, 3) := by rw [cc_171]; decide +kernel
theorem D171_9 : decode (cod 171) 9 = .ok (.imul, 1) := by rw [cc_171]; decide +kernel
theorem D171_10 : decode (cod 171) 10 = .ok (.iload_n 1, 1) := by rw [cc_171]; decide +kernel
theorem D171_11 : decode (cod 171) 11 = .ok (.iastore, 1) := by rw [cc_171]; decide +kernel
theorem D171_12 : decode (cod 171) 12 = .ok (.aload_n 0, 1) := by rw [cc_171]; decide +kernel
theorem D171_13 : decode (cod 171) 13 = .ok (.getfield 43, 3) := by rw [cc_171]; decide +kernel
theorem D171_16 : decode (cod 171) 16 = .ok (.iconst 2, 1) := by rw [cc_171]; decide +kernel
theorem D171_17 : decode (cod 171) 17 = .ok (.aload_n 0, 1) := by rw [cc_171]; decide +kernel
theorem D171_18 : decode (cod 171) 18 = .ok (.getfield 348, 3) := by rw [cc_171]; decide +kernel
theorem D171_21 : decode (cod 171) 21 = .ok (.imul, 1) := by rw [cc_171]; decide +kernel
theorem D171_22 : decode (cod 171) 22 = .ok (.iconst 1, 1) := by rw [cc_171]; decide +kernel
theorem D171_23 : decode (cod 171) 23 = .ok (.iadd, 1) := by rw [cc_171]; decide +kernel
theorem D171_24 : decode (cod 171) 24 = .ok (.iload_n 2, 1) := by rw [cc_171]; decide +kernel
theorem D171_25 : decode (cod 171) 25 = .ok (.iastore, 1) := by rw [cc_171]; decide +kernel
theorem D171_26 : decode (cod 171) 26 = .ok (.aload_n 0, 1) := by rw [cc_171]; decide +kernel
theorem D171_27 : decode (cod 171) 27 = .ok (.dup, 1) := by rw [cc_171]; decide +kernel
theorem D171_28 : decode (cod 171) 28 = .ok (.getfield 348, 3) := by rw [cc_171]; decide +kernel
theorem D171_31 : decode (cod 171) 31 = .ok (.iconst 1, 1) := by rw [cc_171]; decide +kernel
theorem D171_32 : decode (cod 171) 32 = .ok (.iadd, 1) := by rw [cc_171]; decide +kernel
theorem D171_33 : decode (cod 171) 33 = .ok (.putfield 348, 3) := by rw [cc_171]; decide +kernel
theorem D171_36 : decode (cod 171) 36 = .ok (.return_, 1) := by rw [cc_171]; decide +kernel
theorem b171_0 {d : Nat} {i0 : Nat} {x1 x2 : Int} {I L : Nat → Nat → Nat → Int} {t : Nat → Nat} (g1 : 0 ≤ w32 (2 * (I 12 i0 35)) ∧ w32 (2 * (I 12 i0 35)) < 800) (g2 : 0 ≤ w32 ((w32 (2 * ((up3 I 59 i0 (w32 (2 * (I 12 i0 35))).toNat x1) 12 i0 35))) + 1) ∧ w32 ((w32 (2 * ((up3 I 59 i0 (w32 (2 * (I 12 i0 35))).toNat x1) 12 i0 35))) + 1) < 800) : Res d 171 0 [vr 12 i0, vi x1, vi x2] [] (mk I L t) = some (vx, (mk (up3 (up3 (up3 I 59 i0 (w32 (2 * (I 12 i0 35))).toNat x1) 59 i0 (w32 ((w32 (2 * ((up3 I 59 i0 (w32 (2 * (I 12 i0 35))).toNat x1) 12 i0 35))) + 1)).toNat x2) 12 i0 35 (w32 (((up3 (up3 I 59 i0 (w32 (2 * (I 12 i0 35))).toNat x1) 59 i0 (w32 ((w32 (2 * ((up3 I 59 i0 (w32 (2 * (I 12 i0 35))).toNat x1) 12 i0 35))) + 1)).toNat x2) 12 i0 35) + 1))) L t)) :=
  Eq.trans (e_aload_n D171_0 rfl rfl) <| Eq.trans (e_getP (p := (59, i0)) D171_1 rfl o_171 f_12_43 (sh_12 _) (by decide) (pp_12_17 _ _)) <| Eq.trans (e_iconst (x := 2) D171_4 rfl rfl) <| Eq.trans (e_aload_n D171_5 rfl rfl) <| Eq.trans (e_getI D171_6 rfl o_171 f_12_348 (sh_12 _) (by decide)) <| Eq.trans (e_imul D171_9 rfl) <| Eq.trans (e_iload_n D171_10 rfl rfl) <| Eq.trans (e_iast D171_11 rfl (al_59 _) rfl g1) <| Eq.trans (e_aload_n D171_12 rfl rfl) <| Eq.trans (e_getP (p := (59, i0)) D171_13 rfl o_171 f_12_43 (sh_12 _) (by decide) (pp_12_17 _ _)) <| Eq.trans (e_iconst (x := 2) D171_16 rfl rfl) <| Eq.trans (e_aload_n D171_17 rfl rfl) <| Eq.trans (e_getI D171_18 rfl o_171 f_12_348 (sh_12 _) (by decide)) <| Eq.trans (e_imul D171_21 rfl) <| Eq.trans (e_iconst (x := 1) D171_22 rfl rfl) <| Eq.trans (e_iadd D171_23 rfl) <| Eq.trans (e_iload_n D171_24 rfl rfl) <| Eq.trans (e_iast D171_25 rfl (al_59 _) rfl g2) <| Eq.trans (e_aload_n D171_26 rfl rfl) <| Eq.trans (e_dup D171_27 rfl) <| Eq.trans (e_getI D171_28 rfl o_171 f_12_348 (sh_12 _) (by decide)) <| Eq.trans (e_iconst (x := 1) D171_31 rfl rfl) <| Eq.trans (e_iadd D171_32 rfl) <| Eq.trans (e_putI D171_33 rfl o_171 f_12_348 (sh_12 _) rfl (by decide) (Or.inl (by decide))) <| e_vret D171_36 rfl
/-! m_sumUp -/
theorem cc_172 : cod 172 = cX12_sumUp := rfl
theorem D172_0 : decode (cod 172) 0 = .ok (.aload_n 0, 1) := by rw [cc_172]; decide +kernel
theorem D172_1 : decode (cod 172) 1 = .ok (.invokevirtual 351, 3) := by rw [cc_172]; decide +kernel
theorem D172_4 : decode (cod 172) 4 = .ok (.ifCond .ne 5, 3) := by rw [cc_172]; decide +kernel
theorem D172_7 : decode (cod 172) 7 = .ok (.iconst 0, 1) := by rw [cc_172]; decide +kernel
theorem D172_8 : decode (cod 172) 8 = .ok (.ireturn, 1) := by rw [cc_172]; decide +kernel
theorem D172_9 : decode (cod 172) 9 = .ok (.aload_n 0, 1) := by rw [cc_172]; decide +kernel
theorem D172_10 : decode (cod 172) 10 = .ok (.getfield 318, 3) := by rw [cc_172]; decide +kernel
theorem D172_13 : decode (cod 172) 13 = .ok (.sipush 143, 3) := by rw [cc_172]; decide +kernel
theorem D172_16 : decode (cod 172) 16 = .ok (.if_icmp .eq 13, 3) := by rw [cc_172]; decide +kernel
theorem D172_19 : decode (cod 172) 19 = .ok (.aload_n 0, 1) := by rw [cc_172]; decide +kernel
theorem D172_20 : decode (cod 172) 20 = .ok (.getfield 318, 3) := by rw [cc_172]; decide +kernel
theorem D172_23 : decode (cod 172) 23 = .ok (.sipush 145, 3) := by rw [cc_172]; decide +kernel
theorem D172_26 : decode (cod 172) 26 = .ok (.if_icmp .ne 43, 3) := by rw [cc_172]; decide +kernel
theorem D172_29 : decode (cod 172) 29 = .ok (.aload_n 0, 1) := by rw [cc_172]; decide +kernel
theorem D172_30 : decode (cod 172) 30 = .ok (.getfield 318, 3) := by rw [cc_172]; decide +kernel
theorem D172_33 : decode (cod 172) 33 = .ok (.sipush 143, 3) := by rw [cc_172]; decide +kernel
theorem D172_36 : decode (cod 172) 36 = .ok (.if_icmp .ne 8, 3) := by rw [cc_172]; decide +kernel
theorem D172_39 : decode (cod 172) 39 = .ok (.bipush 11, 2) := by rw [cc_172]; decide +kernel
theorem D172_41 : decode (cod 172) 41 = .ok (.goto 5, 3) := by rw [cc_172]; decide +kernel
theorem D172_44 : decode (cod 172) 44 = .ok (.bipush 12, 2) := by rw [cc_172]; decide +kernel
theorem D172_46 : decode (cod 172) 46 = .ok (.istore_n 1, 1) := by rw [cc_172]; decide +kernel
theorem D172_47 : decode (cod 172) 47 = .ok (.aload_n 0, 1) := by rw [cc_172]; decide +kernel
theorem D172_48 : decode (cod 172) 48 = .ok (.invokevirtual 345, 3) := by rw [cc_172]; decide +kernel
theorem D172_51 : decode (cod 172) 51 = .ok (.aload_n 0, 1) := by rw [cc_172]; decide +kernel
theorem D172_52 : decode (cod 172) 52 = .ok (.invokevirtual 351, 3) := by rw [cc_172]; decide +kernel
theorem D172_55 : decode (cod 172) 55 = .ok (.ifCond .ne 5, 3) := by rw [cc_172]; decide +kernel
theorem D172_58 : decode (cod 172) 58 = .ok (.iconst 0, 1) := by rw [cc_172]; decide +kernel
theorem D172_59 : decode (cod 172) 59 = .ok (.ireturn, 1) := by rw [cc_172]; decide +kernel
theorem D172_60 : decode (cod 172) 60 = .ok (.aload_n 0, 1) := by rw [cc_172]; decide +kernel
theorem D172_61 : decode (cod 172) 61 = .ok (.iload_n 1, 1) := by rw [cc_172]; decide +kernel
theorem D172_62 : decode (cod 172) 62 = .ok (.iconst 0, 1) := by rw [cc_172]; decide +kernel
theorem D172_63 : decode (cod 172) 63 = .ok (.invokevirtual 355, 3) := by rw [cc_172]; decide +kernel
theorem D172_66 : decode (cod 172) 66 = .ok (.goto (-57), 3) := by rw [cc_172]; decide +kernel
theorem D172_69 : decode (cod 172) 69 = .ok (.iconst 1, 1) := by rw [cc_172]; decide +kernel
theorem D172_70 : decode (cod 172) 70 = .ok (.ireturn, 1) := by rw [cc_172]; decide +kernel
theorem b172_0 {d : Nat} {i0 : Nat} {I L : Nat → Nat → Nat → Int} {t : Nat → Nat} : Res (d + 1) 172 0 [vr 12 i0, vx] [] (mk I L t) = (Cal d 173 [vr 12 i0] (mk I L t)).bind fun v => Res (d + 1) 172 4 [vr 12 i0, vx] (psh 173 v.1 []) v.2 :=
  Eq.trans (e_aload_n D172_0 rfl rfl) <| e_callV D172_1 rfl o_172 m_12_351 (by decide) rfl rfl
theorem b172_4 {d : Nat} {i0 : Nat} {xs0 : Int} {I L : Nat → Nat → Nat → Int} {t : Nat → Nat} : Res d 172 4 [vr 12 i0, vx] [vi xs0] (mk I L t) = if ¬ xs0 = 0 then Res d 172 9 [vr 12 i0, vx] [] (mk I L t) else Res d 172 7 [vr 12 i0, vx] [] (mk I L t) :=
  e_ifne D172_4 rfl rfl
theorem b172_7 {d : Nat} {i0 : Nat} {I L : Nat → Nat → Nat → Int} {t : Nat → Nat} : Res d 172 7 [vr 12 i0, vx] [] (mk I L t) = some (vi 0, (mk I L t)) :=
  Eq.trans (e_iconst (x := 0) D172_7 rfl rfl) <| e_iret D172_8 rfl
theorem b172_9 {d : Nat} {i0 : Nat} {u1 : MV} {I L : Nat → Nat → Nat → Int} {t : Nat → Nat} : Res d 172 9 [vr 12 i0, u1] [] (mk I L t) = if I 12 i0 38 = 143 then Res d 172 29 [vr 12 i0, u1] [] (mk I L t) else Res d 172 19 [vr 12 i0, u1] [] (mk I L t) :=
  Eq.trans (e_aload_n D172_9 rfl rfl) <| Eq.trans (e_getI D172_10 rfl o_172 f_12_318 (sh_12 _) (by decide)) <| Eq.trans (e_sipush (x := 143) D172_13 rfl rfl) <| e_iceq D172_16 rfl rfl
theorem b172_19 {d : Nat} {i0 : Nat} {u1 : MV} {I L : Nat → Nat → Nat → Int} {t : Nat → Nat} : Res d 172 19 [vr 12 i0, u1] [] (mk I L t) = if ¬ I 12 i0 38 = 145 then Res d 172 69 [vr 12 i0, u1] [] (mk I L t) else Res d 172 29 [vr 12 i0, u1] [] (mk I L t) :=
  Eq.trans (e_aload_n D172_19 rfl rfl) <| Eq.trans (e_getI D172_20 rfl o_172 f_12_318 (sh_12 _) (by decide)) <| Eq.trans (e_sipush (x := 145) D172_23 rfl rfl) <| e_icne D172_26 rfl rfl
theorem b172_29 {d : Nat} {i0 : Nat} {u1 : MV} {I L : Nat → Nat → Nat → Int} {t : Nat → Nat} : Res d 172 29 [vr 12 i0, u1] [] (mk I L t) = if ¬ I 12 i0 38 = 143 then Res d 172 44 [vr 12 i0, u1] [] (mk I L t) else Res d 172 39 [vr 12 i0, u1] [] (mk I L t) :=
  Eq.trans (e_aload_n D172_29 rfl rfl) <| Eq.trans (e_getI D172_30 rfl o_172 f_12_318 (sh_12 _) (by decide)) <| Eq.trans (e_sipush (x := 143) D172_33 rfl rfl) <| e_icne D172_36 rfl rfl
theorem b172_39 {d : Nat} {i0 : Nat} {u1 : MV} {I L : Nat → Nat → Nat → Int} {t : Nat → Nat} : Res d 172 39 [vr 12 i0, u1] [] (mk I L t) = Res d 172 46 [vr 12 i0, u1] [vi 11] (mk I L t) :=
  Eq.trans (e_bipush (x := 11) D172_39 rfl rfl) <| e_goto (q1 := 46) D172_41 rfl
theorem b172_44 {d : Nat} {i0 : Nat} {u1 : MV} {I L : Nat → Nat → Nat → Int} {t : Nat → Nat} : Res d 172 44 [vr 12 i0, u1] [] (mk I L t) = Res d 172 46 [vr 12 i0, u1] [vi 12] (mk I L t) :=
  e_bipush (x := 12) D172_44 rfl rfl
theorem b172_46 {d : Nat} {i0 : Nat} {u1 : MV} {xs0 : Int} {I L : Nat → Nat → Nat → Int} {t : Nat → Nat} : Res (d + 1) 172 46 [vr 12 i0, u1] [vi xs0] (mk I L t) = (Cal d 168 [vr 12 i0] (mk I L t)).bind fun v => Res (d + 1) 172 51 [vr 12 i0, vi xs0] (psh 168 v.1 []) v.2 :=
  Eq.trans (e_istore_n (ls1 := [vr 12 i0, vi xs0]) D172_46 rfl (show 1 < 2 by decide) rfl) <| Eq.trans (e_aload_n D172_47 rfl rfl) <| e_callV D172_48 rfl o_172 m_12_345 (by decide) rfl rfl
theorem b172_51 {d : Nat} {i0 : Nat} {x1 : Int} {I L : Nat → Nat → Nat → Int} {t : Nat → Nat} : Res (d + 1) 172 51 [vr 12 i0, vi x1] [] (mk I L t) = (Cal d 173 [vr 12 i0] (mk I L t)).bind fun v => Res (d + 1) 172 55 [vr 12 i0, vi x1] (psh 173 v.1 []) v.2 :=
  Eq.trans (e_aload_n D172_51 rfl rfl) <| e_callV D172_52 rfl o_172 m_12_351 (by decide) rfl rfl
theorem b172_55 {d : Nat} {i0 : Nat} {x1 xs0 : Int} {I L : Nat → Nat → Nat → Int} {t : Nat → Nat} : Res d 172 55 [vr 12 i0, vi x1] [vi xs0] (mk I L t) = if ¬ xs0 = 0 then Res d 172 60 [vr 12 i0, vi x1] [] (mk I L t) else Res d 172 58 [vr 12 i0, vi x1] [] (mk I L t) :=
  e_ifne D172_55 rfl rfl
theorem b172_58 {d : Nat} {i0 : Nat} {x1 : Int} {I L : Nat → Nat → Nat → Int} {t : Nat → Nat} : Res d 172 58 [vr 12 i0, vi x1] [] (mk I L t) = some (vi 0, (mk I L t)) :=
  Eq.trans (e_iconst (x := 0) D172_58 rfl rfl) <| e_iret D172_59 rfl
theorem b172_60 {d : Nat} {i0 : Nat} {x1 : Int} {I L : Nat → Nat → Nat → Int} {t : Nat → Nat} : Res (d + 1) 172 60 [vr 12 i0, vi x1] [] (mk I L t) = (Cal d 171 [vr 12 i0, vi x1, vi 0] (mk I L t)).bind fun v => Res (d + 1) 172 66 [vr 12 i0, vi x1] (psh 171 v.1 []) v.2 :=
  Eq.trans (e_aload_n D172_60 rfl rfl) <| Eq.trans (e_iload_n D172_61 rfl rfl) <| Eq.trans (e_iconst (x := 0) D172_62 rfl rfl) <| e_callV D172_63 rfl o_172 m_12_355 (by decide) rfl rfl
theorem b172_66 {d : Nat} {i0 : Nat} {x1 : Int} {I L : Nat → Nat → Nat → Int} {t : Nat → Nat} : Res d 172 66 [vr 12 i0, vi x1] [] (mk I L t) = Res d 172 9 [vr 12 i0, vi x1] [] (mk I L t) :=
  e_goto (q1 := 9) D172_66 rfl
theorem b172_69 {d : Nat} {i0 : Nat} {u1 : MV} {I L : Nat → Nat → Nat → Int} {t : Nat → Nat} : Res d 172 69 [vr 12 i0, u1] [] (mk I L t) = some (vi 1, (mk I L t)) :=
  Eq.trans (e_iconst (x := 1) D172_69 rfl rfl) <| e_iret D172_70 rfl
/-! m_product -/
theorem cc_173 : cod 173 = cX12_product := rfl
theorem D173_0 : decode (cod 173) 0 = .ok (.aload_n 0, 1) := by rw [cc_173]; decide +kernel
theorem D173_1 : decode (cod 173) 1 = .ok (.invokevirtual 359, 3) := by rw [cc_173]; decide +kernel
theorem D173_4 : decode (cod 173) 4 = .ok (.ifCond .ne 5, 3) := by rw [cc_173]; decide +kernel
theorem D173_7 : decode (cod 173) 7 = .ok (.iconst 0, 1) := by rw [cc_173]; decide +kernel
theorem D173_8 : decode (cod 173) 8 = .ok (.ireturn, 1) := by rw [cc_173]; decide +kernel
theorem D173_9 : decode (cod 173) 9 = .ok (.aload_n 0, 1) := by rw [cc_173]; decide +kernel
theorem D173_10 : decode (cod 173) 10 = .ok (.getfield 318, 3) := by rw [cc_173]; decide +kernel
theorem D173_13 : decode (cod 173) 13 = .ok (.sipush 142, 3) := by rw [cc_173]; decide +kernel
theorem D173_16 : decode (cod 173) 16 = .ok (.if_icmp .eq 13, 3) := by rw [cc_173]; decide +kernel
theorem D173_19 : decode (cod 173) 19 = .ok (.aload_n 0, 1) := by rw [cc_173]; decide +kernel
theorem D173_20 : decode (cod 173) 20 = .ok (.getfield 318, 3) := by rw [cc_173]; decide +kernel
theorem D173_23 : decode (cod 173) 23 = .ok (.sipush 147, 3) := by rw [cc_173]; decide +kernel
theorem D173_26 : decode (cod 173) 26 = .ok (.if_icmp .ne 90, 3) := by rw [cc_173]; decide +kernel
theorem D173_29 : decode (cod 173) 29 = .ok (.aload_n 0, 1) := by rw [cc_173]; decide +kernel
theorem D173_30 : decode (cod 173) 30 = .ok (.getfield 318, 3) := by rw [cc_173]; decide +kernel
theorem D173_33 : decode (cod 173) 33 = .ok (.sipush 147, 3) := by rw [cc_173]; decide +kernel
theorem D173_36 : decode (cod 173) 36 = .ok (.if_icmp .ne 7, 3) := by rw [cc_173]; decide +kernel
theorem D173_39 : decode (cod 173) 39 = .ok (.iconst 1, 1) := by rw [cc_173]; decide +kernel
theorem D173_40 : decode (cod 173) 40 = .ok (.goto 4, 3) := by rw [cc_173]; decide +kernel
theorem D173_43 : decode (cod 173) 43 = .ok (.iconst 0, 1) := by rw [cc_173]; decide +kernel
theorem D173_44 : decode (cod 173) 44 = .ok (.istore_n 1, 1) := by rw [cc_173]; decide +kernel
theorem D173_45 : decode (cod 173) 45 = .ok (.aload_n 0, 1) := by rw [cc_173]; decide +kernel
theorem D173_46 : decode (cod 173) 46 = .ok (.invokevirtual 345, 3) := by rw [cc_173]; decide +kernel
theorem D173_49 : decode (cod 173) 49 = .ok (.iload_n 1, 1) := by rw [cc_173]; decide +kernel
theorem D173_50 : decode (cod 173) 50 = .ok (.ifCond .eq 47, 3) := by rw [cc_173]; decide +kernel
theorem D173_53 : decode (cod 173) 53 = .ok (.aload_n 0, 1) := by rw [cc_173]; decide +kernel
theorem D173_54 : decode (cod 173) 54 = .ok (.getfield 318, 3) := by rw [cc_173]; decide +kernel
theorem D173_57 : decode (cod 173) 57 = .ok (.iconst 2, 1) := by rw [cc_173]; decide +kernel
theorem D173_58 : decode (cod 173) 58 = .ok (.if_icmp .eq 9, 3) := by rw [cc_173]; decide +kernel
theorem D173_61 : decode (cod 173) 61 = .ok (.aload_n 0, 1) := by rw [cc_173]; decide +kernel
theorem D173_62 : decode (cod 173) 62 = .ok (.iconst 1, 1) := by rw [cc_173]; decide +kernel
theorem D173_63 : decode (cod 173) 63 = .ok (.invokevirtual 342, 3) := by rw [cc_173]; decide +kernel
theorem D173_66 : decode (cod 173) 66 = .ok (.ireturn, 1) := by rw [cc_173]; decide +kernel
theorem D173_67 : decode (cod 173) 67 = .ok (.aload_n 0, 1) := by rw [cc_173]; decide +kernel
theorem D173_68 : decode (cod 173) 68 = .ok (.getfield 330, 3) := by rw [cc_173]; decide +kernel
theorem D173_71 : decode (cod 173) 71 = .ok (.ifCond .ne 9, 3) := by rw [cc_173]; decide +kernel
theorem D173_74 : decode (cod 173) 74 = .ok (.aload_n 0, 1) := by rw [cc_173]; decide +kernel
theorem D173_75 : decode (cod 173) 75 = .ok (.iconst 2, 1) := by rw [cc_173]; decide +kernel
theorem D173_76 : decode (cod 173) 76 = .ok (.invokevirtual 342, 3) := by rw [cc_173]; decide +kernel
theorem D173_79 : decode (cod 173) 79 = .ok (.ireturn, 1) := by rw [cc_173]; decide +kernel
theorem D173_80 : decode (cod 173) 80 = .ok (.aload_n 0, 1) := by rw [cc_173]; decide +kernel
theorem D173_81 : decode (cod 173) 81 = .ok (.bipush 14, 2) := by rw [cc_173]; decide +kernel
theorem D173_83 : decode (cod 173) 83 = .ok (.aload_n 0, 1) := by rw [cc_173]; decide +kernel
theorem D173_84 : decode (cod 173) 84 = .ok (.getfield 330, 3) := by rw [cc_173]; decide +kernel
theorem D173_87 : decode (cod 173) 87 = .ok (.invokevirtual 355, 3) := by rw [cc_173]; decide +kernel
theorem D173_90 : decode (cod 173) 90 = .ok (.aload_n 0, 1) := by rw [cc_173]; decide +kernel
theorem D173_91 : decode (cod 173) 91 = .ok (.invokevirtual 345, 3) := by rw [cc_173]; decide +kernel
theorem D173_94 : decode (cod 173) 94 = .ok (.goto 19, 3) := by rw [cc_173]; decide +kernel
theorem D173_97 : decode (cod 173) 97 = .ok (.aload_n 0, 1) := by rw [cc_173]; decide +kernel
theorem D173_98 : decode (cod 173) 98 = .ok (.invokevirtual 359, 3) := by rw [cc_173]; decide +kernel
theorem D173_101 : decode (cod 173) 101 = .ok (.ifCond .ne 5, 3) := by rw [cc_173]; decide +kernel
theorem D173_104 : decode (cod 173) 104 = .ok (.iconst 0, 1) := by rw [cc_173]; decide +kernel
theorem D173_105 : decode (cod 173) 105 = .ok (.ireturn, 1) := by rw [cc_173]; decide +kernel
theorem D173_106 : decode (cod 173) 106 = .ok (.aload_n 0, 1) := by rw [cc_173]; decide +kernel
theorem D173_107 : decode (cod 173) 107 = .ok (.bipush 13, 2) := by rw [cc_173]; decide +kernel
theorem D173_109 : decode (cod 173) 109 = .ok (.iconst 0, 1) := by rw [cc_173]; decide +kernel
theorem D173_110 : decode (cod 173) 110 = .ok (.invokevirtual 355, 3) := by rw [cc_173]; decide +kernel
theorem D173_113 : decode (cod 173) 113 = .ok (.goto (-104), 3) := by rw [cc_173]; decide +kernel
theorem D173_116 : decode (cod 173) 116 = .ok (.iconst 1, 1) := by rw [cc_173]; decide +kernel
theorem D173_117 : decode (cod 173) 117 = .ok (.ireturn, 1) := by rw [cc_173]; decide +kernel
theorem b173_0 {d : Nat} {i0 : Nat} {I L : Nat → Nat → Nat → Int} {t : Nat → Nat} : Res (d + 1) 173 0 [vr 12 i0, vx] [] (mk I L t) = (Cal d 174 [vr 12 i0] (mk I L t)).bind fun v => Res (d + 1) 173 4 [vr 12 i0, vx] (psh 174 v.1 []) v.2 :=
  Eq.trans (e_aload_n D173_0 rfl rfl) <| e_callV D173_1 rfl o_173 m_12_359 (by decide) rfl rfl
theorem b173_4 {d : Nat} {i0 : Nat} {xs0 : Int} {I L : Nat → Nat → Nat → Int} {t : Nat → Nat} : Res d 173 4 [vr 12 i0, vx] [vi xs0] (mk I L t) = if ¬ xs0 = 0 then Res d 173 9 [vr 12 i0, vx] [] (mk I L t) else Res d 173 7 [vr 12 i0, vx] [] (mk I L t) :=
  e_ifne D173_4 rfl rfl
theorem b173_7 {d : Nat} {i0 : Nat} {I L : Nat → Nat → Nat → Int} {t : Nat → Nat} : Res d 173 7 [vr 12 i0, vx] [] (mk I L t) = some (vi 0, (mk I L t)) :=
  Eq.trans (e_iconst (x := 0) D173_7 rfl rfl) <| e_iret D173_8 rfl
theorem b173_9 {d : Nat} {i0 : Nat} {u1 : MV} {I L : Nat → Nat → Nat → Int} {t : Nat → Nat} : Res d 173 9 [vr 12 i0, u1] [] (mk I L t) = if I 12 i0 38 = 142 then Res d 173 29 [vr 12 i0, u1] [] (mk I L t) else Res d 173 19 [vr 12 i0, u1] [] (mk I L t) :=
  Eq.trans (e_aload_n D173_9 rfl rfl) <| Eq.trans (e_getI D173_10 rfl o_173 f_12_318 (sh_12 _) (by decide)) <| Eq.trans (e_sipush (x := 142) D173_13 rfl rfl) <| e_iceq D173_16 rfl rfl
theorem b173_19 {d : Nat} {i0 : Nat} {u1 : MV} {I L : Nat → Nat → Nat → Int} {t : Nat → Nat} : Res d 173 19 [vr 12 i0, u1] [] (mk I L t) = if ¬ I 12 i0 38 = 147 then Res d 173 116 [vr 12 i0, u1] [] (mk I L t) else Res d 173 29 [vr 12 i0, u1] [] (mk I L t) :=
  Eq.trans (e_aload_n D173_19 rfl rfl) <| Eq.trans (e_getI D173_20 rfl o_173 f_12_318 (sh_12 _) (by decide)) <| Eq.trans (e_sipush (x := 147) D173_23 rfl rfl) <| e_icne D173_26 rfl rfl
theorem b173_29 {d : Nat} {i0 : Nat} {u1 : MV} {I L : Nat → Nat → Nat → Int} {t : Nat → Nat} : Res d 173 29 [vr 12 i0, u1] [] (mk I L t) = if ¬ I 12 i0 38 = 147 then Res d 173 43 [vr 12 i0, u1] [] (mk I L t) else Res d 173 39 [vr 12 i0, u1] [] (mk I L t) :=
  Eq.trans (e_aload_n D173_29 rfl rfl) <| Eq.trans (e_getI D173_30 rfl o_173 f_12_318 (sh_12 _) (by decide)) <| Eq.trans (e_sipush (x := 147) D173_33 rfl rfl) <| e_icne D173_36 rfl rfl
theorem b173_39 {d : Nat} {i0 : Nat} {u1 : MV} {I L : Nat → Nat → Nat → Int} {t : Nat → Nat} : Res d 173 39 [vr 12 i0, u1] [] (mk I L t) = Res d 173 44 [vr 12 i0, u1] [vi 1] (mk I L t) :=
  Eq.trans (e_iconst (x := 1) D173_39 rfl rfl) <| e_goto (q1 := 44) D173_40 rfl
theorem b173_43 {d : Nat} {i0 : Nat} {u1 : MV} {I L : Nat → Nat → Nat → Int} {t : Nat → Nat} : Res d 173 43 [vr 12 i0, u1] [] (mk I L t) = Res d 173 44 [vr 12 i0, u1] [vi 0] (mk I L t) :=
  e_iconst (x := 0) D173_43 rfl rfl
theorem b173_44 {d : Nat} {i0 : Nat} {u1 : MV} {xs0 : Int} {I L : Nat → Nat → Nat → Int} {t : Nat → Nat} : Res (d + 1) 173 44 [vr 12 i0, u1] [vi xs0] (mk I L t) = (Cal d 168 [vr 12 i0] (mk I L t)).bind fun v => Res (d + 1) 173 49 [vr 12 i0, vi xs0] (psh 168 v.1 []) v.2 :=
  Eq.trans (e_istore_n (ls1 := [vr 12 i0, vi xs0]) D173_44 rfl (show 1 < 2 by decide) rfl) <| Eq.trans (e_aload_n D173_45 rfl rfl) <| e_callV D173_46 rfl o_173 m_12_345 (by decide) rfl rfl
theorem b173_49 {d : Nat} {i0 : Nat} {x1 : Int} {I L : Nat → Nat → Nat → Int} {t : Nat → Nat} : Res d 173 49 [vr 12 i0, vi x1] [] (mk I L t) = if x1 = 0 then Res d 173 97 [vr 12 i0, vi x1] [] (mk I L t) else Res d 173 53 [vr 12 i0, vi x1] [] (mk I L t) :=
  Eq.trans (e_iload_n D173_49 rfl rfl) <| e_ifeq D173_50 rfl rfl
theorem b173_53 {d : Nat} {i0 : Nat} {x1 : Int} {I L : Nat → Nat → Nat → Int} {t : Nat → Nat} : Res d 173 53 [vr 12 i0, vi x1] [] (mk I L t) = if I 12 i0 38 = 2 then Res d 173 67 [vr 12 i0, vi x1] [] (mk I L t) else Res d 173 61 [vr 12 i0, vi x1] [] (mk I L t) :=
  Eq.trans (e_aload_n D173_53 rfl rfl) <| Eq.trans (e_getI D173_54 rfl o_173 f_12_318 (sh_12 _) (by decide)) <| Eq.trans (e_iconst (x := 2) D173_57 rfl rfl) <| e_iceq D173_58 rfl rfl
theorem b173_61 {d : Nat} {i0 : Nat} {x1 : Int} {I L : Nat → Nat → Nat → Int} {t : Nat → Nat} : Res (d + 1) 173 61 [vr 12 i0, vi x1] [] (mk I L t) = (Cal d 169 [vr 12 i0, vi 1] (mk I L t)).bind fun v => Res (d + 1) 173 66 [vr 12 i0, vi x1] (psh 169 v.1 []) v.2 :=
  Eq.trans (e_aload_n D173_61 rfl rfl) <| Eq.trans (e_iconst (x := 1) D173_62 rfl rfl) <| e_callV D173_63 rfl o_173 m_12_342 (by decide) rfl rfl
theorem b173_66 {d : Nat} {i0 : Nat} {x1 xs0 : Int} {I L : Nat → Nat → Nat → Int} {t : Nat → Nat} (g1 : xs0 = 0 ∨ xs0 = 1) : Res d 173 66 [vr 12 i0, vi x1] [vi xs0] (mk I L t) = some (vi xs0, (mk I L t)) :=
  e_iret D173_66 (nrz rfl g1)
theorem b173_67 {d : Nat} {i0 : Nat} {x1 : Int} {I L : Nat → Nat → Nat → Int} {t : Nat → Nat} : Res d 173 67 [vr 12 i0, vi x1] [] (mk I L t) = if ¬ I 12 i0 40 = 0 then Res d 173 80 [vr 12 i0, vi x1] [] (mk I L t) else Res d 173 74 [vr 12 i0, vi x1] [] (mk I L t) :=
  Eq.trans (e_aload_n D173_67 rfl rfl) <| Eq.trans (e_getI D173_68 rfl o_173 f_12_330 (sh_12 _) (by decide)) <| e_ifne D173_71 rfl rfl
theorem b173_74 {d : Nat} {i0 : Nat} {x1 : Int} {I L : Nat → Nat → Nat → Int} {t : Nat → Nat} : Res (d + 1) 173 74 [vr 12 i0, vi x1] [] (mk I L t) = (Cal d 169 [vr 12 i0, vi 2] (mk I L t)).bind fun v => Res (d + 1) 173 79 [vr 12 i0, vi x1] (psh 169 v.1 []) v.2 :=
  Eq.trans (e_aload_n D173_74 rfl rfl) <| Eq.trans (e_iconst (x := 2) D173_75 rfl rfl) <| e_callV D173_76 rfl o_173 m_12_342 (by decide) rfl rfl
theorem b173_79 {d : Nat} {i0 : Nat} {x1 xs0 : Int} {I L : Nat → Nat → Nat → Int} {t : Nat → Nat} (g1 : xs0 = 0 ∨ xs0 = 1) : Res d 173 79 [vr 12 i0, vi x1] [vi xs0] (mk I L t) = some (vi xs0, (mk I L t)) :=
  e_iret D173_79 (nrz rfl g1)
theorem b173_80 {d : Nat} {i0 : Nat} {x1 : Int} {I L : Nat → Nat → Nat → Int} {t : Nat → Nat} : Res (d + 1) 173 80 [vr 12 i0, vi x1] [] (mk I L t) = (Cal d 171 [vr 12 i0, vi 14, vi (I 12 i0 40)] (mk I L t)).bind fun v => Res (d + 1) 173 90 [vr 12 i0, vi x1] (psh 171 v.1 []) v.2 :=
  Eq.trans (e_aload_n D173_80 rfl rfl) <| Eq.trans (e_bipush (x := 14) D173_81 rfl rfl) <| Eq.trans (e_aload_n D173_83 rfl rfl) <| Eq.trans (e_getI D173_84 rfl o_173 f_12_330 (sh_12 _) (by decide)) <| e_callV D173_87 rfl o_173 m_12_355 (by decide) rfl rfl
theorem b173_90 {d : Nat} {i0 : Nat} {x1 : Int} {I L : Nat → Nat → Nat → Int} {t : Nat → Nat} : Res (d + 1) 173 90 [vr 12 i0, vi x1] [] (mk I L t) = (Cal d 168 [vr 12 i0] (mk I L t)).bind fun v => Res (d + 1) 173 94 [vr 12 i0, vi x1] (psh 168 v.1 []) v.2 :=
  Eq.trans (e_aload_n D173_90 rfl rfl) <| e_callV D173_91 rfl o_173 m_12_345 (by decide) rfl rfl
theorem b173_94 {d : Nat} {i0 : Nat} {x1 : Int} {I L : Nat → Nat → Nat → Int} {t : Nat → Nat} : Res d 173 94 [vr 12 i0, vi x1] [] (mk I L t) = Res d 173 113 [vr 12 i0, vi x1] [] (mk I L t) :=
  e_goto (q1 := 113) D173_94 rfl
theorem b173_97 {d : Nat} {i0 : Nat} {x1 : Int} {I L : Nat → Nat → Nat → Int} {t : Nat → Nat} : Res (d + 1) 173 97 [vr 12 i0, vi x1] [] (mk I L t) = (Cal d 174 [vr 12 i0] (mk I L t)).bind fun v => Res (d + 1) 173 101 [vr 12 i0, vi x1] (psh 174 v.1 []) v.2 :=
  Eq.trans (e_aload_n D173_97 rfl rfl) <| e_callV D173_98 rfl o_173 m_12_359 (by decide) rfl rfl
theorem b173_101 {d : Nat} {i0 : Nat} {x1 xs0 : Int} {I L : Nat → Nat → Nat → Int} {t : Nat → Nat} : Res d 173 101 [vr 12 i0, vi x1] [vi xs0] (mk I L t) = if ¬ xs0 = 0 then Res d 173 106 [vr 12 i0, vi x1] [] (mk I L t) else Res d 173 104 [vr 12 i0, vi x1] [] (mk I L t) :=
  e_ifne D173_101 rfl rfl
theorem b173_104 {d : Nat} {i0 : Nat} {x1 : Int} {I L : Nat → Nat → Nat → Int} {t : Nat → Nat} : Res d 173 104 [vr 12 i0, vi x1] [] (mk I L t) = some (vi 0, (mk I L t)) :=
  Eq.trans (e_iconst (x := 0) D173_104 rfl rfl) <| e_iret D173_105 rfl
theorem b173_106 {d : Nat} {i0 : Nat} {x1 : Int} {I L : Nat → Nat → Nat → Int} {t : Nat → Nat} : Res (d + 1) 173 106 [vr 12 i0, vi x1] [] (mk I L t) = (Cal d 171 [vr 12 i0, vi 13, vi 0] (mk I L t)).bind fun v => Res (d + 1) 173 113 [vr 12 i0, vi x1] (psh 171 v.1 []) v.2 :=
  Eq.trans (e_aload_n D173_106 rfl rfl) <| Eq.trans (e_bipush (x := 13) D173_107 rfl rfl) <| Eq.trans (e_iconst (x := 0) D173_109 rfl rfl) <| e_callV D173_110 rfl o_173 m_12_355 (by decide) rfl rfl
theorem b173_113 {d : Nat} {i0 : Nat} {x1 : Int} {I L : Nat → Nat → Nat → Int} {t : Nat → Nat} : Res d 173 113 [vr 12 i0, vi x1] [] (mk I L t) = Res d 173 9 [vr 12 i0, vi x1] [] (mk I L t) :=
  e_goto (q1 := 9) D173_113 rfl
theorem b173_116 {d : Nat} {i0 : Nat} {u1 : MV} {I L : Nat → Nat → Nat → Int} {t : Nat → Nat} : Res d 173 116 [vr 12 i0, u1] [] (mk I L t) = some (vi 1, (mk I L t)) :=
  Eq.trans (e_iconst (x := 1) D173_116 rfl rfl) <| e_iret D173_117 rfl
/-! m_unit -/
theorem cc_174 : cod 174 = cX12_unit := rfl
theorem D174_0 : decode (cod 174) 0 = .ok (.aload_n 0, 1) := by rw [cc_174]; decide +kernel
theorem D174_1 : decode (cod 174) 1 = .ok (.getfield 318, 3) := by rw [cc_174]; decide +kernel
theorem D174_4 : decode (cod 174) 4 = .ok (.sipush 140, 3) := by rw [cc_174]; decide +kernel
theorem D174_7 : decode (cod 174) 7 = .ok (.if_icmp .ne 62, 3) := by rw [cc_174]; decide +kernel
theorem D174_10 : decode (cod 174) 10 = .ok (.aload_n 0, 1) := by rw [cc_174]; decide +kernel
theorem D174_11 : decode (cod 174) 11 = .ok (.getfield 362, 3) := by rw [cc_174]; decide +kernel
theorem D174_14 : decode (cod 174) 14 = .ok (.bipush 8, 2) := by rw [cc_174]; decide +kernel
theorem D174_16 : decode (cod 174) 16 = .ok (.if_icmp .ne 9, 3) := by rw [cc_174]; decide +kernel
theorem D174_19 : decode (cod 174) 19 = .ok (.aload_n 0, 1) := by rw [cc_174]; decide +kernel
theorem D174_20 : decode (cod 174) 20 = .ok (.iconst 3, 1) := by rw [cc_174]; decide +kernel
theorem D174_21 : decode (cod 174) 21 = .ok (.invokevirtual 342, 3) := by rw [cc_174]; decide +kernel
theorem D174_24 : decode (cod 174) 24 = .ok (.ireturn, 1) := by rw [cc_174]; decide +kernel
theorem D174_25 : decode (cod 174) 25 = .ok (.aload_n 0, 1) := by rw [cc_174]; decide +kernel
theorem D174_26 : decode (cod 174) 26 = .ok (.dup, 1) := by rw [cc_174]; decide +kernel
theorem D174_27 : decode (cod 174) 27 = .ok (.getfield 362, 3) := by rw [cc_174]; decide +kernel
theorem D174_30 : decode (cod 174) 30 = .ok (.iconst 1, 1) := by rw [cc_174]; decide +kernel
theorem D174_31 : decode (cod 174) 31 = .ok (.iadd, 1) := by rw [cc_174]; decide +kernel
theorem D174_32 : decode (cod 174) 32 = .ok (.putfield 362, 3) := by rw [cc_174]; decide +kernel
theorem D174_35 : decode (cod 174) 35 = .ok (.aload_n 0, 1) := by rw [cc_174]; decide +kernel
theorem D174_36 : decode (cod 174) 36 = .ok (.invokevirtual 345, 3) := by rw [cc_174]; decide +kernel
theorem D174_39 : decode (cod 174) 39 = .ok (.aload_n 0, 1) := by rw [cc_174]; decide +kernel
theorem D174_40 : decode (cod 174) 40 = .ok (.invokevirtual 365, 3) := by rw [cc_174]; decide +kernel
theorem D174_43 : decode (cod 174) 43 = .ok (.ifCond .eq 12, 3) := by rw [cc_174]; decide +kernel
theorem D174_46 : decode (cod 174) 46 = .ok (.aload_n 0, 1) := by rw [cc_174]; decide +kernel
theorem D174_47 : decode (cod 174) 47 = .ok (.bipush 41, 2) := by rw [cc_174]; decide +kernel
theorem D174_49 : decode (cod 174) 49 = .ok (.invokevirtual 368, 3) := by rw [cc_174]; decide +kernel
theorem D174_52 : decode (cod 174) 52 = .ok (.ifCond .ne 5, 3) := by rw [cc_174]; decide +kernel
theorem D174_55 : decode (cod 174) 55 = .ok (.iconst 0, 1) := by rw [cc_174]; decide +kernel
theorem D174_56 : decode (cod 174) 56 = .ok (.ireturn, 1) := by rw [cc_174]; decide +kernel
theorem D174_57 : decode (cod 174) 57 = .ok (.aload_n 0, 1) := by rw [cc_174]; decide +kernel
theorem D174_58 : decode (cod 174) 58 = .ok (.dup, 1) := by rw [cc_174]; decide +kernel
theorem D174_59 : decode (cod 174) 59 = .ok (.getfield 362, 3) := by rw [cc_174]; decide +kernel
theorem D174_62 : decode (cod 174) 62 = .ok (.iconst 1, 1) := by rw [cc_174]; decide +kernel
theorem D174_63 : decode (cod 174) 63 = .ok (.isub, 1) := by rw [cc_174]; decide +kernel
theorem D174_64 : decode (cod 174) 64 = .ok (.putfield 362, 3) := by rw [cc_174]; decide +kernel
theorem D174_67 : decode (cod 174) 67 = .ok (.iconst 1, 1) := by rw [cc_174]; decide +kernel
theorem D174_68 : decode (cod 174) 68 = .ok (.ireturn, 1) := by rw [cc_174]; decide +kernel
theorem D174_69 : decode (cod 174) 69 = .ok (.aload_n 0, 1) := by rw [cc_174]; decide +kernel
theorem D174_70 : decode (cod 174) 70 = .ok (.getfield 318, 3) := by rw [cc_174]; decide +kernel
theorem D174_73 : decode (cod 174) 73 = .ok (.bipush 40, 2) := by rw [cc_174]; decide +kernel
theorem D174_75 : decode (cod 174) 75 = .ok (.bipush 50, 2) := by rw [cc_174]; decide +kernel
theorem D174_77 : decode (cod 174) 77 = .ok (.invokestatic 219, 3) := by rw [cc_174]; decide +kernel
theorem D174_80 : decode (cod 174) 80 = .ok (.istore_n 1, 1) := by rw [cc_174]; decide +kernel
theorem D174_81 : decode (cod 174) 81 = .ok (.aload_n 0, 1) := by rw [cc_174]; decide +kernel
theorem D174_82 : decode (cod 174) 82 = .ok (.getfield 318, 3) := by rw [cc_174]; decide +kernel
theorem D174_85 : decode (cod 174) 85 = .ok (.iconst 2, 1) := by rw [cc_174]; decide +kernel
theorem D174_86 : decode (cod 174) 86 = .ok (.if_icmp .eq 13, 3) := by rw [cc_174]; decide +kernel
theorem D174_89 : decode (cod 174) 89 = .ok (.iload_n 1, 1) := by rw [cc_174]; decide +kernel
theorem D174_90 : decode (cod 174) 90 = .ok (.ifCond .ne 9, 3) := by rw [cc_174]; decide +kernel
theorem D174_93 : decode (cod 174) 93 = .ok (.aload_n 0, 1) := by rw [cc_174]; decide +kernel
theorem D174_94 : decode (cod 174) 94 = .ok (.iconst 1, 1) := by rw [cc_174]; decide +kernel
theorem D174_95 : decode (cod 174) 95 = .ok (.invokevirtual 342, 3) := by rw [cc_174]; decide +kernel
theorem D174_98 : decode (cod 174) 98 = .ok (.ireturn, 1) := by rw [cc_174]; decide +kernel
theorem D174_99 : decode (cod 174) 99 = .ok (.aload_n 0, 1) := by rw [cc_174]; decide +kernel
theorem D174_100 : decode (cod 174) 100 = .ok (.aload_n 0, 1) := by rw [cc_174]; decide +kernel
theorem D174_101 : decode (cod 174) 101 = .ok (.getfield 318, 3) := by rw [cc_174]; decide +kernel
theorem D174_104 : decode (cod 174) 104 = .ok (.iconst 2, 1) := by rw [cc_174]; decide +kernel
theorem D174_105 : decode (cod 174) 105 = .ok (.if_icmp .ne 7, 3) := by rw [cc_174]; decide +kernel
theorem D174_108 : decode (cod 174) 108 = .ok (.iconst 0, 1) := by rw [cc_174]; decide +kernel
theorem D174_109 : decode (cod 174) 109 = .ok (.goto 10, 3) := by rw [cc_174]; decide +kernel
theorem D174_112 : decode (cod 174) 112 = .ok (.aload_n 0, 1) := by rw [cc_174]; decide +kernel
theorem D174_113 : decode (cod 174) 113 = .ok (.getfield 318, 3) := by rw [cc_174]; decide +kernel
theorem D174_116 : decode (cod 174) 116 = .ok (.bipush 40, 2) := by rw [cc_174]; decide +kernel
theorem D174_118 : decode (cod 174) 118 = .ok (.isub, 1) := by rw [cc_174]; decide +kernel
theorem D174_119 : decode (cod 174) 119 = .ok (.aload_n 0, 1) := by rw [cc_174]; decide +kernel
theorem D174_120 : decode (cod 174) 120 = .ok (.getfield 330, 3) := by rw [cc_174]; decide +kernel
theorem D174_123 : decode (cod 174) 123 = .ok (.invokevirtual 355, 3) := by rw [cc_174]; decide +kernel
theorem D174_126 : decode (cod 174) 126 = .ok (.aload_n 0, 1) := by rw [cc_174]; decide +kernel
theorem D174_127 : decode (cod 174) 127 = .ok (.invokevirtual 345, 3) := by rw [cc_174]; decide +kernel
theorem D174_130 : decode (cod 174) 130 = .ok (.iconst 1, 1) := by rw [cc_174]; decide +kernel
theorem D174_131 : decode (cod 174) 131 = .ok (.ireturn, 1) := by rw [cc_174]; decide +kernel
theorem b174_0 {d : Nat} {i0 : Nat} {I L : Nat → Nat → Nat → Int} {t : Nat → Nat} : Res d 174 0 [vr 12 i0, vx] [] (mk I L t) = if ¬ I 12 i0 38 = 140 then Res d 174 69 [vr 12 i0, vx] [] (mk I L t) else Res d 174 10 [vr 12 i0, vx] [] (mk I L t) :=
  Eq.trans (e_aload_n D174_0 rfl rfl) <| Eq.trans (e_getI D174_1 rfl o_174 f_12_318 (sh_12 _) (by decide)) <| Eq.trans (e_sipush (x := 140) D174_4 rfl rfl) <| e_icne D174_7 rfl rfl
theorem b174_10 {d : Nat} {i0 : Nat} {I L : Nat → Nat → Nat → Int} {t : Nat → Nat} : Res d 174 10 [vr 12 i0, vx] [] (mk I L t) = if ¬ I 12 i0 44 = 8 then Res d 174 25 [vr 12 i0, vx] [] (mk I L t) else Res d 174 19 [vr 12 i0, vx] [] (mk I L t) :=
  Eq.trans (e_aload_n D174_10 rfl rfl) <| Eq.trans (e_getI D174_11 rfl o_174 f_12_362 (sh_12 _) (by decide)) <| Eq.trans (e_bipush (x := 8) D174_14 rfl rfl) <| e_icne D174_16 rfl rfl
theorem b174_19 {d : Nat} {i0 : Nat} {I L : Nat → Nat → Nat → Int} {t : Nat → Nat} : Res (d + 1) 174 19 [vr 12 i0, vx] [] (mk I L t) = (Cal d 169 [vr 12 i0, vi 3] (mk I L t)).bind fun v => Res (d + 1) 174 24 [vr 12 i0, vx] (psh 169 v.1 []) v.2 :=
  Eq.trans (e_aload_n D174_19 rfl rfl) <| Eq.trans (e_iconst (x := 3) D174_20 rfl rfl) <| e_callV D174_21 rfl o_174 m_12_342 (by decide) rfl rfl
theorem b174_24 {d : Nat} {i0 : Nat} {xs0 : Int} {I L : Nat → Nat → Nat → Int} {t : Nat → Nat} (g1 : xs0 = 0 ∨ xs0 = 1) : Res d 174 24 [vr 12 i0, vx] [vi xs0] (mk I L t) = some (vi xs0, (mk I L t)) :=
  e_iret D174_24 (nrz rfl g1)
theorem b174_25 {d : Nat} {i0 : Nat} {I L : Nat → Nat → Nat → Int} {t : Nat → Nat} : Res (d + 1) 174 25 [vr 12 i0, vx] [] (mk I L t) = (Cal d 168 [vr 12 i0] (mk (up3 I 12 i0 44 (w32 ((I 12 i0 44) + 1))) L t)).bind fun v => Res (d + 1) 174 39 [vr 12 i0, vx] (psh 168 v.1 []) v.2 :=
  Eq.trans (e_aload_n D174_25 rfl rfl) <| Eq.trans (e_dup D174_26 rfl) <| Eq.trans (e_getI D174_27 rfl o_174 f_12_362 (sh_12 _) (by decide)) <| Eq.trans (e_iconst (x := 1) D174_30 rfl rfl) <| Eq.trans (e_iadd D174_31 rfl) <| Eq.trans (e_putI D174_32 rfl o_174 f_12_362 (sh_12 _) rfl (by decide) (Or.inl (by decide))) <| Eq.trans (e_aload_n D174_35 rfl rfl) <| e_callV D174_36 rfl o_174 m_12_345 (by decide) rfl rfl
theorem b174_39 {d : Nat} {i0 : Nat} {I L : Nat → Nat → Nat → Int} {t : Nat → Nat} : Res (d + 1) 174 39 [vr 12 i0, vx] [] (mk I L t) = (Cal d 172 [vr 12 i0] (mk I L t)).bind fun v => Res (d + 1) 174 43 [vr 12 i0, vx] (psh 172 v.1 []) v.2 :=
  Eq.trans (e_aload_n D174_39 rfl rfl) <| e_callV D174_40 rfl o_174 m_12_365 (by decide) rfl rfl
theorem b174_43 {d : Nat} {i0 : Nat} {xs0 : Int} {I L : Nat → Nat → Nat → Int} {t : Nat → Nat} : Res d 174 43 [vr 12 i0, vx] [vi xs0] (mk I L t) = if xs0 = 0 then Res d 174 55 [vr 12 i0, vx] [] (mk I L t) else Res d 174 46 [vr 12 i0, vx] [] (mk I L t) :=
  e_ifeq D174_43 rfl rfl
theorem b174_46 {d : Nat} {i0 : Nat} {I L : Nat → Nat → Nat → Int} {t : Nat → Nat} : Res (d + 1) 174 46 [vr 12 i0, vx] [] (mk I L t) = (Cal d 170 [vr 12 i0, vi 41] (mk I L t)).bind fun v => Res (d + 1) 174 52 [vr 12 i0, vx] (psh 170 v.1 []) v.2 :=
  Eq.trans (e_aload_n D174_46 rfl rfl) <| Eq.trans (e_bipush (x := 41) D174_47 rfl rfl) <| e_callV D174_49 rfl o_174 m_12_368 (by decide) rfl rfl
theorem b174_52 {d : Nat} {i0 : Nat} {xs0 : Int} {I L : Nat → Nat → Nat → Int} {t : Nat → Nat} : Res d 174 52 [vr 12 i0, vx] [vi xs0] (mk I L t) = if ¬ xs0 = 0 then Res d 174 57 [vr 12 i0, vx] [] (mk I L t) else Res d 174 55 [vr 12 i0, vx] [] (mk I L t) :=
  e_ifne D174_52 rfl rfl
theorem b174_55 {d : Nat} {i0 : Nat} {I L : Nat → Nat → Nat → Int} {t : Nat → Nat} : Res d 174 55 [vr 12 i0, vx] [] (mk I L t) = some (vi 0, (mk I L t)) :=
  Eq.trans (e_iconst (x := 0) D174_55 rfl rfl) <| e_iret D174_56 rfl
theorem b174_57 {d : Nat} {i0 : Nat} {I L : Nat → Nat → Nat → Int} {t : Nat → Nat} : Res d 174 57 [vr 12 i0, vx] [] (mk I L t) = some (vi 1, (mk (up3 I 12 i0 44 (w32 ((I 12 i0 44) - 1))) L t)) :=
  Eq.trans (e_aload_n D174_57 rfl rfl) <| Eq.trans (e_dup D174_58 rfl) <| Eq.trans (e_getI D174_59 rfl o_174 f_12_362 (sh_12 _) (by decide)) <| Eq.trans (e_iconst (x := 1) D174_62 rfl rfl) <| Eq.trans (e_isub D174_63 rfl) <| Eq.trans (e_putI D174_64 rfl o_174 f_12_362 (sh_12 _) rfl (by decide) (Or.inl (by decide))) <| Eq.trans (e_iconst (x := 1) D174_67 rfl rfl) <| e_iret D174_68 rfl
theorem b174_69 {d : Nat} {i0 : Nat} {I L : Nat → Nat → Nat → Int} {t : Nat → Nat} : Res (d + 1) 174 69 [vr 12 i0, vx] [] (mk I L t) = (Cal d 146 [vi (I 12 i0 38), vi 40, vi 50] (mk I L t)).bind fun v => Res (d + 1) 174 80 [vr 12 i0, vx] (psh 146 v.1 []) v.2 :=
  Eq.trans (e_aload_n D174_69 rfl rfl) <| Eq.trans (e_getI D174_70 rfl o_174 f_12_318 (sh_12 _) (by decide)) <| Eq.trans (e_bipush (x := 40) D174_73 rfl rfl) <| Eq.trans (e_bipush (x := 50) D174_75 rfl rfl) <| e_callS D174_77 rfl o_174 m_12_219 (by decide) rfl rfl
theorem b174_80 {d : Nat} {i0 : Nat} {xs0 : Int} {I L : Nat → Nat → Nat → Int} {t : Nat → Nat} : Res d 174 80 [vr 12 i0, vx] [vi xs0] (mk I L t) = if I 12 i0 38 = 2 then Res d 174 99 [vr 12 i0, vi xs0] [] (mk I L t) else Res d 174 89 [vr 12 i0, vi xs0] [] (mk I L t) :=
  Eq.trans (e_istore_n (ls1 := [vr 12 i0, vi xs0]) D174_80 rfl (show 1 < 2 by decide) rfl) <| Eq.trans (e_aload_n D174_81 rfl rfl) <| Eq.trans (e_getI D174_82 rfl o_174 f_12_318 (sh_12 _) (by decide)) <| Eq.trans (e_iconst (x := 2) D174_85 rfl rfl) <| e_iceq D174_86 rfl rfl
theorem b174_89 {d : Nat} {i0 : Nat} {x1 : Int} {I L : Nat → Nat → Nat → Int} {t : Nat → Nat} : Res d 174 89 [vr 12 i0, vi x1] [] (mk I L t) = if ¬ x1 = 0 then Res d 174 99 [vr 12 i0, vi x1] [] (mk I L t) else Res d 174 93 [vr 12 i0, vi x1] [] (mk I L t) :=
  Eq.trans (e_iload_n D174_89 rfl rfl) <| e_ifne D174_90 rfl rfl
theorem b174_93 {d : Nat} {i0 : Nat} {x1 : Int} {I L : Nat → Nat → Nat → Int} {t : Nat → Nat} : Res (d + 1) 174 93 [vr 12 i0, vi x1] [] (mk I L t) = (Cal d 169 [vr 12 i0, vi 1] (mk I L t)).bind fun v => Res (d + 1) 174 98 [vr 12 i0, vi x1] (psh 169 v.1 []) v.2 :=
  Eq.trans (e_aload_n D174_93 rfl rfl) <| Eq.trans (e_iconst (x := 1) D174_94 rfl rfl) <| e_callV D174_95 rfl o_174 m_12_342 (by decide) rfl rfl
theorem b174_98 {d : Nat} {i0 : Nat} {x1 xs0 : Int} {I L : Nat → Nat → Nat → Int} {t : Nat → Nat} (g1 : xs0 = 0 ∨ xs0 = 1) : Res d 174 98 [vr 12 i0, vi x1] [vi xs0] (mk I L t) = some (vi xs0, (mk I L t)) :=
  e_iret D174_98 (nrz rfl g1)
theorem b174_99 {d : Nat} {i0 : Nat} {x1 : Int} {I L : Nat → Nat → Nat → Int} {t : Nat → Nat} : Res d 174 99 [vr 12 i0, vi x1] [] (mk I L t) = if ¬ I 12 i0 38 = 2 then Res d 174 112 [vr 12 i0, vi x1] [vr 12 i0] (mk I L t) else Res d 174 108 [vr 12 i0, vi x1] [vr 12 i0] (mk I L t) :=
  Eq.trans (e_aload_n D174_99 rfl rfl) <| Eq.trans (e_aload_n D174_100 rfl rfl) <| Eq.trans (e_getI D174_101 rfl o_174 f_12_318 (sh_12 _) (by decide)) <| Eq.trans (e_iconst (x := 2) D174_104 rfl rfl) <| e_icne D174_105 rfl rfl
theorem b174_108 {d : Nat} {i0 is0 : Nat} {x1 : Int} {I L : Nat → Nat → Nat → Int} {t : Nat → Nat} : Res d 174 108 [vr 12 i0, vi x1] [vr 12 is0] (mk I L t) = Res d 174 119 [vr 12 i0, vi x1] [vi 0, vr 12 is0] (mk I L t) :=
  Eq.trans (e_iconst (x := 0) D174_108 rfl rfl) <| e_goto (q1 := 119) D174_109 rfl
theorem b174_112 {d : Nat} {i0 is0 : Nat} {x1 : Int} {I L : Nat → Nat → Nat → Int} {t : Nat → Nat} : Res d 174 112 [vr 12 i0, vi x1] [vr 12 is0] (mk I L t) = Res d 174 119 [vr 12 i0, vi x1] [vi (w32 ((I 12 i0 38) - 40)), vr 12 is0] (mk I L t) :=
  Eq.trans (e_aload_n D174_112 rfl rfl) <| Eq.trans (e_getI D174_113 rfl o_174 f_12_318 (sh_12 _) (by decide)) <| Eq.trans (e_bipush (x := 40) D174_116 rfl rfl) <| e_isub D174_118 rfl
theorem b174_119 {d : Nat} {i0 is0 : Nat} {x1 xs1 : Int} {I L : Nat → Nat → Nat → Int} {t : Nat → Nat} : Res (d + 1) 174 119 [vr 12 i0, vi x1] [vi xs1, vr 12 is0] (mk I L t) = (Cal d 171 [vr 12 is0, vi xs1, vi (I 12 i0 40)] (mk I L t)).bind fun v => Res (d + 1) 174 126 [vr 12 i0, vi x1] (psh 171 v.1 []) v.2 :=
  Eq.trans (e_aload_n D174_119 rfl rfl) <| Eq.trans (e_getI D174_120 rfl o_174 f_12_330 (sh_12 _) (by decide)) <| e_callV D174_123 rfl o_174 m_12_355 (by decide) rfl rfl
theorem b174_126 {d : Nat} {i0 : Nat} {x1 : Int} {I L : Nat → Nat → Nat → Int} {t : Nat → Nat} : Res (d + 1) 174 126 [vr 12 i0, vi x1] [] (mk I L t) = (Cal d 168 [vr 12 i0] (mk I L t)).bind fun v => Res (d + 1) 174 130 [vr 12 i0, vi x1] (psh 168 v.1 []) v.2 :=
  Eq.trans (e_aload_n D174_126 rfl rfl) <| e_callV D174_127 rfl o_174 m_12_345 (by decide) rfl rfl
theorem b174_130 {d : Nat} {i0 : Nat} {x1 : Int} {I L : Nat → Nat → Nat → Int} {t : Nat → Nat} : Res d 174 130 [vr 12 i0, vi x1] [] (mk I L t) = some (vi 1, (mk I L t)) :=
  Eq.trans (e_iconst (x := 1) D174_130 rfl rfl) <| e_iret D174_131 rfl
/-! m_headLine -/
theorem cc_175 : cod 175 = cX12_headLine := rfl
theorem D175_0 : decode (cod 175) 0 = .ok (.aload_n 0, 1) := by rw [cc_175]; decide +kernel
theorem D175_1 : decode (cod 175) 1 = .ok (.getfield 318, 3) := by rw [cc_175]; decide +kernel
theorem D175_4 : decode (cod 175) 4 = .ok (.bipush 20, 2) := by rw [cc_175]; decide +kernel
theorem D175_6 : decode (cod 175) 6 = .ok (.bipush 27, 2) := by rw [cc_175]; decide +kernel
theorem D175_8 : decode (cod 175) 8 = .ok (.invokestatic 219, 3) := by rw [cc_175]; decide +kernel
theorem D175_11 : decode (cod 175) 11 = .ok (.ifCond .ne 9, 3) := by rw [cc_175]; decide +kernel
theorem D175_14 : decode (cod 175) 14 = .ok (.aload_n 0, 1) := by rw [cc_175]; decide +kernel
theorem D175_15 : decode (cod 175) 15 = .ok (.iconst 1, 1) := by rw [cc_175]; decide +kernel
theorem D175_16 : decode (cod 175) 16 = .ok (.invokevirtual 342, 3) := by rw [cc_175]; decide +kernel
theorem D175_19 : decode (cod 175) 19 = .ok (.ireturn, 1) := by rw [cc_175]; decide +kernel
theorem D175_20 : decode (cod 175) 20 = .ok (.aload_n 0, 1) := by rw [cc_175]; decide +kernel
theorem D175_21 : decode (cod 175) 21 = .ok (.getfield 318, 3) := by rw [cc_175]; decide +kernel
theorem D175_24 : decode (cod 175) 24 = .ok (.bipush 20, 2) := by rw [cc_175]; decide +kernel
theorem D175_26 : decode (cod 175) 26 = .ok (.isub, 1) := by rw [cc_175]; decide +kernel
theorem D175_27 : decode (cod 175) 27 = .ok (.istore_n 1, 1) := by rw [cc_175]; decide +kernel
theorem D175_28 : decode (cod 175) 28 = .ok (.aload_n 0, 1) := by rw [cc_175]; decide +kernel
theorem D175_29 : decode (cod 175) 29 = .ok (.getfield 49, 3) := by rw [cc_175]; decide +kernel
theorem D175_32 : decode (cod 175) 32 = .ok (.iload_n 1, 1) := by rw [cc_175]; decide +kernel
theorem D175_33 : decode (cod 175) 33 = .ok (.iaload, 1) := by rw [cc_175]; decide +kernel
theorem D175_34 : decode (cod 175) 34 = .ok (.ifCond .le 9, 3) := by rw [cc_175]; decide +kernel
theorem D175_37 : decode (cod 175) 37 = .ok (.aload_n 0, 1) := by rw [cc_175]; decide +kernel
theorem D175_38 : decode (cod 175) 38 = .ok (.iconst 2, 1) := by rw [cc_175]; decide +kernel
theorem D175_39 : decode (cod 175) 39 = .ok (.invokevirtual 342, 3) := by rw [cc_175]; decide +kernel
theorem D175_42 : decode (cod 175) 42 = .ok (.ireturn, 1) := by rw [cc_175]; decide +kernel
theorem D175_43 : decode (cod 175) 43 = .ok (.aload_n 0, 1) := by rw [cc_175]; decide +kernel
theorem D175_44 : decode (cod 175) 44 = .ok (.invokevirtual 345, 3) := by rw [cc_175]; decide +kernel
theorem D175_47 : decode (cod 175) 47 = .ok (.aload_n 0, 1) := by rw [cc_175]; decide +kernel
theorem D175_48 : decode (cod 175) 48 = .ok (.iconst 0, 1) := by rw [cc_175]; decide +kernel
theorem D175_49 : decode (cod 175) 49 = .ok (.putfield 362, 3) := by rw [cc_175]; decide +kernel
theorem D175_52 : decode (cod 175) 52 = .ok (.aload_n 0, 1) := by rw [cc_175]; decide +kernel
theorem D175_53 : decode (cod 175) 53 = .ok (.getfield 46, 3) := by rw [cc_175]; decide +kernel
theorem D175_56 : decode (cod 175) 56 = .ok (.iload_n 1, 1) := by rw [cc_175]; decide +kernel
theorem D175_57 : decode (cod 175) 57 = .ok (.aload_n 0, 1) := by rw [cc_175]; decide +kernel
theorem D175_58 : decode (cod 175) 58 = .ok (.getfield 348, 3) := by rw [cc_175]; decide +kernel
theorem D175_61 : decode (cod 175) 61 = .ok (.iastore, 1) := by rw [cc_175]; decide +kernel
theorem D175_62 : decode (cod 175) 62 = .ok (.aload_n 0, 1) := by rw [cc_175]; decide +kernel
theorem D175_63 : decode (cod 175) 63 = .ok (.invokevirtual 365, 3) := by rw [cc_175]; decide +kernel
theorem D175_66 : decode (cod 175) 66 = .ok (.ifCond .ne 5, 3) := by rw [cc_175]; decide +kernel
theorem D175_69 : decode (cod 175) 69 = .ok (.iconst 0, 1) := by rw [cc_175]; decide +kernel
theorem D175_70 : decode (cod 175) 70 = .ok (.ireturn, 1) := by rw [cc_175]; decide +kernel
theorem D175_71 : decode (cod 175) 71 = .ok (.aload_n 0, 1) := by rw [cc_175]; decide +kernel
theorem D175_72 : decode (cod 175) 72 = .ok (.getfield 49, 3) := by rw [cc_175]; decide +kernel
theorem D175_75 : decode (cod 175) 75 = .ok (.iload_n 1, 1) := by rw [cc_175]; decide +kernel
theorem D175_76 : decode (cod 175) 76 = .ok (.aload_n 0, 1) := by rw [cc_175]; decide +kernel
theorem D175_77 : decode (cod 175) 77 = .ok (.getfield 348, 3) := by rw [cc_175]; decide +kernel
theorem D175_80 : decode (cod 175) 80 = .ok (.iastore, 1) := by rw [cc_175]; decide +kernel
theorem D175_81 : decode (cod 175) 81 = .ok (.aload_n 0, 1) := by rw [cc_175]; decide +kernel
theorem D175_82 : decode (cod 175) 82 = .ok (.bipush 59, 2) := by rw [cc_175]; decide +kernel
theorem D175_84 : decode (cod 175) 84 = .ok (.invokevirtual 368, 3) := by rw [cc_175]; decide +kernel
theorem D175_87 : decode (cod 175) 87 = .ok (.ireturn, 1) := by rw [cc_175]; decide +kernel
theorem b175_0 {d : Nat} {i0 : Nat} {I L : Nat → Nat → Nat → Int} {t : Nat → Nat} : Res (d + 1) 175 0 [vr 12 i0, vx] [] (mk I L t) = (Cal d 146 [vi (I 12 i0 38), vi 20, vi 27] (mk I L t)).bind fun v => Res (d + 1) 175 11 [vr 12 i0, vx] (psh 146 v.1 []) v.2 :=
  Eq.trans (e_aload_n D175_0 rfl rfl) <| Eq.trans (e_getI D175_1 rfl o_175 f_12_318 (sh_12 _) (by decide)) <| Eq.trans (e_bipush (x := 20) D175_4 rfl rfl) <| Eq.trans (e_bipush (x := 27) D175_6 rfl rfl) <| e_callS D175_8 rfl o_175 m_12_219 (by decide) rfl rfl
theorem b175_11 {d : Nat} {i0 : Nat} {xs0 : Int} {I L : Nat → Nat → Nat → Int} {t : Nat → Nat} : Res d 175 11 [vr 12 i0, vx] [vi xs0] (mk I L t) = if ¬ xs0 = 0 then Res d 175 20 [vr 12 i0, vx] [] (mk I L t) else Res d 175 14 [vr 12 i0, vx] [] (mk I L t) :=
  e_ifne D175_11 rfl rfl
theorem b175_14 {d : Nat} {i0 : Nat} {I L : Nat → Nat → Nat → Int} {t : Nat → Nat} : Res (d + 1) 175 14 [vr 12 i0, vx] [] (mk I L t) = (Cal d 169 [vr 12 i0, vi 1] (mk I L t)).bind fun v => Res (d + 1) 175 19 [vr 12 i0, vx] (psh 169 v.1 []) v.2 :=
  Eq.trans (e_aload_n D175_14 rfl rfl) <| Eq.trans (e_iconst (x := 1) D175_15 rfl rfl) <| e_callV D175_16 rfl o_175 m_12_342 (by decide) rfl rfl
theorem b175_19 {d : Nat} {i0 : Nat} {xs0 : Int} {I L : Nat → Nat → Nat → Int} {t : Nat → Nat} (g1 : xs0 = 0 ∨ xs0 = 1) : Res d 175 19 [vr 12 i0, vx] [vi xs0] (mk I L t) = some (vi xs0, (mk I L t)) :=
  e_iret D175_19 (nrz rfl g1)
theorem b175_20 {d : Nat} {i0 : Nat} {I L : Nat → Nat → Nat → Int} {t : Nat → Nat} (g1 : 0 ≤ w32 ((I 12 i0 38) - 20) ∧ w32 ((I 12 i0 38) - 20) < 8) : Res d 175 20 [vr 12 i0, vx] [] (mk I L t) = if I 61 i0 (w32 ((I 12 i0 38) - 20)).toNat ≤ 0 then Res d 175 43 [vr 12 i0, vi (w32 ((I 12 i0 38) - 20))] [] (mk I L t) else Res d 175 37 [vr 12 i0, vi (w32 ((I 12 i0 38) - 20))] [] (mk I L t) :=
  Eq.trans (e_aload_n D175_20 rfl rfl) <| Eq.trans (e_getI D175_21 rfl o_175 f_12_318 (sh_12 _) (by decide)) <| Eq.trans (e_bipush (x := 20) D175_24 rfl rfl) <| Eq.trans (e_isub D175_26 rfl) <| Eq.trans (e_istore_n (ls1 := [vr 12 i0, vi (w32 ((I 12 i0 38) - 20))]) D175_27 rfl (show 1 < 2 by decide) rfl) <| Eq.trans (e_aload_n D175_28 rfl rfl) <| Eq.trans (e_getP (p := (61, i0)) D175_29 rfl o_175 f_12_49 (sh_12 _) (by decide) (pp_12_19 _ _)) <| Eq.trans (e_iload_n D175_32 rfl rfl) <| Eq.trans (e_iald D175_33 rfl (al_61 _) g1) <| e_ifle D175_34 rfl rfl
theorem b175_37 {d : Nat} {i0 : Nat} {x1 : Int} {I L : Nat → Nat → Nat → Int} {t : Nat → Nat} : Res (d + 1) 175 37 [vr 12 i0, vi x1] [] (mk I L t) = (Cal d 169 [vr 12 i0, vi 2] (mk I L t)).bind fun v => Res (d + 1) 175 42 [vr 12 i0, vi x1] (psh 169 v.1 []) v.2 :=
  Eq.trans (e_aload_n D175_37 rfl rfl) <| Eq.trans (e_iconst (x := 2) D175_38 rfl rfl) <| e_callV D175_39 rfl o_175 m_12_342 (by decide) rfl rfl
theorem b175_42 {d : Nat} {i0 : Nat} {x1 xs0 : Int} {I L : Nat → Nat → Nat → Int} {t : Nat → Nat} (g1 : xs0 = 0 ∨ xs0 = 1) : Res d 175 42 [vr 12 i0, vi x1] [vi xs0] (mk I L t) = some (vi xs0, (mk I L t)) :=
  e_iret D175_42 (nrz rfl g1)
theorem b175_43 {d : Nat} {i0 : Nat} {x1 : Int} {I L : Nat → Nat → Nat → Int} {t : Nat → Nat} : Res (d + 1) 175 43 [vr 12 i0, vi x1] [] (mk I L t) = (Cal d 168 [vr 12 i0] (mk I L t)).bind fun v => Res (d + 1) 175 47 [vr 12 i0, vi x1] (psh 168 v.1 []) v.2 :=
  Eq.trans (e_aload_n D175_43 rfl rfl) <| e_callV D175_44 rfl o_175 m_12_345 (by decide) rfl rfl
theorem b175_47 {d : Nat} {i0 : Nat} {x1 : Int} {I L : Nat → Nat → Nat → Int} {t : Nat → Nat} (g1 : 0 ≤ x1 ∧ x1 < 8) : Res (d + 1) 175 47 [vr 12 i0, vi x1] [] (mk I L t) = (Cal d 172 [vr 12 i0] (mk (up3 (up3 I 12 i0 44 0) 60 i0 x1.toNat ((up3 I 12 i0 44 0) 12 i0 35)) L t)).bind fun v => Res (d + 1) 175 66 [vr 12 i0, vi x1] (psh 172 v.1 []) v.2 :=
  Eq.trans (e_aload_n D175_47 rfl rfl) <| Eq.trans (e_iconst (x := 0) D175_48 rfl rfl) <| Eq.trans (e_putI D175_49 rfl o_175 f_12_362 (sh_12 _) rfl (by decide) (Or.inl (by decide))) <| Eq.trans (e_aload_n D175_52 rfl rfl) <| Eq.trans (e_getP (p := (60, i0)) D175_53 rfl o_175 f_12_46 (sh_12 _) (by decide) (pp_12_18 _ _)) <| Eq.trans (e_iload_n D175_56 rfl rfl) <| Eq.trans (e_aload_n D175_57 rfl rfl) <| Eq.trans (e_getI D175_58 rfl o_175 f_12_348 (sh_12 _) (by decide)) <| Eq.trans (e_iast D175_61 rfl (al_60 _) rfl g1) <| Eq.trans (e_aload_n D175_62 rfl rfl) <| e_callV D175_63 rfl o_175 m_12_365 (by decide) rfl rfl
theorem b175_66 {d : Nat} {i0 : Nat} {x1 xs0 : Int} {I L : Nat → Nat → Nat → Int} {t : Nat → Nat} : Res d 175 66 [vr 12 i0, vi x1] [vi xs0] (mk I L t) = if ¬ xs0 = 0 then Res d 175 71 [vr 12 i0, vi x1] [] (mk I L t) else Res d 175 69 [vr 12 i0, vi x1] [] (mk I L t) :=
  e_ifne D175_66 rfl rfl
theorem b175_69 {d : Nat} {i0 : Nat} {x1 : Int} {I L : Nat → Nat → Nat → Int} {t : Nat → Nat} : Res d 175 69 [vr 12 i0, vi x1] [] (mk I L t) = some (vi 0, (mk I L t)) :=
  Eq.trans (e_iconst (x := 0) D175_69 rfl rfl) <| e_iret D175_70 rfl
theorem b175_71 {d : Nat} {i0 : Nat} {x1 : Int} {I L : Nat → Nat → Nat → Int} {t : Nat → Nat} (g1 : 0 ≤ x1 ∧ x1 < 8) : Res (d + 1) 175 71 [vr 12 i0, vi x1] [] (mk I L t) = (Cal d 170 [vr 12 i0, vi 59] (mk (up3 I 61 i0 x1.toNat (I 12 i0 35)) L t)).bind fun v => Res (d + 1) 175 87 [vr 12 i0, vi x1] (psh 170 v.1 []) v.2 :=
  Eq.trans (e_aload_n D175_71 rfl rfl) <| Eq.trans (e_getP (p := (61, i0)) D175_72 rfl o_175 f_12_49 (sh_12 _) (by decide) (pp_12_19 _ _)) <| Eq.trans (e_iload_n D175_75 rfl rfl) <| Eq.trans (e_aload_n D175_76 rfl rfl) <| Eq.trans (e_getI D175_77 rfl o_175 f_12_348 (sh_12 _) (by decide)) <| Eq.trans (e_iast D175_80 rfl (al_61 _) rfl g1) <| Eq.trans (e_aload_n D175_81 rfl rfl) <| Eq.trans (e_bipush (x := 59) D175_82 rfl rfl) <| e_callV D175_84 rfl o_175 m_12_368 (by decide) rfl rfl
theorem b175_87 {d : Nat} {i0 : Nat} {x1 xs0 : Int} {I L : Nat → Nat → Nat → Int} {t : Nat → Nat} (g1 : xs0 = 0 ∨ xs0 = 1) : Res d 175 87 [vr 12 i0, vi x1] [vi xs0] (mk I L t) = some (vi xs0, (mk I L t)) :=
  e_iret D175_87 (nrz rfl g1)
/-! m_saidLine -/
theorem cc_176 : cod 176 = cX12_saidLine := rfl
theorem D176_0 : decode (cod 176) 0 = .ok (.aload_n 0, 1) := by rw [cc_176]; decide +kernel
theorem D176_1 : decode (cod 176) 1 = .ok (.getfield 318, 3) := by rw [cc_176]; decide +kernel
theorem D176_4 : decode (cod 176) 4 = .ok (.iconst 3, 1) := by rw [cc_176]; decide +kernel
theorem D176_5 : decode (cod 176) 5 = .ok (.if_icmp .eq 9, 3) := by rw [cc_176]; decide +kernel
theorem D176_8 : decode (cod 176) 8 = .ok (.aload_n 0, 1) := by rw [cc_176]; decide +kernel
theorem D176_9 : decode (cod 176) 9 = .ok (.iconst 1, 1) := by rw [cc_176]; decide +kernel
theorem D176_10 : decode (cod 176) 10 = .ok (.invokevirtual 342, 3) := by rw [cc_176]; decide +kernel
theorem D176_13 : decode (cod 176) 13 = .ok (.ireturn, 1) := by rw [cc_176]; decide +kernel
theorem D176_14 : decode (cod 176) 14 = .ok (.aload_n 0, 1) := by rw [cc_176]; decide +kernel
theorem D176_15 : decode (cod 176) 15 = .ok (.getfield 371, 3) := by rw [cc_176]; decide +kernel
theorem D176_18 : decode (cod 176) 18 = .ok (.bipush 12, 2) := by rw [cc_176]; decide +kernel
theorem D176_20 : decode (cod 176) 20 = .ok (.if_icmp .ne 9, 3) := by rw [cc_176]; decide +kernel
theorem D176_23 : decode (cod 176) 23 = .ok (.aload_n 0, 1) := by rw [cc_176]; decide +kernel
theorem D176_24 : decode (cod 176) 24 = .ok (.iconst 3, 1) := by rw [cc_176]; decide +kernel
theorem D176_25 : decode (cod 176) 25 = .ok (.invokevirtual 342, 3) := by rw [cc_176]; decide +kernel
theorem D176_28 : decode (cod 176) 28 = .ok (.ireturn, 1) := by rw [cc_176]; decide +kernel
theorem D176_29 : decode (cod 176) 29 = .ok (.aload_n 0, 1) := by rw [cc_176]; decide +kernel
theorem D176_30 : decode (cod 176) 30 = .ok (.invokevirtual 345, 3) := by rw [cc_176]; decide +kernel
theorem D176_33 : decode (cod 176) 33 = .ok (.aload_n 0, 1) := by rw [cc_176]; decide +kernel
theorem D176_34 : decode (cod 176) 34 = .ok (.getfield 318, 3) := by rw [cc_176]; decide +kernel
theorem D176_37 : decode (cod 176) 37 = .ok (.iconst 2, 1) := by rw [cc_176]; decide +kernel
theorem D176_38 : decode (cod 176) 38 = .ok (.if_icmp .eq 9, 3) := by rw [cc_176]; decide +kernel
theorem D176_41 : decode (cod 176) 41 = .ok (.aload_n 0, 1) := by rw [cc_176]; decide +kernel
theorem D176_42 : decode (cod 176) 42 = .ok (.iconst 1, 1) := by rw [cc_176]; decide +kernel
theorem D176_43 : decode (cod 176) 43 = .ok (.invokevirtual 342, 3) := by rw [cc_176]; decide +kernel
theorem D176_46 : decode (cod 176) 46 = .ok (.ireturn, 1) := by rw [cc_176]; decide +kernel
theorem D176_47 : decode (cod 176) 47 = .ok (.aload_n 0, 1) := by rw [cc_176]; decide +kernel
theorem D176_48 : decode (cod 176) 48 = .ok (.getfield 330, 3) := by rw [cc_176]; decide +kernel
theorem D176_51 : decode (cod 176) 51 = .ok (.bipush 15, 2) := by rw [cc_176]; decide +kernel
theorem D176_53 : decode (cod 176) 53 = .ok (.if_icmp .le 9, 3) := by rw [cc_176]; decide +kernel
theorem D176_56 : decode (cod 176) 56 = .ok (.aload_n 0, 1) := by rw [cc_176]; decide +kernel
theorem D176_57 : decode (cod 176) 57 = .ok (.iconst 2, 1) := by rw [cc_176]; decide +kernel
theorem D176_58 : decode (cod 176) 58 = .ok (.invokevirtual 342, 3) := by rw [cc_176]; decide +kernel
theorem D176_61 : decode (cod 176) 61 = .ok (.ireturn, 1) := by rw [cc_176]; decide +kernel
theorem D176_62 : decode (cod 176) 62 = .ok (.aload_n 0, 1) := by rw [cc_176]; decide +kernel
theorem D176_63 : decode (cod 176) 63 = .ok (.getfield 67, 3) := by rw [cc_176]; decide +kernel
theorem D176_66 : decode (cod 176) 66 = .ok (.aload_n 0, 1) := by rw [cc_176]; decide +kernel
theorem D176_67 : decode (cod 176) 67 = .ok (.getfield 371, 3) := by rw [cc_176]; decide +kernel
theorem D176_70 : decode (cod 176) 70 = .ok (.aload_n 0, 1) := by rw [cc_176]; decide +kernel
theorem D176_71 : decode (cod 176) 71 = .ok (.getfield 330, 3) := by rw [cc_176]; decide +kernel
theorem D176_74 : decode (cod 176) 74 = .ok (.iastore, 1) := by rw [cc_176]; decide +kernel
theorem D176_75 : decode (cod 176) 75 = .ok (.aload_n 0, 1) := by rw [cc_176]; decide +kernel
theorem D176_76 : decode (cod 176) 76 = .ok (.invokevirtual 345, 3) := by rw [cc_176]; decide +kernel
theorem D176_79 : decode (cod 176) 79 = .ok (.aload_n 0, 1) := by rw [cc_176]; decide +kernel
theorem D176_80 : decode (cod 176) 80 = .ok (.getfield 318, 3) := by rw [cc_176]; decide +kernel
theorem D176_83 : decode (cod 176) 83 = .ok (.bipush 100, 2) := by rw [cc_176]; decide +kernel
theorem D176_85 : decode (cod 176) 85 = .ok (.isub, 1) := by rw [cc_176]; decide +kernel
theorem D176_86 : decode (cod 176) 86 = .ok (.istore_n 1, 1) := by rw [cc_176]; decide +kernel
theorem D176_87 : decode (cod 176) 87 = .ok (.iload_n 1, 1) := by rw [cc_176]; decide +kernel
theorem D176_88 : decode (cod 176) 88 = .ok (.bipush 60, 2) := by rw [cc_176]; decide +kernel
theorem D176_90 : decode (cod 176) 90 = .ok (.if_icmp .eq 21, 3) := by rw [cc_176]; decide +kernel
theorem D176_93 : decode (cod 176) 93 = .ok (.iload_n 1, 1) := by rw [cc_176]; decide +kernel
theorem D176_94 : decode (cod 176) 94 = .ok (.bipush 61, 2) := by rw [cc_176]; decide +kernel
theorem D176_96 : decode (cod 176) 96 = .ok (.if_icmp .eq 15, 3) := by rw [cc_176]; decide +kernel
theorem D176_99 : decode (cod 176) 99 = .ok (.iload_n 1, 1) := by rw [cc_176]; decide +kernel
theorem D176_100 : decode (cod 176) 100 = .ok (.bipush 62, 2) := by rw [cc_176]; decide +kernel
theorem D176_102 : decode (cod 176) 102 = .ok (.if_icmp .eq 9, 3) := by rw [cc_176]; decide +kernel
theorem D176_105 : decode (cod 176) 105 = .ok (.aload_n 0, 1) := by rw [cc_176]; decide +kernel
theorem D176_106 : decode (cod 176) 106 = .ok (.iconst 1, 1) := by rw [cc_176]; decide +kernel
theorem D176_107 : decode (cod 176) 107 = .ok (.invokevirtual 342, 3) := by rw [cc_176]; decide +kernel
theorem D176_110 : decode (cod 176) 110 = .ok (.ireturn, 1) := by rw [cc_176]; decide +kernel
theorem D176_111 : decode (cod 176) 111 = .ok (.aload_n 0, 1) := by rw [cc_176]; decide +kernel
theorem D176_112 : decode (cod 176) 112 = .ok (.getfield 70, 3) := by rw [cc_176]; decide +kernel
theorem D176_115 : decode (cod 176) 115 = .ok (.aload_n 0, 1) := by rw [cc_176]; decide +kernel
theorem D176_116 : decode (cod 176) 116 = .ok (.getfield 371, 3) := by rw [cc_176]; decide +kernel
theorem D176_119 : decode (cod 176) 119 = .ok (.iload_n 1, 1) := by rw [cc_176]; decide +kernel
theorem D176_120 : decode (cod 176) 120 = .ok (.iastore, 1) := by rw [cc_176]; decide +kernel
theorem D176_121 : decode (cod 176) 121 = .ok (.aload_n 0, 1) := by rw [cc_176]; decide +kernel
theorem D176_122 : decode (cod 176) 122 = .ok (.invokevirtual 345, 3) := by rw [cc_176]; decide +kernel
theorem D176_125 : decode (cod 176) 125 = .ok (.aload_n 0, 1) := by rw [cc_176]; decide +kernel
theorem D176_126 : decode (cod 176) 126 = .ok (.getfield 318, 3) := by rw [cc_176]; decide +kernel
theorem D176_129 : decode (cod 176) 129 = .ok (.iconst 2, 1) := by rw [cc_176]; decide +kernel
theorem D176_130 : decode (cod 176) 130 = .ok (.if_icmp .eq 9, 3) := by rw [cc_176]; decide +kernel
theorem D176_133 : decode (cod 176) 133 = .ok (.aload_n 0, 1) := by rw [cc_176]; decide +kernel
theorem D176_134 : decode (cod 176) 134 = .ok (.iconst 1, 1) := by rw [cc_176]; decide +kernel
theorem D176_135 : decode (cod 176) 135 = .ok (.invokevirtual 342, 3) := by rw [cc_176]; decide +kernel
theorem D176_138 : decode (cod 176) 138 = .ok (.ireturn, 1) := by rw [cc_176]; decide +kernel
theorem D176_139 : decode (cod 176) 139 = .ok (.aload_n 0, 1) := by rw [cc_176]; decide +kernel
theorem D176_140 : decode (cod 176) 140 = .ok (.getfield 73, 3) := by rw [cc_176]; decide +kernel
theorem D176_143 : decode (cod 176) 143 = .ok (.aload_n 0, 1) := by rw [cc_176]; decide +kernel
theorem D176_144 : decode (cod 176) 144 = .ok (.getfield 371, 3) := by rw [cc_176]; decide +kernel
theorem D176_147 : decode (cod 176) 147 = .ok (.aload_n 0, 1) := by rw [cc_176]; decide +kernel
theorem D176_148 : decode (cod 176) 148 = .ok (.getfield 330, 3) := by rw [cc_176]; decide +kernel
theorem D176_151 : decode (cod 176) 151 = .ok (.iastore, 1) := by rw [cc_176]; decide +kernel
theorem D176_152 : decode (cod 176) 152 = .ok (.aload_n 0, 1) := by rw [cc_176]; decide +kernel
theorem D176_153 : decode (cod 176) 153 = .ok (.invokevirtual 345, 3) := by rw [cc_176]; decide +kernel
theorem D176_156 : decode (cod 176) 156 = .ok (.aload_n 0, 1) := by rw [cc_176]; decide +kernel
theorem D176_157 : decode (cod 176) 157 = .ok (.bipush 59, 2) := by rw [cc_176]; decide +kernel
theorem D176_159 : decode (cod 176) 159 = .ok (.invokevirtual 368, 3) := by rw [cc_176]; decide +kernel
theorem D176_162 : decode (cod 176) 162 = .ok (.ireturn, 1) := by rw [cc_176]; decide +kernel
theorem b176_0 {d : Nat} {i0 : Nat} {I L : Nat → Nat → Nat → Int} {t : Nat → Nat} : Res d 176 0 [vr 12 i0, vx] [] (mk I L t) = if I 12 i0 38 = 3 then Res d 176 14 [vr 12 i0, vx] [] (mk I L t) else Res d 176 8 [vr 12 i0, vx] [] (mk I L t) :=
  Eq.trans (e_aload_n D176_0 rfl rfl) <| Eq.trans (e_getI D176_1 rfl o_176 f_12_318 (sh_12 _) (by decide)) <| Eq.trans (e_iconst (x := 3) D176_4 rfl rfl) <| e_iceq D176_5 rfl rfl
theorem b176_8 {d : Nat} {i0 : Nat} {I L : Nat → Nat → Nat → Int} {t : Nat → Nat} : Res (d + 1) 176 8 [vr 12 i0, vx] [] (mk I L t) = (Cal d 169 [vr 12 i0, vi 1] (mk I L t)).bind fun v => Res (d + 1) 176 13 [vr 12 i0, vx] (psh 169 v.1 []) v.2 :=
  Eq.trans (e_aload_n D176_8 rfl rfl) <| Eq.trans (e_iconst (x := 1) D176_9 rfl rfl) <| e_callV D176_10 rfl o_176 m_12_342 (by decide) rfl rfl
theorem b176_13 {d : Nat} {i0 : Nat} {xs0 : Int} {I L : Nat → Nat → Nat → Int} {t : Nat → Nat} (g1 : xs0 = 0 ∨ xs0 = 1) : Res d 176 13 [vr 12 i0, vx] [vi xs0] (mk I L t) = some (vi xs0, (mk I L t)) :=
  e_iret D176_13 (nrz rfl g1)
theorem b176_14 {d : Nat} {i0 : Nat} {I L : Nat → Nat → Nat → Int} {t : Nat → Nat} : Res d 176 14 [vr 12 i0, vx] [] (mk I L t) = if ¬ I 12 i0 34 = 12 then Res d 176 29 [vr 12 i0, vx] [] (mk I L t) else Res d 176 23 [vr 12 i0, vx] [] (mk I L t) :=
  Eq.trans (e_aload_n D176_14 rfl rfl) <| Eq.trans (e_getI D176_15 rfl o_176 f_12_371 (sh_12 _) (by decide)) <| Eq.trans (e_bipush (x := 12) D176_18 rfl rfl) <| e_icne D176_20 rfl rfl
theorem b176_23 {d : Nat} {i0 : Nat} {I L : Nat → Nat → Nat → Int} {t : Nat → Nat} : Res (d + 1) 176 23 [vr 12 i0, vx] [] (mk I L t) = (Cal d 169 [vr 12 i0, vi 3] (mk I L t)).bind fun v => Res (d + 1) 176 28 [vr 12 i0, vx] (psh 169 v.1 []) v.2 :=
  Eq.trans (e_aload_n D176_23 rfl rfl) <| Eq.trans (e_iconst (x := 3) D176_24 rfl rfl) <| e_callV D176_25 rfl o_176 m_12_342 (by decide) rfl rfl
theorem b176_28 {d : Nat} {i0 : Nat} {xs0 : Int} {I L : Nat → Nat → Nat → Int} {t : Nat → Nat} (g1 : xs0 = 0 ∨ xs0 = 1) : Res d 176 28 [vr 12 i0, vx] [vi xs0] (mk I L t) = some (vi xs0, (mk I L t)) :=
  e_iret D176_28 (nrz rfl g1)
theorem b176_29 {d : Nat} {i0 : Nat} {I L : Nat → Nat → Nat → Int} {t : Nat → Nat} : Res (d + 1) 176 29 [vr 12 i0, vx] [] (mk I L t) = (Cal d 168 [vr 12 i0] (mk I L t)).bind fun v => Res (d + 1) 176 33 [vr 12 i0, vx] (psh 168 v.1 []) v.2 :=
  Eq.trans (e_aload_n D176_29 rfl rfl) <| e_callV D176_30 rfl o_176 m_12_345 (by decide) rfl rfl
theorem b176_33 {d : Nat} {i0 : Nat} {I L : Nat → Nat → Nat → Int} {t : Nat → Nat} : Res d 176 33 [vr 12 i0, vx] [] (mk I L t) = if I 12 i0 38 = 2 then Res d 176 47 [vr 12 i0, vx] [] (mk I L t) else Res d 176 41 [vr 12 i0, vx] [] (mk I L t) :=
  Eq.trans (e_aload_n D176_33 rfl rfl) <| Eq.trans (e_getI D176_34 rfl o_176 f_12_318 (sh_12 _) (by decide)) <| Eq.trans (e_iconst (x := 2) D176_37 rfl rfl) <| e_iceq D176_38 rfl rfl
theorem b176_41 {d : Nat} {i0 : Nat} {I L : Nat → Nat → Nat → Int} {t : Nat → Nat} : Res (d + 1) 176 41 [vr 12 i0, vx] [] (mk I L t) = (Cal d 169 [vr 12 i0, vi 1] (mk I L t)).bind fun v => Res (d + 1) 176 46 [vr 12 i0, vx] (psh 169 v.1 []) v.2 :=
  Eq.trans (e_aload_n D176_41 rfl rfl) <| Eq.trans (e_iconst (x := 1) D176_42 rfl rfl) <| e_callV D176_43 rfl o_176 m_12_342 (by decide) rfl rfl
theorem b176_46 {d : Nat} {i0 : Nat} {xs0 : Int} {I L : Nat → Nat → Nat → Int} {t : Nat → Nat} (g1 : xs0 = 0 ∨ xs0 = 1) : Res d 176 46 [vr 12 i0, vx] [vi xs0] (mk I L t) = some (vi xs0, (mk I L t)) :=
  e_iret D176_46 (nrz rfl g1)
theorem b176_47 {d : Nat} {i0 : Nat} {I L : Nat → Nat → Nat → Int} {t : Nat → Nat} : Res d 176 47 [vr 12 i0, vx] [] (mk I L t) = if I 12 i0 40 ≤ 15 then Res d 176 62 [vr 12 i0, vx] [] (mk I L t) else Res d 176 56 [vr 12 i0, vx] [] (mk I L t) :=
  Eq.trans (e_aload_n D176_47 rfl rfl) <| Eq.trans (e_getI D176_48 rfl o_176 f_12_330 (sh_12 _) (by decide)) <| Eq.trans (e_bipush (x := 15) D176_51 rfl rfl) <| e_icle D176_53 rfl rfl
theorem b176_56 {d : Nat} {i0 : Nat} {I L : Nat → Nat → Nat → Int} {t : Nat → Nat} : Res (d + 1) 176 56 [vr 12 i0, vx] [] (mk I L t) = (Cal d 169 [vr 12 i0, vi 2] (mk I L t)).bind fun v => Res (d + 1) 176 61 [vr 12 i0, vx] (psh 169 v.1 []) v.2 :=
  Eq.trans (e_aload_n D176_56 rfl rfl) <| Eq.trans (e_iconst (x := 2) D176_57 rfl rfl) <| e_callV D176_58 rfl o_176 m_12_342 (by decide) rfl rfl
theorem b176_61 {d : Nat} {i0 : Nat} {xs0 : Int} {I L : Nat → Nat → Nat → Int} {t : Nat → Nat} (g1 : xs0 = 0 ∨ xs0 = 1) : Res d 176 61 [vr 12 i0, vx] [vi xs0] (mk I L t) = some (vi xs0, (mk I L t)) :=
  e_iret D176_61 (nrz rfl g1)
theorem b176_62 {d : Nat} {i0 : Nat} {I L : Nat → Nat → Nat → Int} {t : Nat → Nat} (g1 : 0 ≤ I 12 i0 34 ∧ I 12 i0 34 < 12) : Res (d + 1) 176 62 [vr 12 i0, vx] [] (mk I L t) = (Cal d 168 [vr 12 i0] (mk (up3 I 67 i0 (I 12 i0 34).toNat (I 12 i0 40)) L t)).bind fun v => Res (d + 1) 176 79 [vr 12 i0, vx] (psh 168 v.1 []) v.2 :=
  Eq.trans (e_aload_n D176_62 rfl rfl) <| Eq.trans (e_getP (p := (67, i0)) D176_63 rfl o_176 f_12_67 (sh_12 _) (by decide) (pp_12_25 _ _)) <| Eq.trans (e_aload_n D176_66 rfl rfl) <| Eq.trans (e_getI D176_67 rfl o_176 f_12_371 (sh_12 _) (by decide)) <| Eq.trans (e_aload_n D176_70 rfl rfl) <| Eq.trans (e_getI D176_71 rfl o_176 f_12_330 (sh_12 _) (by decide)) <| Eq.trans (e_iast D176_74 rfl (al_67 _) rfl g1) <| Eq.trans (e_aload_n D176_75 rfl rfl) <| e_callV D176_76 rfl o_176 m_12_345 (by decide) rfl rfl
theorem b176_79 {d : Nat} {i0 : Nat} {I L : Nat → Nat → Nat → Int} {t : Nat → Nat} : Res d 176 79 [vr 12 i0, vx] [] (mk I L t) = if w32 ((I 12 i0 38) - 100) = 60 then Res d 176 111 [vr 12 i0, vi (w32 ((I 12 i0 38) - 100))] [] (mk I L t) else Res d 176 93 [vr 12 i0, vi (w32 ((I 12 i0 38) - 100))] [] (mk I L t) :=
  Eq.trans (e_aload_n D176_79 rfl rfl) <| Eq.trans (e_getI D176_80 rfl o_176 f_12_318 (sh_12 _) (by decide)) <| Eq.trans (e_bipush (x := 100) D176_83 rfl rfl) <| Eq.trans (e_isub D176_85 rfl) <| Eq.trans (e_istore_n (ls1 := [vr 12 i0, vi (w32 ((I 12 i0 38) - 100))]) D176_86 rfl (show 1 < 2 by decide) rfl) <| Eq.trans (e_iload_n D176_87 rfl rfl) <| Eq.trans (e_bipush (x := 60) D176_88 rfl rfl) <| e_iceq D176_90 rfl rfl
theorem b176_93 {d : Nat} {i0 : Nat} {x1 : Int} {I L : Nat → Nat → Nat → Int} {t : Nat → Nat} : Res d 176 93 [vr 12 i0, vi x1] [] (mk I L t) = if x1 = 61 then Res d 176 111 [vr 12 i0, vi x1] [] (mk I L t) else Res d 176 99 [vr 12 i0, vi x1] [] (mk I L t) :=
  Eq.trans (e_iload_n D176_93 rfl rfl) <| Eq.trans (e_bipush (x := 61) D176_94 rfl rfl) <| e_iceq D176_96 rfl rfl
theorem b176_99 {d : Nat} {i0 : Nat} {x1 : Int} {I L : Nat → Nat → Nat → Int} {t : Nat → Nat} : Res d 176 99 [vr 12 i0, vi x1] [] (mk I L t) = if x1 = 62 then Res d 176 111 [vr 12 i0, vi x1] [] (mk I L t) else Res d 176 105 [vr 12 i0, vi x1] [] (mk I L t) :=
  Eq.trans (e_iload_n D176_99 rfl rfl) <| Eq.trans (e_bipush (x := 62) D176_100 rfl rfl) <| e_iceq D176_102 rfl rfl
theorem b176_105 {d : Nat} {i0 : Nat} {x1 : Int} {I L : Nat → Nat → Nat → Int} {t : Nat → Nat} : Res (d + 1) 176 105 [vr 12 i0, vi x1] [] (mk I L t) = (Cal d 169 [vr 12 i0, vi 1] (mk I L t)).bind fun v => Res (d + 1) 176 110 [vr 12 i0, vi x1] (psh 169 v.1 []) v.2 :=
  Eq.trans (e_aload_n D176_105 rfl rfl) <| Eq.trans (e_iconst (x := 1) D176_106 rfl rfl) <| e_callV D176_107 rfl o_176 m_12_342 (by decide) rfl rfl
theorem b176_110 {d : Nat} {i0 : Nat} {x1 xs0 : Int} {I L : Nat → Nat → Nat → Int} {t : Nat → Nat} (g1 : xs0 = 0 ∨ xs0 = 1) : Res d 176 110 [vr 12 i0, vi x1] [vi xs0] (mk I L t) = some (vi xs0, (mk I L t)) :=
  e_iret D176_110 (nrz rfl g1)
theorem b176_111 {d : Nat} {i0 : Nat} {x1 : Int} {I L : Nat → Nat → Nat → Int} {t : Nat → Nat} (g1 : 0 ≤ I 12 i0 34 ∧ I 12 i0 34 < 12) : Res (d + 1) 176 111 [vr 12 i0, vi x1] [] (mk I L t) = (Cal d 168 [vr 12 i0] (mk (up3 I 68 i0 (I 12 i0 34).toNat x1) L t)).bind fun v => Res (d + 1) 176 125 [vr 12 i0, vi x1] (psh 168 v.1 []) v.2 :=
  Eq.trans (e_aload_n D176_111 rfl rfl) <| Eq.trans (e_getP (p := (68, i0)) D176_112 rfl o_176 f_12_70 (sh_12 _) (by decide) (pp_12_26 _ _)) <| Eq.trans (e_aload_n D176_115 rfl rfl) <| Eq.trans (e_getI D176_116 rfl o_176 f_12_371 (sh_12 _) (by decide)) <| Eq.trans (e_iload_n D176_119 rfl rfl) <| Eq.trans (e_iast D176_120 rfl (al_68 _) rfl g1) <| Eq.trans (e_aload_n D176_121 rfl rfl) <| e_callV D176_122 rfl o_176 m_12_345 (by decide) rfl rfl
theorem b176_125 {d : Nat} {i0 : Nat} {x1 : Int} {I L : Nat → Nat → Nat → Int} {t : Nat → Nat} : Res d 176 125 [vr 12 i0, vi x1] [] (mk I L t) = if I 12 i0 38 = 2 then Res d 176 139 [vr 12 i0, vi x1] [] (mk I L t) else Res d 176 133 [vr 12 i0, vi x1] [] (mk I L t) :=
  Eq.trans (e_aload_n D176_125 rfl rfl) <| Eq.trans (e_getI D176_126 rfl o_176 f_12_318 (sh_12 _) (by decide)) <| Eq.trans (e_iconst (x := 2) D176_129 rfl rfl) <| e_iceq D176_130 rfl rfl
theorem b176_133 {d : Nat} {i0 : Nat} {x1 : Int} {I L : Nat → Nat → Nat → Int} {t : Nat → Nat} : Res (d + 1) 176 133 [vr 12 i0, vi x1] [] (mk I L t) = (Cal d 169 [vr 12 i0, vi 1] (mk I L t)).bind fun v => Res (d + 1) 176 138 [vr 12 i0, vi x1] (psh 169 v.1 []) v.2 :=
  Eq.trans (e_aload_n D176_133 rfl rfl) <| Eq.trans (e_iconst (x := 1) D176_134 rfl rfl) <| e_callV D176_135 rfl o_176 m_12_342 (by decide) rfl rfl
theorem b176_138 {d : Nat} {i0 : Nat} {x1 xs0 : Int} {I L : Nat → Nat → Nat → Int} {t : Nat → Nat} (g1 : xs0 = 0 ∨ xs0 = 1) : Res d 176 138 [vr 12 i0, vi x1] [vi xs0] (mk I L t) = some (vi xs0, (mk I L t)) :=
  e_iret D176_138 (nrz rfl g1)
theorem b176_139 {d : Nat} {i0 : Nat} {x1 : Int} {I L : Nat → Nat → Nat → Int} {t : Nat → Nat} (g1 : 0 ≤ I 12 i0 34 ∧ I 12 i0 34 < 12) : Res (d + 1) 176 139 [vr 12 i0, vi x1] [] (mk I L t) = (Cal d 168 [vr 12 i0] (mk (up3 I 69 i0 (I 12 i0 34).toNat (I 12 i0 40)) L t)).bind fun v => Res (d + 1) 176 156 [vr 12 i0, vi x1] (psh 168 v.1 []) v.2 :=
  Eq.trans (e_aload_n D176_139 rfl rfl) <| Eq.trans (e_getP (p := (69, i0)) D176_140 rfl o_176 f_12_73 (sh_12 _) (by decide) (pp_12_27 _ _)) <| Eq.trans (e_aload_n D176_143 rfl rfl) <| Eq.trans (e_getI D176_144 rfl o_176 f_12_371 (sh_12 _) (by decide)) <| Eq.trans (e_aload_n D176_147 rfl rfl) <| Eq.trans (e_getI D176_148 rfl o_176 f_12_330 (sh_12 _) (by decide)) <| Eq.trans (e_iast D176_151 rfl (al_69 _) rfl g1) <| Eq.trans (e_aload_n D176_152 rfl rfl) <| e_callV D176_153 rfl o_176 m_12_345 (by decide) rfl rfl
theorem b176_156 {d : Nat} {i0 : Nat} {x1 : Int} {I L : Nat → Nat → Nat → Int} {t : Nat → Nat} : Res (d + 1) 176 156 [vr 12 i0, vi x1] [] (mk I L t) = (Cal d 170 [vr 12 i0, vi 59] (mk I L t)).bind fun v => Res (d + 1) 176 162 [vr 12 i0, vi x1] (psh 170 v.1 []) v.2 :=
  Eq.trans (e_aload_n D176_156 rfl rfl) <| Eq.trans (e_bipush (x := 59) D176_157 rfl rfl) <| e_callV D176_159 rfl o_176 m_12_368 (by decide) rfl rfl
theorem b176_162 {d : Nat} {i0 : Nat} {x1 xs0 : Int} {I L : Nat → Nat → Nat → Int} {t : Nat → Nat} (g1 : xs0 = 0 ∨ xs0 = 1) : Res d 176 162 [vr 12 i0, vi x1] [vi xs0] (mk I L t) = some (vi xs0, (mk I L t)) :=
  e_iret D176_162 (nrz rfl g1)
/-! m_wayLine -/
theorem cc_177 : cod 177 = cX12_wayLine := rfl
theorem D177_0 : decode (cod 177) 0 = .ok (.aload_n 0, 1) := by rw [cc_177]; decide +kernel
theorem D177_1 : decode (cod 177) 1 = .ok (.getfield 318, 3) := by rw [cc_177]; decide +kernel
theorem D177_4 : decode (cod 177) 4 = .ok (.iconst 4, 1) := by rw [cc_177]; decide +kernel
theorem D177_5 : decode (cod 177) 5 = .ok (.bipush 7, 2) := by rw [cc_177]; decide +kernel
theorem D177_7 : decode (cod 177) 7 = .ok (.invokestatic 219, 3) := by rw [cc_177]; decide +kernel
theorem D177_10 : decode (cod 177) 10 = .ok (.ifCond .ne 9, 3) := by rw [cc_177]; decide +kernel
theorem D177_13 : decode (cod 177) 13 = .ok (.aload_n 0, 1) := by rw [cc_177]; decide +kernel
theorem D177_14 : decode (cod 177) 14 = .ok (.iconst 1, 1) := by rw [cc_177]; decide +kernel
theorem D177_15 : decode (cod 177) 15 = .ok (.invokevirtual 342, 3) := by rw [cc_177]; decide +kernel
theorem D177_18 : decode (cod 177) 18 = .ok (.ireturn, 1) := by rw [cc_177]; decide +kernel
theorem D177_19 : decode (cod 177) 19 = .ok (.aload_n 0, 1) := by rw [cc_177]; decide +kernel
theorem D177_20 : decode (cod 177) 20 = .ok (.getfield 318, 3) := by rw [cc_177]; decide +kernel
theorem D177_23 : decode (cod 177) 23 = .ok (.istore_n 1, 1) := by rw [cc_177]; decide +kernel
theorem D177_24 : decode (cod 177) 24 = .ok (.iload_n 1, 1) := by rw [cc_177]; decide +kernel
theorem D177_25 : decode (cod 177) 25 = .ok (.iconst 4, 1) := by rw [cc_177]; decide +kernel
theorem D177_26 : decode (cod 177) 26 = .ok (.if_icmp .ne 10, 3) := by rw [cc_177]; decide +kernel
theorem D177_29 : decode (cod 177) 29 = .ok (.aload_n 0, 1) := by rw [cc_177]; decide +kernel
theorem D177_30 : decode (cod 177) 30 = .ok (.getfield 374, 3) := by rw [cc_177]; decide +kernel
theorem D177_33 : decode (cod 177) 33 = .ok (.goto 50, 3) := by rw [cc_177]; decide +kernel
theorem D177_36 : decode (cod 177) 36 = .ok (.iload_n 1, 1) := by rw [cc_177]; decide +kernel
theorem D177_37 : decode (cod 177) 37 = .ok (.bipush 7, 2) := by rw [cc_177]; decide +kernel
theorem D177_39 : decode (cod 177) 39 = .ok (.if_icmp .ne 10, 3) := by rw [cc_177]; decide +kernel
theorem D177_42 : decode (cod 177) 42 = .ok (.aload_n 0, 1) := by rw [cc_177]; decide +kernel
theorem D177_43 : decode (cod 177) 43 = .ok (.getfield 378, 3) := by rw [cc_177]; decide +kernel
theorem D177_46 : decode (cod 177) 46 = .ok (.goto 37, 3) := by rw [cc_177]; decide +kernel
theorem D177_49 : decode (cod 177) 49 = .ok (.iload_n 1, 1) := by rw [cc_177]; decide +kernel
theorem D177_50 : decode (cod 177) 50 = .ok (.iconst 5, 1) := by rw [cc_177]; decide +kernel
theorem D177_51 : decode (cod 177) 51 = .ok (.if_icmp .ne 19, 3) := by rw [cc_177]; decide +kernel
theorem D177_54 : decode (cod 177) 54 = .ok (.aload_n 0, 1) := by rw [cc_177]; decide +kernel
theorem D177_55 : decode (cod 177) 55 = .ok (.getfield 381, 3) := by rw [cc_177]; decide +kernel
theorem D177_58 : decode (cod 177) 58 = .ok (.iconst (-1), 1) := by rw [cc_177]; decide +kernel
theorem D177_59 : decode (cod 177) 59 = .ok (.if_icmp .eq 7, 3) := by rw [cc_177]; decide +kernel
theorem D177_62 : decode (cod 177) 62 = .ok (.iconst 1, 1) := by rw [cc_177]; decide +kernel
theorem D177_63 : decode (cod 177) 63 = .ok (.goto 20, 3) := by rw [cc_177]; decide +kernel
theorem D177_66 : decode (cod 177) 66 = .ok (.iconst 0, 1) := by rw [cc_177]; decide +kernel
theorem D177_67 : decode (cod 177) 67 = .ok (.goto 16, 3) := by rw [cc_177]; decide +kernel
theorem D177_70 : decode (cod 177) 70 = .ok (.aload_n 0, 1) := by rw [cc_177]; decide +kernel
theorem D177_71 : decode (cod 177) 71 = .ok (.getfield 384, 3) := by rw [cc_177]; decide +kernel
theorem D177_74 : decode (cod 177) 74 = .ok (.iconst (-1), 1) := by rw [cc_177]; decide +kernel
theorem D177_75 : decode (cod 177) 75 = .ok (.if_icmp .eq 7, 3) := by rw [cc_177]; decide +kernel
theorem D177_78 : decode (cod 177) 78 = .ok (.iconst 1, 1) := by rw [cc_177]; decide +kernel
theorem D177_79 : decode (cod 177) 79 = .ok (.goto 4, 3) := by rw [cc_177]; decide +kernel
theorem D177_82 : decode (cod 177) 82 = .ok (.iconst 0, 1) := by rw [cc_177]; decide +kernel
theorem D177_83 : decode (cod 177) 83 = .ok (.istore_n 2, 1) := by rw [cc_177]; decide +kernel
theorem D177_84 : decode (cod 177) 84 = .ok (.iload_n 2, 1) := by rw [cc_177]; decide +kernel
theorem D177_85 : decode (cod 177) 85 = .ok (.ifCond .eq 9, 3) := by rw [cc_177]; decide +kernel
theorem D177_88 : decode (cod 177) 88 = .ok (.aload_n 0, 1) := by rw [cc_177]; decide +kernel
theorem D177_89 : decode (cod 177) 89 = .ok (.iconst 2, 1) := by rw [cc_177]; decide +kernel
theorem D177_90 : decode (cod 177) 90 = .ok (.invokevirtual 342, 3) := by rw [cc_177]; decide +kernel
theorem D177_93 : decode (cod 177) 93 = .ok (.ireturn, 1) := by rw [cc_177]; decide +kernel
theorem D177_94 : decode (cod 177) 94 = .ok (.aload_n 0, 1) := by rw [cc_177]; decide +kernel
theorem D177_95 : decode (cod 177) 95 = .ok (.invokevirtual 345, 3) := by rw [cc_177]; decide +kernel
theorem D177_98 : decode (cod 177) 98 = .ok (.iload_n 1, 1) := by rw [cc_177]; decide +kernel
theorem D177_99 : decode (cod 177) 99 = .ok (.iconst 4, 1) := by rw [cc_177]; decide +kernel
theorem D177_100 : decode (cod 177) 100 = .ok (.if_icmp .ne 8, 3) := by rw [cc_177]; decide +kernel
theorem D177_103 : decode (cod 177) 103 = .ok (.aload_n 0, 1) := by rw [cc_177]; decide +kernel
theorem D177_104 : decode (cod 177) 104 = .ok (.iconst 1, 1) := by rw [cc_177]; decide +kernel
theorem D177_105 : decode (cod 177) 105 = .ok (.putfield 374, 3) := by rw [cc_177]; decide +kernel
theorem D177_108 : decode (cod 177) 108 = .ok (.iload_n 1, 1) := by rw [cc_177]; decide +kernel
theorem D177_109 : decode (cod 177) 109 = .ok (.bipush 7, 2) := by rw [cc_177]; decide +kernel
theorem D177_111 : decode (cod 177) 111 = .ok (.if_icmp .ne 8, 3) := by rw [cc_177]; decide +kernel
theorem D177_114 : decode (cod 177) 114 = .ok (.aload_n 0, 1) := by rw [cc_177]; decide +kernel
theorem D177_115 : decode (cod 177) 115 = .ok (.iconst 1, 1) := by rw [cc_177]; decide +kernel
theorem D177_116 : decode (cod 177) 116 = .ok (.putfield 378, 3) := by rw [cc_177]; decide +kernel
theorem D177_119 : decode (cod 177) 119 = .ok (.iload_n 1, 1) := by rw [cc_177]; decide +kernel
theorem D177_120 : decode (cod 177) 120 = .ok (.iconst 5, 1) := by rw [cc_177]; decide +kernel
theorem D177_121 : decode (cod 177) 121 = .ok (.if_icmp .eq 9, 3) := by rw [cc_177]; decide +kernel
theorem D177_124 : decode (cod 177) 124 = .ok (.iload_n 1, 1) := by rw [cc_177]; decide +kernel
theorem D177_125 : decode (cod 177) 125 = .ok (.bipush 6, 2) := by rw [cc_177]; decide +kernel
theorem D177_127 : decode (cod 177) 127 = .ok (.if_icmp .ne 69, 3) := by rw [cc_177]; decide +kernel
theorem D177_130 : decode (cod 177) 130 = .ok (.aload_n 0, 1) := by rw [cc_177]; decide +kernel
theorem D177_131 : decode (cod 177) 131 = .ok (.getfield 318, 3) := by rw [cc_177]; decide +kernel
theorem D177_134 : decode (cod 177) 134 = .ok (.iconst 2, 1) := by rw [cc_177]; decide +kernel
theorem D177_135 : decode (cod 177) 135 = .ok (.if_icmp .eq 9, 3) := by rw [cc_177]; decide +kernel
theorem D177_138 : decode (cod 177) 138 = .ok (.aload_n 0, 1) := by rw [cc_177]; decide +kernel
theorem D177_139 : decode (cod 177) 139 = .ok (.iconst 1, 1) := by rw [cc_177]; decide +kernel
theorem D177_140 : decode (cod 177) 140 = .ok (.invokevirtual 342, 3) := by rw [cc_177]; decide +kernel
theorem D177_143 : decode (cod 177) 143 = .ok (.ireturn, 1) := by rw [cc_177]; decide +kernel
theorem D177_144 : decode (cod 177) 144 = .ok (.aload_n 0, 1) := by rw [cc_177]; decide +kernel
theorem D177_145 : decode (cod 177) 145 = .ok (.getfield 330, 3) := by rw [cc_177]; decide +kernel
theorem D177_148 : decode (cod 177) 148 = .ok (.iload_n 1, 1) := by rw [cc_177]; decide +kernel
theorem D177_149 : decode (cod 177) 149 = .ok (.iconst 5, 1) := by rw [cc_177]; decide +kernel
theorem D177_150 : decode (cod 177) 150 = .ok (.if_icmp .ne 8, 3) := by rw [cc_177]; decide +kernel
theorem D177_153 : decode (cod 177) 153 = .ok (.bipush 99, 2) := by rw [cc_177]; decide +kernel
theorem D177_155 : decode (cod 177) 155 = .ok (.goto 4, 3) := by rw [cc_177]; decide +kernel
theorem D177_158 : decode (cod 177) 158 = .ok (.iconst 5, 1) := by rw [cc_177]; decide +kernel
theorem D177_159 : decode (cod 177) 159 = .ok (.if_icmp .le 9, 3) := by rw [cc_177]; decide +kernel
theorem D177_162 : decode (cod 177) 162 = .ok (.aload_n 0, 1) := by rw [cc_177]; decide +kernel
theorem D177_163 : decode (cod 177) 163 = .ok (.iconst 2, 1) := by rw [cc_177]; decide +kernel
theorem D177_164 : decode (cod 177) 164 = .ok (.invokevirtual 342, 3) := by rw [cc_177]; decide +kernel
theorem D177_167 : decode (cod 177) 167 = .ok (.ireturn, 1) := by rw [cc_177]; decide +kernel
theorem D177_168 : decode (cod 177) 168 = .ok (.iload_n 1, 1) := by rw [cc_177]; decide +kernel
theorem D177_169 : decode (cod 177) 169 = .ok (.iconst 5, 1) := by rw [cc_177]; decide +kernel
theorem D177_170 : decode (cod 177) 170 = .ok (.if_icmp .ne 14, 3) := by rw [cc_177]; decide +kernel
theorem D177_173 : decode (cod 177) 173 = .ok (.aload_n 0, 1) := by rw [cc_177]; decide +kernel
theorem D177_174 : decode (cod 177) 174 = .ok (.aload_n 0, 1) := by rw [cc_177]; decide +kernel
theorem D177_175 : decode (cod 177) 175 = .ok (.getfield 330, 3) := by rw [cc_177]; decide +kernel
theorem D177_178 : decode (cod 177) 178 = .ok (.putfield 381, 3) := by rw [cc_177]; decide +kernel
theorem D177_181 : decode (cod 177) 181 = .ok (.goto 11, 3) := by rw [cc_177]; decide +kernel
theorem D177_184 : decode (cod 177) 184 = .ok (.aload_n 0, 1) := by rw [cc_177]; decide +kernel
theorem D177_185 : decode (cod 177) 185 = .ok (.aload_n 0, 1) := by rw [cc_177]; decide +kernel
theorem D177_186 : decode (cod 177) 186 = .ok (.getfield 330, 3) := by rw [cc_177]; decide +kernel
theorem D177_189 : decode (cod 177) 189 = .ok (.putfield 384, 3) := by rw [cc_177]; decide +kernel
theorem D177_192 : decode (cod 177) 192 = .ok (.aload_n 0, 1) := by rw [cc_177]; decide +kernel
theorem D177_193 : decode (cod 177) 193 = .ok (.invokevirtual 345, 3) := by rw [cc_177]; decide +kernel
theorem D177_196 : decode (cod 177) 196 = .ok (.aload_n 0, 1) := by rw [cc_177]; decide +kernel
theorem D177_197 : decode (cod 177) 197 = .ok (.bipush 59, 2) := by rw [cc_177]; decide +kernel
theorem D177_199 : decode (cod 177) 199 = .ok (.invokevirtual 368, 3) := by rw [cc_177]; decide +kernel
theorem D177_202 : decode (cod 177) 202 = .ok (.ireturn, 1) := by rw [cc_177]; decide +kernel
theorem b177_0 {d : Nat} {i0 : Nat} {I L : Nat → Nat → Nat → Int} {t : Nat → Nat} : Res (d + 1) 177 0 [vr 12 i0, vx, vx] [] (mk I L t) = (Cal d 146 [vi (I 12 i0 38), vi 4, vi 7] (mk I L t)).bind fun v => Res (d + 1) 177 10 [vr 12 i0, vx, vx] (psh 146 v.1 []) v.2 :=
  Eq.trans (e_aload_n D177_0 rfl rfl) <| Eq.trans (e_getI D177_1 rfl o_177 f_12_318 (sh_12 _) (by decide)) <| Eq.trans (e_iconst (x := 4) D177_4 rfl rfl) <| Eq.trans (e_bipush (x := 7) D177_5 rfl rfl) <| e_callS D177_7 rfl o_177 m_12_219 (by decide) rfl rfl
theorem b177_10 {d : Nat} {i0 : Nat} {xs0 : Int} {I L : Nat → Nat → Nat → Int} {t : Nat → Nat} : Res d 177 10 [vr 12 i0, vx, vx] [vi xs0] (mk I L t) = if ¬ xs0 = 0 then Res d 177 19 [vr 12 i0, vx, vx] [] (mk I L t) else Res d 177 13 [vr 12 i0, vx, vx] [] (mk I L t) :=
  e_ifne D177_10 rfl rfl
theorem b177_13 {d : Nat} {i0 : Nat} {I L : Nat → Nat → Nat → Int} {t : Nat → Nat} : Res (d + 1) 177 13 [vr 12 i0, vx, vx] [] (mk I L t) = (Cal d 169 [vr 12 i0, vi 1] (mk I L t)).bind fun v => Res (d + 1) 177 18 [vr 12 i0, vx, vx] (psh 169 v.1 []) v.2 :=
  Eq.trans (e_aload_n D177_13 rfl rfl) <| Eq.trans (e_iconst (x := 1) D177_14 rfl rfl) <| e_callV D177_15 rfl o_177 m_12_342 (by decide) rfl rfl
theorem b177_18 {d : Nat} {i0 : Nat} {xs0 : Int} {I L : Nat → Nat → Nat → Int} {t : Nat → Nat} (g1 : xs0 = 0 ∨ xs0 = 1) : Res d 177 18 [vr 12 i0, vx, vx] [vi xs0] (mk I L t) = some (vi xs0, (mk I L t)) :=
  e_iret D177_18 (nrz rfl g1)
theorem b177_19 {d : Nat} {i0 : Nat} {I L : Nat → Nat → Nat → Int} {t : Nat → Nat} : Res d 177 19 [vr 12 i0, vx, vx] [] (mk I L t) = if ¬ I 12 i0 38 = 4 then Res d 177 36 [vr 12 i0, vi (I 12 i0 38), vx] [] (mk I L t) else Res d 177 29 [vr 12 i0, vi (I 12 i0 38), vx] [] (mk I L t) :=
  Eq.trans (e_aload_n D177_19 rfl rfl) <| Eq.trans (e_getI D177_20 rfl o_177 f_12_318 (sh_12 _) (by decide)) <| Eq.trans (e_istore_n (ls1 := [vr 12 i0, vi (I 12 i0 38), vx]) D177_23 rfl (show 1 < 3 by decide) rfl) <| Eq.trans (e_iload_n D177_24 rfl rfl) <| Eq.trans (e_iconst (x := 4) D177_25 rfl rfl) <| e_icne D177_26 rfl rfl
theorem b177_29 {d : Nat} {i0 : Nat} {x1 : Int} {I L : Nat → Nat → Nat → Int} {t : Nat → Nat} : Res d 177 29 [vr 12 i0, vi x1, vx] [] (mk I L t) = Res d 177 83 [vr 12 i0, vi x1, vx] [vi (I 12 i0 48)] (mk I L t) :=
  Eq.trans (e_aload_n D177_29 rfl rfl) <| Eq.trans (e_getI D177_30 rfl o_177 f_12_374 (sh_12 _) (by decide)) <| e_goto (q1 := 83) D177_33 rfl
theorem b177_36 {d : Nat} {i0 : Nat} {x1 : Int} {I L : Nat → Nat → Nat → Int} {t : Nat → Nat} : Res d 177 36 [vr 12 i0, vi x1, vx] [] (mk I L t) = if ¬ x1 = 7 then Res d 177 49 [vr 12 i0, vi x1, vx] [] (mk I L t) else Res d 177 42 [vr 12 i0, vi x1, vx] [] (mk I L t) :=
  Eq.trans (e_iload_n D177_36 rfl rfl) <| Eq.trans (e_bipush (x := 7) D177_37 rfl rfl) <| e_icne D177_39 rfl rfl
theorem b177_42 {d : Nat} {i0 : Nat} {x1 : Int} {I L : Nat → Nat → Nat → Int} {t : Nat → Nat} : Res d 177 42 [vr 12 i0, vi x1, vx] [] (mk I L t) = Res d 177 83 [vr 12 i0, vi x1, vx] [vi (I 12 i0 49)] (mk I L t) :=
  Eq.trans (e_aload_n D177_42 rfl rfl) <| Eq.trans (e_getI D177_43 rfl o_177 f_12_378 (sh_12 _) (by decide)) <| e_goto (q1 := 83) D177_46 rfl
theorem b177_49 {d : Nat} {i0 : Nat} {x1 : Int} {I L : Nat → Nat → Nat → Int} {t : Nat → Nat} : Res d 177 49 [vr 12 i0, vi x1, vx] [] (mk I L t) = if ¬ x1 = 5 then Res d 177 70 [vr 12 i0, vi x1, vx] [] (mk I L t) else Res d 177 54 [vr 12 i0, vi x1, vx] [] (mk I L t) :=
  Eq.trans (e_iload_n D177_49 rfl rfl) <| Eq.trans (e_iconst (x := 5) D177_50 rfl rfl) <| e_icne D177_51 rfl rfl
theorem b177_54 {d : Nat} {i0 : Nat} {x1 : Int} {I L : Nat → Nat → Nat → Int} {t : Nat → Nat} : Res d 177 54 [vr 12 i0, vi x1, vx] [] (mk I L t) = if I 12 i0 46 = -1 then Res d 177 66 [vr 12 i0, vi x1, vx] [] (mk I L t) else Res d 177 62 [vr 12 i0, vi x1, vx] [] (mk I L t) :=
  Eq.trans (e_aload_n D177_54 rfl rfl) <| Eq.trans (e_getI D177_55 rfl o_177 f_12_381 (sh_12 _) (by decide)) <| Eq.trans (e_iconst (x := -1) D177_58 rfl rfl) <| e_iceq D177_59 rfl rfl
theorem b177_62 {d : Nat} {i0 : Nat} {x1 : Int} {I L : Nat → Nat → Nat → Int} {t : Nat → Nat} : Res d 177 62 [vr 12 i0, vi x1, vx] [] (mk I L t) = Res d 177 83 [vr 12 i0, vi x1, vx] [vi 1] (mk I L t) :=
  Eq.trans (e_iconst (x := 1) D177_62 rfl rfl) <| e_goto (q1 := 83) D177_63 rfl
theorem b177_66 {d : Nat} {i0 : Nat} {x1 : Int} {I L : Nat → Nat → Nat → Int} {t : Nat → Nat} : Res d 177 66 [vr 12 i0, vi x1, vx] [] (mk I L t) = Res d 177 83 [vr 12 i0, vi x1, vx] [vi 0] (mk I L t) :=
  Eq.trans (e_iconst (x := 0) D177_66 rfl rfl) <| e_goto (q1 := 83) D177_67 rfl
theorem b177_70 {d : Nat} {i0 : Nat} {x1 : Int} {I L : Nat → Nat → Nat → Int} {t : Nat → Nat} : Res d 177 70 [vr 12 i0, vi x1, vx] [] (mk I L t) = if I 12 i0 47 = -1 then Res d 177 82 [vr 12 i0, vi x1, vx] [] (mk I L t) else Res d 177 78 [vr 12 i0, vi x1, vx] [] (mk I L t) :=
  Eq.trans (e_aload_n D177_70 rfl rfl) <| Eq.trans (e_getI D177_71 rfl o_177 f_12_384 (sh_12 _) (by decide)) <| Eq.trans (e_iconst (x := -1) D177_74 rfl rfl) <| e_iceq D177_75 rfl rfl
theorem b177_78 {d : Nat} {i0 : Nat} {x1 : Int} {I L : Nat → Nat → Nat → Int} {t : Nat → Nat} : Res d 177 78 [vr 12 i0, vi x1, vx] [] (mk I L t) = Res d 177 83 [vr 12 i0, vi x1, vx] [vi 1] (mk I L t) :=
  Eq.trans (e_iconst (x := 1) D177_78 rfl rfl) <| e_goto (q1 := 83) D177_79 rfl
theorem b177_82 {d : Nat} {i0 : Nat} {x1 : Int} {I L : Nat → Nat → Nat → Int} {t : Nat → Nat} : Res d 177 82 [vr 12 i0, vi x1, vx] [] (mk I L t) = Res d 177 83 [vr 12 i0, vi x1, vx] [vi 0] (mk I L t) :=
  e_iconst (x := 0) D177_82 rfl rfl
theorem b177_83 {d : Nat} {i0 : Nat} {x1 xs0 : Int} {I L : Nat → Nat → Nat → Int} {t : Nat → Nat} : Res d 177 83 [vr 12 i0, vi x1, vx] [vi xs0] (mk I L t) = if xs0 = 0 then Res d 177 94 [vr 12 i0, vi x1, vi xs0] [] (mk I L t) else Res d 177 88 [vr 12 i0, vi x1, vi xs0] [] (mk I L t) :=
  Eq.trans (e_istore_n (ls1 := [vr 12 i0, vi x1, vi xs0]) D177_83 rfl (show 2 < 3 by decide) rfl) <| Eq.trans (e_iload_n D177_84 rfl rfl) <| e_ifeq D177_85 rfl rfl
theorem b177_88 {d : Nat} {i0 : Nat} {x1 x2 : Int} {I L : Nat → Nat → Nat → Int} {t : Nat → Nat} : Res (d + 1) 177 88 [vr 12 i0, vi x1, vi x2] [] (mk I L t) = (Cal d 169 [vr 12 i0, vi 2] (mk I L t)).bind fun v => Res (d + 1) 177 93 [vr 12 i0, vi x1, vi x2] (psh 169 v.1 []) v.2 :=
  Eq.trans (e_aload_n D177_88 rfl rfl) <| Eq.trans (e_iconst (x := 2) D177_89 rfl rfl) <| e_callV D177_90 rfl o_177 m_12_342 (by decide) rfl rfl
theorem b177_93 {d : Nat} {i0 : Nat} {x1 x2 xs0 : Int} {I L : Nat → Nat → Nat → Int} {t : Nat → Nat} (g1 : xs0 = 0 ∨ xs0 = 1) : Res d 177 93 [vr 12 i0, vi x1, vi x2] [vi xs0] (mk I L t) = some (vi xs0, (mk I L t)) :=
  e_iret D177_93 (nrz rfl g1)
theorem b177_94 {d : Nat} {i0 : Nat} {x1 x2 : Int} {I L : Nat → Nat → Nat → Int} {t : Nat → Nat} : Res (d + 1) 177 94 [vr 12 i0, vi x1, vi x2] [] (mk I L t) = (Cal d 168 [vr 12 i0] (mk I L t)).bind fun v => Res (d + 1) 177 98 [vr 12 i0, vi x1, vi x2] (psh 168 v.1 []) v.2 :=
  Eq.trans (e_aload_n D177_94 rfl rfl) <| e_callV D177_95 rfl o_177 m_12_345 (by decide) rfl rfl
theorem b177_98 {d : Nat} {i0 : Nat} {x1 x2 : Int} {I L : Nat → Nat → Nat → Int} {t : Nat → Nat} : Res d 177 98 [vr 12 i0, vi x1, vi x2] [] (mk I L t) = if ¬ x1 = 4 then Res d 177 108 [vr 12 i0, vi x1, vi x2] [] (mk I L t) else Res d 177 103 [vr 12 i0, vi x1, vi x2] [] (mk I L t) :=
  Eq.trans (e_iload_n D177_98 rfl rfl) <| Eq.trans (e_iconst (x := 4) D177_99 rfl rfl) <| e_icne D177_100 rfl rfl
theorem b177_103 {d : Nat} {i0 : Nat} {x1 x2 : Int} {I L : Nat → Nat → Nat → Int} {t : Nat → Nat} : Res d 177 103 [vr 12 i0, vi x1, vi x2] [] (mk I L t) = Res d 177 108 [vr 12 i0, vi x1, vi x2] [] (mk (up3 I 12 i0 48 1) L t) :=
  Eq.trans (e_aload_n D177_103 rfl rfl) <| Eq.trans (e_iconst (x := 1) D177_104 rfl rfl) <| e_putI D177_105 rfl o_177 f_12_374 (sh_12 _) rfl (by decide) (Or.inr ⟨by decide, by decide⟩)
theorem b177_108 {d : Nat} {i0 : Nat} {x1 x2 : Int} {I L : Nat → Nat → Nat → Int} {t : Nat → Nat} : Res d 177 108 [vr 12 i0, vi x1, vi x2] [] (mk I L t) = if ¬ x1 = 7 then Res d 177 119 [vr 12 i0, vi x1, vi x2] [] (mk I L t) else Res d 177 114 [vr 12 i0, vi x1, vi x2] [] (mk I L t) :=
  Eq.trans (e_iload_n D177_108 rfl rfl) <| Eq.trans (e_bipush (x := 7) D177_109 rfl rfl) <| e_icne D177_111 rfl rfl
theorem b177_114 {d : Nat} {i0 : Nat} {x1 x2 : Int} {I L : Nat → Nat → Nat → Int} {t : Nat → Nat} : Res d 177 114 [vr 12 i0, vi x1, vi x2] [] (mk I L t) = Res d 177 119 [vr 12 i0, vi x1, vi x2] [] (mk (up3 I 12 i0 49 1) L t) :=
  Eq.trans (e_aload_n D177_114 rfl rfl) <| Eq.trans (e_iconst (x := 1) D177_115 rfl rfl) <| e_putI D177_116 rfl o_177 f_12_378 (sh_12 _) rfl (by decide) (Or.inr ⟨by decide, by decide⟩)
theorem b177_119 {d : Nat} {i0 : Nat} {x1 x2 : Int} {I L : Nat → Nat → Nat → Int} {t : Nat → Nat} : Res d 177 119 [vr 12 i0, vi x1, vi x2] [] (mk I L t) = if x1 = 5 then Res d 177 130 [vr 12 i0, vi x1, vi x2] [] (mk I L t) else Res d 177 124 [vr 12 i0, vi x1, vi x2] [] (mk I L t) :=
  Eq.trans (e_iload_n D177_119 rfl rfl) <| Eq.trans (e_iconst (x := 5) D177_120 rfl rfl) <| e_iceq D177_121 rfl rfl
theorem b177_124 {d : Nat} {i0 : Nat} {x1 x2 : Int} {I L : Nat → Nat → Nat → Int} {t : Nat → Nat} : Res d 177 124 [vr 12 i0, vi x1, vi x2] [] (mk I L t) = if ¬ x1 = 6 then Res d 177 196 [vr 12 i0, vi x1, vi x2] [] (mk I L t) else Res d 177 130 [vr 12 i0, vi x1, vi x2] [] (mk I L t) :=
  Eq.trans (e_iload_n D177_124 rfl rfl) <| Eq.trans (e_bipush (x := 6) D177_125 rfl rfl) <| e_icne D177_127 rfl rfl
theorem b177_130 {d : Nat} {i0 : Nat} {x1 x2 : Int} {I L : Nat → Nat → Nat → Int} {t : Nat → Nat} : Res d 177 130 [vr 12 i0, vi x1, vi x2] [] (mk I L t) = if I 12 i0 38 = 2 then Res d 177 144 [vr 12 i0, vi x1, vi x2] [] (mk I L t) else Res d 177 138 [vr 12 i0, vi x1, vi x2] [] (mk I L t) :=
  Eq.trans (e_aload_n D177_130 rfl rfl) <| Eq.trans (e_getI D177_131 rfl o_177 f_12_318 (sh_12 _) (by decide)) <| Eq.trans (e_iconst (x := 2) D177_134 rfl rfl) <| e_iceq D177_135 rfl rfl
theorem b177_138 {d : Nat} {i0 : Nat} {x1 x2 : Int} {I L : Nat → Nat → Nat → Int} {t : Nat → Nat} : Res (d + 1) 177 138 [vr 12 i0, vi x1, vi x2] [] (mk I L t) = (Cal d 169 [vr 12 i0, vi 1] (mk I L t)).bind fun v => Res (d + 1) 177 143 [vr 12 i0, vi x1, vi x2] (psh 169 v.1 []) v.2 :=
  Eq.trans (e_aload_n D177_138 rfl rfl) <| Eq.trans (e_iconst (x := 1) D177_139 rfl rfl) <| e_callV D177_140 rfl o_177 m_12_342 (by decide) rfl rfl
theorem b177_143 {d : Nat} {i0 : Nat} {x1 x2 xs0 : Int} {I L : Nat → Nat → Nat → Int} {t : Nat → Nat} (g1 : xs0 = 0 ∨ xs0 = 1) : Res d 177 143 [vr 12 i0, vi x1, vi x2] [vi xs0] (mk I L t) = some (vi xs0, (mk I L t)) :=
  e_iret D177_143 (nrz rfl g1)
theorem b177_144 {d : Nat} {i0 : Nat} {x1 x2 : Int} {I L : Nat → Nat → Nat → Int} {t : Nat → Nat} : Res d 177 144 [vr 12 i0, vi x1, vi x2] [] (mk I L t) = if ¬ x1 = 5 then Res d 177 158 [vr 12 i0, vi x1, vi x2] [vi (I 12 i0 40)] (mk I L t) else Res d 177 153 [vr 12 i0, vi x1, vi x2] [vi (I 12 i0 40)] (mk I L t) :=
  Eq.trans (e_aload_n D177_144 rfl rfl) <| Eq.trans (e_getI D177_145 rfl o_177 f_12_330 (sh_12 _) (by decide)) <| Eq.trans (e_iload_n D177_148 rfl rfl) <| Eq.trans (e_iconst (x := 5) D177_149 rfl rfl) <| e_icne D177_150 rfl rfl
theorem b177_153 {d : Nat} {i0 : Nat} {x1 x2 xs0 : Int} {I L : Nat → Nat → Nat → Int} {t : Nat → Nat} : Res d 177 153 [vr 12 i0, vi x1, vi x2] [vi xs0] (mk I L t) = Res d 177 159 [vr 12 i0, vi x1, vi x2] [vi 99, vi xs0] (mk I L t) :=
  Eq.trans (e_bipush (x := 99) D177_153 rfl rfl) <| e_goto (q1 := 159) D177_155 rfl
theorem b177_158 {d : Nat} {i0 : Nat} {x1 x2 xs0 : Int} {I L : Nat → Nat → Nat → Int} {t : Nat → Nat} : Res d 177 158 [vr 12 i0, vi x1, vi x2] [vi xs0] (mk I L t) = Res d 177 159 [vr 12 i0, vi x1, vi x2] [vi 5, vi xs0] (mk I L t) :=
  e_iconst (x := 5) D177_158 rfl rfl
theorem b177_159 {d : Nat} {i0 : Nat} {x1 x2 xs1 xs0 : Int} {I L : Nat → Nat → Nat → Int} {t : Nat → Nat} : Res d 177 159 [vr 12 i0, vi x1, vi x2] [vi xs1, vi xs0] (mk I L t) = if xs0 ≤ xs1 then Res d 177 168 [vr 12 i0, vi x1, vi x2] [] (mk I L t) else Res d 177 162 [vr 12 i0, vi x1, vi x2] [] (mk I L t) :=
  e_icle D177_159 rfl rfl
theorem b177_162 {d : Nat} {i0 : Nat} {x1 x2 : Int} {I L : Nat → Nat → Nat → Int} {t : Nat → Nat} : Res (d + 1) 177 162 [vr 12 i0, vi x1, vi x2] [] (mk I L t) = (Cal d 169 [vr 12 i0, vi 2] (mk I L t)).bind fun v => Res (d + 1) 177 167 [vr 12 i0, vi x1, vi x2] (psh 169 v.1 []) v.2 :=
  Eq.trans (e_aload_n D177_162 rfl rfl) <| Eq.trans (e_iconst (x := 2) D177_163 rfl rfl) <| e_callV D177_164 rfl o_177 m_12_342 (by decide) rfl rfl
theorem b177_167 {d : Nat} {i0 : Nat} {x1 x2 xs0 : Int} {I L : Nat → Nat → Nat → Int} {t : Nat → Nat} (g1 : xs0 = 0 ∨ xs0 = 1) : Res d 177 167 [vr 12 i0, vi x1, vi x2] [vi xs0] (mk I L t) = some (vi xs0, (mk I L t)) :=
  e_iret D177_167 (nrz rfl g1)
theorem b177_168 {d : Nat} {i0 : Nat} {x1 x2 : Int} {I L : Nat → Nat → Nat → Int} {t : Nat → Nat} : Res d 177 168 [vr 12 i0, vi x1, vi x2] [] (mk I L t) = if ¬ x1 = 5 then Res d 177 184 [vr 12 i0, vi x1, vi x2] [] (mk I L t) else Res d 177 173 [vr 12 i0, vi x1, vi x2] [] (mk I L t) :=
  Eq.trans (e_iload_n D177_168 rfl rfl) <| Eq.trans (e_iconst (x := 5) D177_169 rfl rfl) <| e_icne D177_170 rfl rfl
theorem b177_173 {d : Nat} {i0 : Nat} {x1 x2 : Int} {I L : Nat → Nat → Nat → Int} {t : Nat → Nat} : Res d 177 173 [vr 12 i0, vi x1, vi x2] [] (mk I L t) = Res d 177 192 [vr 12 i0, vi x1, vi x2] [] (mk (up3 I 12 i0 46 (I 12 i0 40)) L t) :=
  Eq.trans (e_aload_n D177_173 rfl rfl) <| Eq.trans (e_aload_n D177_174 rfl rfl) <| Eq.trans (e_getI D177_175 rfl o_177 f_12_330 (sh_12 _) (by decide)) <| Eq.trans (e_putI D177_178 rfl o_177 f_12_381 (sh_12 _) rfl (by decide) (Or.inl (by decide))) <| e_goto (q1 := 192) D177_181 rfl
theorem b177_184 {d : Nat} {i0 : Nat} {x1 x2 : Int} {I L : Nat → Nat → Nat → Int} {t : Nat → Nat} : Res d 177 184 [vr 12 i0, vi x1, vi x2] [] (mk I L t) = Res d 177 192 [vr 12 i0, vi x1, vi x2] [] (mk (up3 I 12 i0 47 (I 12 i0 40)) L t) :=
  Eq.trans (e_aload_n D177_184 rfl rfl) <| Eq.trans (e_aload_n D177_185 rfl rfl) <| Eq.trans (e_getI D177_186 rfl o_177 f_12_330 (sh_12 _) (by decide)) <| e_putI D177_189 rfl o_177 f_12_384 (sh_12 _) rfl (by decide) (Or.inl (by decide))
theorem b177_192 {d : Nat} {i0 : Nat} {x1 x2 : Int} {I L : Nat → Nat → Nat → Int} {t : Nat → Nat} : Res (d + 1) 177 192 [vr 12 i0, vi x1, vi x2] [] (mk I L t) = (Cal d 168 [vr 12 i0] (mk I L t)).bind fun v => Res (d + 1) 177 196 [vr 12 i0, vi x1, vi x2] (psh 168 v.1 []) v.2 :=
  Eq.trans (e_aload_n D177_192 rfl rfl) <| e_callV D177_193 rfl o_177 m_12_345 (by decide) rfl rfl
theorem b177_196 {d : Nat} {i0 : Nat} {x1 x2 : Int} {I L : Nat → Nat → Nat → Int} {t : Nat → Nat} : Res (d + 1) 177 196 [vr 12 i0, vi x1, vi x2] [] (mk I L t) = (Cal d 170 [vr 12 i0, vi 59] (mk I L t)).bind fun v => Res (d + 1) 177 202 [vr 12 i0, vi x1, vi x2] (psh 170 v.1 []) v.2 :=
  Eq.trans (e_aload_n D177_196 rfl rfl) <| Eq.trans (e_bipush (x := 59) D177_197 rfl rfl) <| e_callV D177_199 rfl o_177 m_12_368 (by decide) rfl rfl
theorem b177_202 {d : Nat} {i0 : Nat} {x1 x2 xs0 : Int} {I L : Nat → Nat → Nat → Int} {t : Nat → Nat} (g1 : xs0 = 0 ∨ xs0 = 1) : Res d 177 202 [vr 12 i0, vi x1, vi x2] [vi xs0] (mk I L t) = some (vi xs0, (mk I L t)) :=
  e_iret D177_202 (nrz rfl g1)
/-! m_reads -/
theorem cc_178 : cod 178 = cX12_reads := rfl
theorem D178_0 : decode (cod 178) 0 = .ok (.aload_n 0, 1) := by rw [cc_178]; decide +kernel
theorem D178_1 : decode (cod 178) 1 = .ok (.getfield 318, 3) := by rw [cc_178]; decide +kernel
theorem D178_4 : decode (cod 178) 4 = .ok (.ifCond .eq 60, 3) := by rw [cc_178]; decide +kernel
theorem D178_7 : decode (cod 178) 7 = .ok (.aload_n 0, 1) := by rw [cc_178]; decide +kernel
theorem D178_8 : decode (cod 178) 8 = .ok (.getfield 298, 3) := by rw [cc_178]; decide +kernel
theorem D178_11 : decode (cod 178) 11 = .ok (.ifCond .ne 13, 3) := by rw [cc_178]; decide +kernel
theorem D178_14 : decode (cod 178) 14 = .ok (.aload_n 0, 1) := by rw [cc_178]; decide +kernel
theorem D178_15 : decode (cod 178) 15 = .ok (.invokevirtual 387, 3) := by rw [cc_178]; decide +kernel
theorem D178_18 : decode (cod 178) 18 = .ok (.ifCond .ne 33, 3) := by rw [cc_178]; decide +kernel
theorem D178_21 : decode (cod 178) 21 = .ok (.goto 28, 3) := by rw [cc_178]; decide +kernel
theorem D178_24 : decode (cod 178) 24 = .ok (.aload_n 0, 1) := by rw [cc_178]; decide +kernel
theorem D178_25 : decode (cod 178) 25 = .ok (.getfield 298, 3) := by rw [cc_178]; decide +kernel
theorem D178_28 : decode (cod 178) 28 = .ok (.iconst 1, 1) := by rw [cc_178]; decide +kernel
theorem D178_29 : decode (cod 178) 29 = .ok (.if_icmp .ne 13, 3) := by rw [cc_178]; decide +kernel
theorem D178_32 : decode (cod 178) 32 = .ok (.aload_n 0, 1) := by rw [cc_178]; decide +kernel
theorem D178_33 : decode (cod 178) 33 = .ok (.invokevirtual 390, 3) := by rw [cc_178]; decide +kernel
theorem D178_36 : decode (cod 178) 36 = .ok (.ifCond .ne 15, 3) := by rw [cc_178]; decide +kernel
theorem D178_39 : decode (cod 178) 39 = .ok (.goto 10, 3) := by rw [cc_178]; decide +kernel
theorem D178_42 : decode (cod 178) 42 = .ok (.aload_n 0, 1) := by rw [cc_178]; decide +kernel
theorem D178_43 : decode (cod 178) 43 = .ok (.invokevirtual 393, 3) := by rw [cc_178]; decide +kernel
theorem D178_46 : decode (cod 178) 46 = .ok (.ifCond .ne 5, 3) := by rw [cc_178]; decide +kernel
theorem D178_49 : decode (cod 178) 49 = .ok (.iconst 0, 1) := by rw [cc_178]; decide +kernel
theorem D178_50 : decode (cod 178) 50 = .ok (.ireturn, 1) := by rw [cc_178]; decide +kernel
theorem D178_51 : decode (cod 178) 51 = .ok (.aload_n 0, 1) := by rw [cc_178]; decide +kernel
theorem D178_52 : decode (cod 178) 52 = .ok (.dup, 1) := by rw [cc_178]; decide +kernel
theorem D178_53 : decode (cod 178) 53 = .ok (.getfield 371, 3) := by rw [cc_178]; decide +kernel
theorem D178_56 : decode (cod 178) 56 = .ok (.iconst 1, 1) := by rw [cc_178]; decide +kernel
theorem D178_57 : decode (cod 178) 57 = .ok (.iadd, 1) := by rw [cc_178]; decide +kernel
theorem D178_58 : decode (cod 178) 58 = .ok (.putfield 371, 3) := by rw [cc_178]; decide +kernel
theorem D178_61 : decode (cod 178) 61 = .ok (.goto (-61), 3) := by rw [cc_178]; decide +kernel
theorem D178_64 : decode (cod 178) 64 = .ok (.iconst 1, 1) := by rw [cc_178]; decide +kernel
theorem D178_65 : decode (cod 178) 65 = .ok (.ireturn, 1) := by rw [cc_178]; decide +kernel
theorem b178_0 {d : Nat} {i0 : Nat} {I L : Nat → Nat → Nat → Int} {t : Nat → Nat} : Res d 178 0 [vr 12 i0] [] (mk I L t) = if I 12 i0 38 = 0 then Res d 178 64 [vr 12 i0] [] (mk I L t) else Res d 178 7 [vr 12 i0] [] (mk I L t) :=
  Eq.trans (e_aload_n D178_0 rfl rfl) <| Eq.trans (e_getI D178_1 rfl o_178 f_12_318 (sh_12 _) (by decide)) <| e_ifeq D178_4 rfl rfl
theorem b178_7 {d : Nat} {i0 : Nat} {I L : Nat → Nat → Nat → Int} {t : Nat → Nat} : Res d 178 7 [vr 12 i0] [] (mk I L t) = if ¬ I 12 i0 45 = 0 then Res d 178 24 [vr 12 i0] [] (mk I L t) else Res d 178 14 [vr 12 i0] [] (mk I L t) :=
  Eq.trans (e_aload_n D178_7 rfl rfl) <| Eq.trans (e_getI D178_8 rfl o_178 f_12_298 (sh_12 _) (by decide)) <| e_ifne D178_11 rfl rfl
theorem b178_14 {d : Nat} {i0 : Nat} {I L : Nat → Nat → Nat → Int} {t : Nat → Nat} : Res (d + 1) 178 14 [vr 12 i0] [] (mk I L t) = (Cal d 175 [vr 12 i0] (mk I L t)).bind fun v => Res (d + 1) 178 18 [vr 12 i0] (psh 175 v.1 []) v.2 :=
  Eq.trans (e_aload_n D178_14 rfl rfl) <| e_callV D178_15 rfl o_178 m_12_387 (by decide) rfl rfl
theorem b178_18 {d : Nat} {i0 : Nat} {xs0 : Int} {I L : Nat → Nat → Nat → Int} {t : Nat → Nat} : Res d 178 18 [vr 12 i0] [vi xs0] (mk I L t) = if ¬ xs0 = 0 then Res d 178 51 [vr 12 i0] [] (mk I L t) else Res d 178 21 [vr 12 i0] [] (mk I L t) :=
  e_ifne D178_18 rfl rfl
theorem b178_21 {d : Nat} {i0 : Nat} {I L : Nat → Nat → Nat → Int} {t : Nat → Nat} : Res d 178 21 [vr 12 i0] [] (mk I L t) = Res d 178 49 [vr 12 i0] [] (mk I L t) :=
  e_goto (q1 := 49) D178_21 rfl
theorem b178_24 {d : Nat} {i0 : Nat} {I L : Nat → Nat → Nat → Int} {t : Nat → Nat} : Res d 178 24 [vr 12 i0] [] (mk I L t) = if ¬ I 12 i0 45 = 1 then Res d 178 42 [vr 12 i0] [] (mk I L t) else Res d 178 32 [vr 12 i0] [] (mk I L t) :=
  Eq.trans (e_aload_n D178_24 rfl rfl) <| Eq.trans (e_getI D178_25 rfl o_178 f_12_298 (sh_12 _) (by decide)) <| Eq.trans (e_iconst (x := 1) D178_28 rfl rfl) <| e_icne D178_29 rfl rfl
theorem b178_32 {d : Nat} {i0 : Nat} {I L : Nat → Nat → Nat → Int} {t : Nat → Nat} : Res (d + 1) 178 32 [vr 12 i0] [] (mk I L t) = (Cal d 176 [vr 12 i0] (mk I L t)).bind fun v => Res (d + 1) 178 36 [vr 12 i0] (psh 176 v.1 []) v.2 :=
  Eq.trans (e_aload_n D178_32 rfl rfl) <| e_callV D178_33 rfl o_178 m_12_390 (by decide) rfl rfl
theorem b178_36 {d : Nat} {i0 : Nat} {xs0 : Int} {I L : Nat → Nat → Nat → Int} {t : Nat → Nat} : Res d 178 36 [vr 12 i0] [vi xs0] (mk I L t) = if ¬ xs0 = 0 then Res d 178 51 [vr 12 i0] [] (mk I L t) else Res d 178 39 [vr 12 i0] [] (mk I L t) :=
  e_ifne D178_36 rfl rfl
theorem b178_39 {d : Nat} {i0 : Nat} {I L : Nat → Nat → Nat → Int} {t : Nat → Nat} : Res d 178 39 [vr 12 i0] [] (mk I L t) = Res d 178 49 [vr 12 i0] [] (mk I L t) :=
  e_goto (q1 := 49) D178_39 rfl
theorem b178_42 {d : Nat} {i0 : Nat} {I L : Nat → Nat → Nat → Int} {t : Nat → Nat} : Res (d + 1) 178 42 [vr 12 i0] [] (mk I L t) = (Cal d 177 [vr 12 i0] (mk I L t)).bind fun v => Res (d + 1) 178 46 [vr 12 i0] (psh 177 v.1 []) v.2 :=
  Eq.trans (e_aload_n D178_42 rfl rfl) <| e_callV D178_43 rfl o_178 m_12_393 (by decide) rfl rfl
theorem b178_46 {d : Nat} {i0 : Nat} {xs0 : Int} {I L : Nat → Nat → Nat → Int} {t : Nat → Nat} : Res d 178 46 [vr 12 i0] [vi xs0] (mk I L t) = if ¬ xs0 = 0 then Res d 178 51 [vr 12 i0] [] (mk I L t) else Res d 178 49 [vr 12 i0] [] (mk I L t) :=
  e_ifne D178_46 rfl rfl
theorem b178_49 {d : Nat} {i0 : Nat} {I L : Nat → Nat → Nat → Int} {t : Nat → Nat} : Res d 178 49 [vr 12 i0] [] (mk I L t) = some (vi 0, (mk I L t)) :=
  Eq.trans (e_iconst (x := 0) D178_49 rfl rfl) <| e_iret D178_50 rfl
theorem b178_51 {d : Nat} {i0 : Nat} {I L : Nat → Nat → Nat → Int} {t : Nat → Nat} : Res d 178 51 [vr 12 i0] [] (mk I L t) = Res d 178 0 [vr 12 i0] [] (mk (up3 I 12 i0 34 (w32 ((I 12 i0 34) + 1))) L t) :=
  Eq.trans (e_aload_n D178_51 rfl rfl) <| Eq.trans (e_dup D178_52 rfl) <| Eq.trans (e_getI D178_53 rfl o_178 f_12_371 (sh_12 _) (by decide)) <| Eq.trans (e_iconst (x := 1) D178_56 rfl rfl) <| Eq.trans (e_iadd D178_57 rfl) <| Eq.trans (e_putI D178_58 rfl o_178 f_12_371 (sh_12 _) rfl (by decide) (Or.inl (by decide))) <| e_goto (q1 := 0) D178_61 rfl
theorem b178_64 {d : Nat} {i0 : Nat} {I L : Nat → Nat → Nat → Int} {t : Nat → Nat} : Res d 178 64 [vr 12 i0] [] (mk I L t) = some (vi 1, (mk I L t)) :=
  Eq.trans (e_iconst (x := 1) D178_64 rfl rfl) <| e_iret D178_65 rfl
/-! m_text -/
theorem cc_179 : cod 179 = cX12_text := rfl
theorem D179_0 : decode (cod 179) 0 = .ok (.aload_n 0, 1) := by rw [cc_179]; decide +kernel
theorem D179_1 : decode (cod 179) 1 = .ok (.iconst 0, 1) := by rw [cc_179]; decide +kernel
theorem D179_2 : decode (cod 179) 2 = .ok (.putfield 336, 3) := by rw [cc_179]; decide +kernel
theorem D179_5 : decode (cod 179) 5 = .ok (.iload_n 1, 1) := by rw [cc_179]; decide +kernel
theorem D179_6 : decode (cod 179) 6 = .ok (.iconst 1, 1) := by rw [cc_179]; decide +kernel
theorem D179_7 : decode (cod 179) 7 = .ok (.if_icmp .ne 15, 3) := by rw [cc_179]; decide +kernel
theorem D179_10 : decode (cod 179) 10 = .ok (.iload_n 2, 1) := by rw [cc_179]; decide +kernel
theorem D179_11 : decode (cod 179) 11 = .ok (.ifCond .ne 7, 3) := by rw [cc_179]; decide +kernel
theorem D179_14 : decode (cod 179) 14 = .ok (.iconst 1, 1) := by rw [cc_179]; decide +kernel
theorem D179_15 : decode (cod 179) 15 = .ok (.goto 30, 3) := by rw [cc_179]; decide +kernel
theorem D179_18 : decode (cod 179) 18 = .ok (.iconst 0, 1) := by rw [cc_179]; decide +kernel
theorem D179_19 : decode (cod 179) 19 = .ok (.goto 26, 3) := by rw [cc_179]; decide +kernel
theorem D179_22 : decode (cod 179) 22 = .ok (.iload_n 1, 1) := by rw [cc_179]; decide +kernel
theorem D179_23 : decode (cod 179) 23 = .ok (.iconst 0, 1) := by rw [cc_179]; decide +kernel
theorem D179_24 : decode (cod 179) 24 = .ok (.iconst 2, 1) := by rw [cc_179]; decide +kernel
theorem D179_25 : decode (cod 179) 25 = .ok (.invokestatic 219, 3) := by rw [cc_179]; decide +kernel
theorem D179_28 : decode (cod 179) 28 = .ok (.ifCond .eq 16, 3) := by rw [cc_179]; decide +kernel
theorem D179_31 : decode (cod 179) 31 = .ok (.iload_n 2, 1) := by rw [cc_179]; decide +kernel
theorem D179_32 : decode (cod 179) 32 = .ok (.iconst 0, 1) := by rw [cc_179]; decide +kernel
theorem D179_33 : decode (cod 179) 33 = .ok (.iconst 3, 1) := by rw [cc_179]; decide +kernel
theorem D179_34 : decode (cod 179) 34 = .ok (.invokestatic 219, 3) := by rw [cc_179]; decide +kernel
theorem D179_37 : decode (cod 179) 37 = .ok (.ifCond .eq 7, 3) := by rw [cc_179]; decide +kernel
theorem D179_40 : decode (cod 179) 40 = .ok (.iconst 1, 1) := by rw [cc_179]; decide +kernel
theorem D179_41 : decode (cod 179) 41 = .ok (.goto 4, 3) := by rw [cc_179]; decide +kernel
theorem D179_44 : decode (cod 179) 44 = .ok (.iconst 0, 1) := by rw [cc_179]; decide +kernel
theorem D179_45 : decode (cod 179) 45 = .ok (.istore_n 3, 1) := by rw [cc_179]; decide +kernel
theorem D179_46 : decode (cod 179) 46 = .ok (.iload_n 3, 1) := by rw [cc_179]; decide +kernel
theorem D179_47 : decode (cod 179) 47 = .ok (.ifCond .ne 20, 3) := by rw [cc_179]; decide +kernel
theorem D179_50 : decode (cod 179) 50 = .ok (.aload_n 0, 1) := by rw [cc_179]; decide +kernel
theorem D179_51 : decode (cod 179) 51 = .ok (.iconst 0, 1) := by rw [cc_179]; decide +kernel
theorem D179_52 : decode (cod 179) 52 = .ok (.putfield 239, 3) := by rw [cc_179]; decide +kernel
theorem D179_55 : decode (cod 179) 55 = .ok (.aload_n 0, 1) := by rw [cc_179]; decide +kernel
theorem D179_56 : decode (cod 179) 56 = .ok (.iconst 0, 1) := by rw [cc_179]; decide +kernel
theorem D179_57 : decode (cod 179) 57 = .ok (.putfield 396, 3) := by rw [cc_179]; decide +kernel
theorem D179_60 : decode (cod 179) 60 = .ok (.aload_n 0, 1) := by rw [cc_179]; decide +kernel
theorem D179_61 : decode (cod 179) 61 = .ok (.iconst (-1), 1) := by rw [cc_179]; decide +kernel
theorem D179_62 : decode (cod 179) 62 = .ok (.putfield 92, 3) := by rw [cc_179]; decide +kernel
theorem D179_65 : decode (cod 179) 65 = .ok (.iconst (-1), 1) := by rw [cc_179]; decide +kernel
theorem D179_66 : decode (cod 179) 66 = .ok (.ireturn, 1) := by rw [cc_179]; decide +kernel
theorem D179_67 : decode (cod 179) 67 = .ok (.aload_n 0, 1) := by rw [cc_179]; decide +kernel
theorem D179_68 : decode (cod 179) 68 = .ok (.iload_n 1, 1) := by rw [cc_179]; decide +kernel
theorem D179_69 : decode (cod 179) 69 = .ok (.putfield 298, 3) := by rw [cc_179]; decide +kernel
theorem D179_72 : decode (cod 179) 72 = .ok (.aload_n 0, 1) := by rw [cc_179]; decide +kernel
theorem D179_73 : decode (cod 179) 73 = .ok (.iconst 0, 1) := by rw [cc_179]; decide +kernel
theorem D179_74 : decode (cod 179) 74 = .ok (.putfield 242, 3) := by rw [cc_179]; decide +kernel
theorem D179_77 : decode (cod 179) 77 = .ok (.aload_n 0, 1) := by rw [cc_179]; decide +kernel
theorem D179_78 : decode (cod 179) 78 = .ok (.iconst 0, 1) := by rw [cc_179]; decide +kernel
theorem D179_79 : decode (cod 179) 79 = .ok (.putfield 371, 3) := by rw [cc_179]; decide +kernel
theorem D179_82 : decode (cod 179) 82 = .ok (.aload_n 0, 1) := by rw [cc_179]; decide +kernel
theorem D179_83 : decode (cod 179) 83 = .ok (.iconst 0, 1) := by rw [cc_179]; decide +kernel
theorem D179_84 : decode (cod 179) 84 = .ok (.putfield 348, 3) := by rw [cc_179]; decide +kernel
theorem D179_87 : decode (cod 179) 87 = .ok (.aload_n 0, 1) := by rw [cc_179]; decide +kernel
theorem D179_88 : decode (cod 179) 88 = .ok (.iconst 0, 1) := by rw [cc_179]; decide +kernel
theorem D179_89 : decode (cod 179) 89 = .ok (.putfield 374, 3) := by rw [cc_179]; decide +kernel
theorem D179_92 : decode (cod 179) 92 = .ok (.aload_n 0, 1) := by rw [cc_179]; decide +kernel
theorem D179_93 : decode (cod 179) 93 = .ok (.iconst 0, 1) := by rw [cc_179]; decide +kernel
theorem D179_94 : decode (cod 179) 94 = .ok (.putfield 378, 3) := by rw [cc_179]; decide +kernel
theorem D179_97 : decode (cod 179) 97 = .ok (.aload_n 0, 1) := by rw [cc_179]; decide +kernel
theorem D179_98 : decode (cod 179) 98 = .ok (.iconst (-1), 1) := by rw [cc_179]; decide +kernel
theorem D179_99 : decode (cod 179) 99 = .ok (.putfield 381, 3) := by rw [cc_179]; decide +kernel
theorem D179_102 : decode (cod 179) 102 = .ok (.aload_n 0, 1) := by rw [cc_179]; decide +kernel
theorem D179_103 : decode (cod 179) 103 = .ok (.iconst (-1), 1) := by rw [cc_179]; decide +kernel
theorem D179_104 : decode (cod 179) 104 = .ok (.putfield 384, 3) := by rw [cc_179]; decide +kernel
theorem D179_107 : decode (cod 179) 107 = .ok (.iconst 0, 1) := by rw [cc_179]; decide +kernel
theorem D179_108 : decode (cod 179) 108 = .ok (.istore 4, 2) := by rw [cc_179]; decide +kernel
theorem D179_110 : decode (cod 179) 110 = .ok (.iload 4, 2) := by rw [cc_179]; decide +kernel
theorem D179_112 : decode (cod 179) 112 = .ok (.bipush 8, 2) := by rw [cc_179]; decide +kernel
theorem D179_114 : decode (cod 179) 114 = .ok (.if_icmp .ge 17, 3) := by rw [cc_179]; decide +kernel
theorem D179_117 : decode (cod 179) 117 = .ok (.aload_n 0, 1) := by rw [cc_179]; decide +kernel
theorem D179_118 : decode (cod 179) 118 = .ok (.getfield 49, 3) := by rw [cc_179]; decide +kernel
theorem D179_121 : decode (cod 179) 121 = .ok (.iload 4, 2) := by rw [cc_179]; decide +kernel
theorem D179_123 : decode (cod 179) 123 = .ok (.iconst 0, 1) := by rw [cc_179]; decide +kernel
theorem D179_124 : decode (cod 179) 124 = .ok (.iastore, 1) := by rw [cc_179]; decide +kernel
theorem D179_125 : decode (cod 179) 125 = .ok (.iinc 4 1, 3) := by rw [cc_179]; decide +kernel
theorem D179_128 : decode (cod 179) 128 = .ok (.goto (-18), 3) := by rw [cc_179]; decide +kernel
theorem D179_131 : decode (cod 179) 131 = .ok (.aload_n 0, 1) := by rw [cc_179]; decide +kernel
theorem D179_132 : decode (cod 179) 132 = .ok (.invokevirtual 345, 3) := by rw [cc_179]; decide +kernel
theorem D179_135 : decode (cod 179) 135 = .ok (.aload_n 0, 1) := by rw [cc_179]; decide +kernel
theorem D179_136 : decode (cod 179) 136 = .ok (.invokevirtual 399, 3) := by rw [cc_179]; decide +kernel
theorem D179_139 : decode (cod 179) 139 = .ok (.istore 4, 2) := by rw [cc_179]; decide +kernel
theorem D179_141 : decode (cod 179) 141 = .ok (.aload_n 0, 1) := by rw [cc_179]; decide +kernel
theorem D179_142 : decode (cod 179) 142 = .ok (.iconst 0, 1) := by rw [cc_179]; decide +kernel
theorem D179_143 : decode (cod 179) 143 = .ok (.putfield 239, 3) := by rw [cc_179]; decide +kernel
theorem D179_146 : decode (cod 179) 146 = .ok (.aload_n 0, 1) := by rw [cc_179]; decide +kernel
theorem D179_147 : decode (cod 179) 147 = .ok (.aload_n 0, 1) := by rw [cc_179]; decide +kernel
theorem D179_148 : decode (cod 179) 148 = .ok (.getfield 336, 3) := by rw [cc_179]; decide +kernel
theorem D179_151 : decode (cod 179) 151 = .ok (.putfield 396, 3) := by rw [cc_179]; decide +kernel
theorem D179_154 : decode (cod 179) 154 = .ok (.aload_n 0, 1) := by rw [cc_179]; decide +kernel
theorem D179_155 : decode (cod 179) 155 = .ok (.iload 4, 2) := by rw [cc_179]; decide +kernel
theorem D179_157 : decode (cod 179) 157 = .ok (.ifCond .eq 7, 3) := by rw [cc_179]; decide +kernel
theorem D179_160 : decode (cod 179) 160 = .ok (.iconst (-1), 1) := by rw [cc_179]; decide +kernel
theorem D179_161 : decode (cod 179) 161 = .ok (.goto 7, 3) := by rw [cc_179]; decide +kernel
theorem D179_164 : decode (cod 179) 164 = .ok (.aload_n 0, 1) := by rw [cc_179]; decide +kernel
theorem D179_165 : decode (cod 179) 165 = .ok (.getfield 339, 3) := by rw [cc_179]; decide +kernel
theorem D179_168 : decode (cod 179) 168 = .ok (.putfield 92, 3) := by rw [cc_179]; decide +kernel
theorem D179_171 : decode (cod 179) 171 = .ok (.iload 4, 2) := by rw [cc_179]; decide +kernel
theorem D179_173 : decode (cod 179) 173 = .ok (.ifCond .ne 5, 3) := by rw [cc_179]; decide +kernel
theorem D179_176 : decode (cod 179) 176 = .ok (.iconst (-1), 1) := by rw [cc_179]; decide +kernel
theorem D179_177 : decode (cod 179) 177 = .ok (.ireturn, 1) := by rw [cc_179]; decide +kernel
theorem D179_178 : decode (cod 179) 178 = .ok (.aload_n 0, 1) := by rw [cc_179]; decide +kernel
theorem D179_179 : decode (cod 179) 179 = .ok (.iload_n 2, 1) := by rw [cc_179]; decide +kernel
theorem D179_180 : decode (cod 179) 180 = .ok (.invokevirtual 402, 3) := by rw [cc_179]; decide +kernel
theorem D179_183 : decode (cod 179) 183 = .ok (.aload_n 0, 1) := by rw [cc_179]; decide +kernel
theorem D179_184 : decode (cod 179) 184 = .ok (.getfield 371, 3) := by rw [cc_179]; decide +kernel
theorem D179_187 : decode (cod 179) 187 = .ok (.ireturn, 1) := by rw [cc_179]; decide +kernel
theorem b179_0 {d : Nat} {i0 : Nat} {x1 x2 : Int} {I L : Nat → Nat → Nat → Int} {t : Nat → Nat} : Res d 179 0 [vr 12 i0, vi x1, vi x2, vx, vx] [] (mk I L t) = if ¬ x1 = 1 then Res d 179 22 [vr 12 i0, vi x1, vi x2, vx, vx] [] (mk (up3 I 12 i0 41 0) L t) else Res d 179 10 [vr 12 i0, vi x1, vi x2, vx, vx] [] (mk (up3 I 12 i0 41 0) L t) :=
  Eq.trans (e_aload_n D179_0 rfl rfl) <| Eq.trans (e_iconst (x := 0) D179_1 rfl rfl) <| Eq.trans (e_putI D179_2 rfl o_179 f_12_336 (sh_12 _) rfl (by decide) (Or.inl (by decide))) <| Eq.trans (e_iload_n D179_5 rfl rfl) <| Eq.trans (e_iconst (x := 1) D179_6 rfl rfl) <| e_icne D179_7 rfl rfl
theorem b179_10 {d : Nat} {i0 : Nat} {x1 x2 : Int} {I L : Nat → Nat → Nat → Int} {t : Nat → Nat} : Res d 179 10 [vr 12 i0, vi x1, vi x2, vx, vx] [] (mk I L t) = if ¬ x2 = 0 then Res d 179 18 [vr 12 i0, vi x1, vi x2, vx, vx] [] (mk I L t) else Res d 179 14 [vr 12 i0, vi x1, vi x2, vx, vx] [] (mk I L t) :=
  Eq.trans (e_iload_n D179_10 rfl rfl) <| e_ifne D179_11 rfl rfl
theorem b179_14 {d : Nat} {i0 : Nat} {x1 x2 : Int} {I L : Nat → Nat → Nat → Int} {t : Nat → Nat} : Res d 179 14 [vr 12 i0, vi x1, vi x2, vx, vx] [] (mk I L t) = Res d 179 45 [vr 12 i0, vi x1, vi x2, vx, vx] [vi 1] (mk I L t) :=
  Eq.trans (e_iconst (x := 1) D179_14 rfl rfl) <| e_goto (q1 := 45) D179_15 rfl
theorem b179_18 {d : Nat} {i0 : Nat} {x1 x2 : Int} {I L : Nat → Nat → Nat → Int} {t : Nat → Nat} : Res d 179 18 [vr 12 i0, vi x1, vi x2, vx, vx] [] (mk I L t) = Res d 179 45 [vr 12 i0, vi x1, vi x2, vx, vx] [vi 0] (mk I L t) :=
  Eq.trans (e_iconst (x := 0) D179_18 rfl rfl) <| e_goto (q1 := 45) D179_19 rfl
theorem b179_22 {d : Nat} {i0 : Nat} {x1 x2 : Int} {I L : Nat → Nat → Nat → Int} {t : Nat → Nat} : Res (d + 1) 179 22 [vr 12 i0, vi x1, vi x2, vx, vx] [] (mk I L t) = (Cal d 146 [vi x1, vi 0, vi 2] (mk I L t)).bind fun v => Res (d + 1) 179 28 [vr 12 i0, vi x1, vi x2, vx, vx] (psh 146 v.1 []) v.2 :=
  Eq.trans (e_iload_n D179_22 rfl rfl) <| Eq.trans (e_iconst (x := 0) D179_23 rfl rfl) <| Eq.trans (e_iconst (x := 2) D179_24 rfl rfl) <| e_callS D179_25 rfl o_179 m_12_219 (by decide) rfl rfl
theorem b179_28 {d : Nat} {i0 : Nat} {x1 x2 xs0 : Int} {I L : Nat → Nat → Nat → Int} {t : Nat → Nat} : Res d 179 28 [vr 12 i0, vi x1, vi x2, vx, vx] [vi xs0] (mk I L t) = if xs0 = 0 then Res d 179 44 [vr 12 i0, vi x1, vi x2, vx, vx] [] (mk I L t) else Res d 179 31 [vr 12 i0, vi x1, vi x2, vx, vx] [] (mk I L t) :=
  e_ifeq D179_28 rfl rfl
theorem b179_31 {d : Nat} {i0 : Nat} {x1 x2 : Int} {I L : Nat → Nat → Nat → Int} {t : Nat → Nat} : Res (d + 1) 179 31 [vr 12 i0, vi x1, vi x2, vx, vx] [] (mk I L t) = (Cal d 146 [vi x2, vi 0, vi 3] (mk I L t)).bind fun v => Res (d + 1) 179 37 [vr 12 i0, vi x1, vi x2, vx, vx] (psh 146 v.1 []) v.2 :=
  Eq.trans (e_iload_n D179_31 rfl rfl) <| Eq.trans (e_iconst (x := 0) D179_32 rfl rfl) <| Eq.trans (e_iconst (x := 3) D179_33 rfl rfl) <| e_callS D179_34 rfl o_179 m_12_219 (by decide) rfl rfl
theorem b179_37 {d : Nat} {i0 : Nat} {x1 x2 xs0 : Int} {I L : Nat → Nat → Nat → Int} {t : Nat → Nat} : Res d 179 37 [vr 12 i0, vi x1, vi x2, vx, vx] [vi xs0] (mk I L t) = if xs0 = 0 then Res d 179 44 [vr 12 i0, vi x1, vi x2, vx, vx] [] (mk I L t) else Res d 179 40 [vr 12 i0, vi x1, vi x2, vx, vx] [] (mk I L t) :=
  e_ifeq D179_37 rfl rfl
theorem b179_40 {d : Nat} {i0 : Nat} {x1 x2 : Int} {I L : Nat → Nat → Nat → Int} {t : Nat → Nat} : Res d 179 40 [vr 12 i0, vi x1, vi x2, vx, vx] [] (mk I L t) = Res d 179 45 [vr 12 i0, vi x1, vi x2, vx, vx] [vi 1] (mk I L t) :=
  Eq.trans (e_iconst (x := 1) D179_40 rfl rfl) <| e_goto (q1 := 45) D179_41 rfl
theorem b179_44 {d : Nat} {i0 : Nat} {x1 x2 : Int} {I L : Nat → Nat → Nat → Int} {t : Nat → Nat} : Res d 179 44 [vr 12 i0, vi x1, vi x2, vx, vx] [] (mk I L t) = Res d 179 45 [vr 12 i0, vi x1, vi x2, vx, vx] [vi 0] (mk I L t) :=
  e_iconst (x := 0) D179_44 rfl rfl
theorem b179_45 {d : Nat} {i0 : Nat} {x1 x2 xs0 : Int} {I L : Nat → Nat → Nat → Int} {t : Nat → Nat} : Res d 179 45 [vr 12 i0, vi x1, vi x2, vx, vx] [vi xs0] (mk I L t) = if ¬ xs0 = 0 then Res d 179 67 [vr 12 i0, vi x1, vi x2, vi xs0, vx] [] (mk I L t) else Res d 179 50 [vr 12 i0, vi x1, vi x2, vi xs0, vx] [] (mk I L t) :=
  Eq.trans (e_istore_n (ls1 := [vr 12 i0, vi x1, vi x2, vi xs0, vx]) D179_45 rfl (show 3 < 5 by decide) rfl) <| Eq.trans (e_iload_n D179_46 rfl rfl) <| e_ifne D179_47 rfl rfl
theorem b179_50 {d : Nat} {i0 : Nat} {x1 x2 x3 : Int} {I L : Nat → Nat → Nat → Int} {t : Nat → Nat} : Res d 179 50 [vr 12 i0, vi x1, vi x2, vi x3, vx] [] (mk I L t) = some (vi (-1), (mk (up3 (up3 (up3 I 12 i0 36 0) 12 i0 43 0) 12 i0 50 (-1)) L t)) :=
  Eq.trans (e_aload_n D179_50 rfl rfl) <| Eq.trans (e_iconst (x := 0) D179_51 rfl rfl) <| Eq.trans (e_putI D179_52 rfl o_179 f_12_239 (sh_12 _) rfl (by decide) (Or.inl (by decide))) <| Eq.trans (e_aload_n D179_55 rfl rfl) <| Eq.trans (e_iconst (x := 0) D179_56 rfl rfl) <| Eq.trans (e_putI D179_57 rfl o_179 f_12_396 (sh_12 _) rfl (by decide) (Or.inl (by decide))) <| Eq.trans (e_aload_n D179_60 rfl rfl) <| Eq.trans (e_iconst (x := -1) D179_61 rfl rfl) <| Eq.trans (e_putI D179_62 rfl o_179 f_12_92 (sh_12 _) rfl (by decide) (Or.inl (by decide))) <| Eq.trans (e_iconst (x := -1) D179_65 rfl rfl) <| e_iret D179_66 rfl
theorem b179_67 {d : Nat} {i0 : Nat} {x1 x2 x3 : Int} {I L : Nat → Nat → Nat → Int} {t : Nat → Nat} : Res d 179 67 [vr 12 i0, vi x1, vi x2, vi x3, vx] [] (mk I L t) = Res d 179 110 [vr 12 i0, vi x1, vi x2, vi x3, vi 0] [] (mk (up3 (up3 (up3 (up3 (up3 (up3 (up3 (up3 I 12 i0 45 x1) 12 i0 37 0) 12 i0 34 0) 12 i0 35 0) 12 i0 48 0) 12 i0 49 0) 12 i0 46 (-1)) 12 i0 47 (-1)) L t) :=
  Eq.trans (e_aload_n D179_67 rfl rfl) <| Eq.trans (e_iload_n D179_68 rfl rfl) <| Eq.trans (e_putI D179_69 rfl o_179 f_12_298 (sh_12 _) rfl (by decide) (Or.inl (by decide))) <| Eq.trans (e_aload_n D179_72 rfl rfl) <| Eq.trans (e_iconst (x := 0) D179_73 rfl rfl) <| Eq.trans (e_putI D179_74 rfl o_179 f_12_242 (sh_12 _) rfl (by decide) (Or.inl (by decide))) <| Eq.trans (e_aload_n D179_77 rfl rfl) <| Eq.trans (e_iconst (x := 0) D179_78 rfl rfl) <| Eq.trans (e_putI D179_79 rfl o_179 f_12_371 (sh_12 _) rfl (by decide) (Or.inl (by decide))) <| Eq.trans (e_aload_n D179_82 rfl rfl) <| Eq.trans (e_iconst (x := 0) D179_83 rfl rfl) <| Eq.trans (e_putI D179_84 rfl o_179 f_12_348 (sh_12 _) rfl (by decide) (Or.inl (by decide))) <| Eq.trans (e_aload_n D179_87 rfl rfl) <| Eq.trans (e_iconst (x := 0) D179_88 rfl rfl) <| Eq.trans (e_putI D179_89 rfl o_179 f_12_374 (sh_12 _) rfl (by decide) (Or.inr ⟨by decide, by decide⟩)) <| Eq.trans (e_aload_n D179_92 rfl rfl) <| Eq.trans (e_iconst (x := 0) D179_93 rfl rfl) <| Eq.trans (e_putI D179_94 rfl o_179 f_12_378 (sh_12 _) rfl (by decide) (Or.inr ⟨by decide, by decide⟩)) <| Eq.trans (e_aload_n D179_97 rfl rfl) <| Eq.trans (e_iconst (x := -1) D179_98 rfl rfl) <| Eq.trans (e_putI D179_99 rfl o_179 f_12_381 (sh_12 _) rfl (by decide) (Or.inl (by decide))) <| Eq.trans (e_aload_n D179_102 rfl rfl) <| Eq.trans (e_iconst (x := -1) D179_103 rfl rfl) <| Eq.trans (e_putI D179_104 rfl o_179 f_12_384 (sh_12 _) rfl (by decide) (Or.inl (by decide))) <| Eq.trans (e_iconst (x := 0) D179_107 rfl rfl) <| e_istore (ls1 := [vr 12 i0, vi x1, vi x2, vi x3, vi 0]) D179_108 rfl (show 4 < 5 by decide) rfl
theorem b179_110 {d : Nat} {i0 : Nat} {x1 x2 x3 x4 : Int} {I L : Nat → Nat → Nat → Int} {t : Nat → Nat} : Res d 179 110 [vr 12 i0, vi x1, vi x2, vi x3, vi x4] [] (mk I L t) = if 8 ≤ x4 then Res d 179 131 [vr 12 i0, vi x1, vi x2, vi x3, vi x4] [] (mk I L t) else Res d 179 117 [vr 12 i0, vi x1, vi x2, vi x3, vi x4] [] (mk I L t) :=
  Eq.trans (e_iload D179_110 rfl rfl) <| Eq.trans (e_bipush (x := 8) D179_112 rfl rfl) <| e_icge D179_114 rfl rfl
theorem b179_117 {d : Nat} {i0 : Nat} {x1 x2 x3 x4 : Int} {I L : Nat → Nat → Nat → Int} {t : Nat → Nat} (g1 : 0 ≤ x4 ∧ x4 < 8) : Res d 179 117 [vr 12 i0, vi x1, vi x2, vi x3, vi x4] [] (mk I L t) = Res d 179 110 [vr 12 i0, vi x1, vi x2, vi x3, vi (w32 (x4 + 1))] [] (mk (up3 I 61 i0 x4.toNat 0) L t) :=
  Eq.trans (e_aload_n D179_117 rfl rfl) <| Eq.trans (e_getP (p := (61, i0)) D179_118 rfl o_179 f_12_49 (sh_12 _) (by decide) (pp_12_19 _ _)) <| Eq.trans (e_iload D179_121 rfl rfl) <| Eq.trans (e_iconst (x := 0) D179_123 rfl rfl) <| Eq.trans (e_iast D179_124 rfl (al_61 _) rfl g1) <| Eq.trans (e_iinc (ls1 := [vr 12 i0, vi x1, vi x2, vi x3, vi (w32 (x4 + 1))]) D179_125 rfl rfl rfl) <| e_goto (q1 := 110) D179_128 rfl
theorem b179_131 {d : Nat} {i0 : Nat} {x1 x2 x3 x4 : Int} {I L : Nat → Nat → Nat → Int} {t : Nat → Nat} : Res (d + 1) 179 131 [vr 12 i0, vi x1, vi x2, vi x3, vi x4] [] (mk I L t) = (Cal d 168 [vr 12 i0] (mk I L t)).bind fun v => Res (d + 1) 179 135 [vr 12 i0, vi x1, vi x2, vi x3, vi x4] (psh 168 v.1 []) v.2 :=
  Eq.trans (e_aload_n D179_131 rfl rfl) <| e_callV D179_132 rfl o_179 m_12_345 (by decide) rfl rfl
theorem b179_135 {d : Nat} {i0 : Nat} {x1 x2 x3 x4 : Int} {I L : Nat → Nat → Nat → Int} {t : Nat → Nat} : Res (d + 1) 179 135 [vr 12 i0, vi x1, vi x2, vi x3, vi x4] [] (mk I L t) = (Cal d 178 [vr 12 i0] (mk I L t)).bind fun v => Res (d + 1) 179 139 [vr 12 i0, vi x1, vi x2, vi x3, vi x4] (psh 178 v.1 []) v.2 :=
  Eq.trans (e_aload_n D179_135 rfl rfl) <| e_callV D179_136 rfl o_179 m_12_399 (by decide) rfl rfl
theorem b179_139 {d : Nat} {i0 : Nat} {x1 x2 x3 x4 xs0 : Int} {I L : Nat → Nat → Nat → Int} {t : Nat → Nat} : Res d 179 139 [vr 12 i0, vi x1, vi x2, vi x3, vi x4] [vi xs0] (mk I L t) = if xs0 = 0 then Res d 179 164 [vr 12 i0, vi x1, vi x2, vi x3, vi xs0] [vr 12 i0] (mk (up3 (up3 I 12 i0 36 0) 12 i0 43 ((up3 I 12 i0 36 0) 12 i0 41)) L t) else Res d 179 160 [vr 12 i0, vi x1, vi x2, vi x3, vi xs0] [vr 12 i0] (mk (up3 (up3 I 12 i0 36 0) 12 i0 43 ((up3 I 12 i0 36 0) 12 i0 41)) L t) :=
  Eq.trans (e_istore (ls1 := [vr 12 i0, vi x1, vi x2, vi x3, vi xs0]) D179_139 rfl (show 4 < 5 by decide) rfl) <| Eq.trans (e_aload_n D179_141 rfl rfl) <| Eq.trans (e_iconst (x := 0) D179_142 rfl rfl) <| Eq.trans (e_putI D179_143 rfl o_179 f_12_239 (sh_12 _) rfl (by decide) (Or.inl (by decide))) <| Eq.trans (e_aload_n D179_146 rfl rfl) <| Eq.trans (e_aload_n D179_147 rfl rfl) <| Eq.trans (e_getI D179_148 rfl o_179 f_12_336 (sh_12 _) (by decide)) <| Eq.trans (e_putI D179_151 rfl o_179 f_12_396 (sh_12 _) rfl (by decide) (Or.inl (by decide))) <| Eq.trans (e_aload_n D179_154 rfl rfl) <| Eq.trans (e_iload D179_155 rfl rfl) <| e_ifeq D179_157 rfl rfl
theorem b179_160 {d : Nat} {i0 is0 : Nat} {x1 x2 x3 x4 : Int} {I L : Nat → Nat → Nat → Int} {t : Nat → Nat} : Res d 179 160 [vr 12 i0, vi x1, vi x2, vi x3, vi x4] [vr 12 is0] (mk I L t) = Res d 179 168 [vr 12 i0, vi x1, vi x2, vi x3, vi x4] [vi (-1), vr 12 is0] (mk I L t) :=
  Eq.trans (e_iconst (x := -1) D179_160 rfl rfl) <| e_goto (q1 := 168) D179_161 rfl
theorem b179_164 {d : Nat} {i0 is0 : Nat} {x1 x2 x3 x4 : Int} {I L : Nat → Nat → Nat → Int} {t : Nat → Nat} : Res d 179 164 [vr 12 i0, vi x1, vi x2, vi x3, vi x4] [vr 12 is0] (mk I L t) = Res d 179 168 [vr 12 i0, vi x1, vi x2, vi x3, vi x4] [vi (I 12 i0 42), vr 12 is0] (mk I L t) :=
  Eq.trans (e_aload_n D179_164 rfl rfl) <| e_getI D179_165 rfl o_179 f_12_339 (sh_12 _) (by decide)
theorem b179_168 {d : Nat} {i0 is0 : Nat} {x1 x2 x3 x4 xs1 : Int} {I L : Nat → Nat → Nat → Int} {t : Nat → Nat} : Res d 179 168 [vr 12 i0, vi x1, vi x2, vi x3, vi x4] [vi xs1, vr 12 is0] (mk I L t) = if ¬ x4 = 0 then Res d 179 178 [vr 12 i0, vi x1, vi x2, vi x3, vi x4] [] (mk (up3 I 12 is0 50 xs1) L t) else Res d 179 176 [vr 12 i0, vi x1, vi x2, vi x3, vi x4] [] (mk (up3 I 12 is0 50 xs1) L t) :=
  Eq.trans (e_putI D179_168 rfl o_179 f_12_92 (sh_12 _) rfl (by decide) (Or.inl (by decide))) <| Eq.trans (e_iload D179_171 rfl rfl) <| e_ifne D179_173 rfl rfl
theorem b179_176 {d : Nat} {i0 : Nat} {x1 x2 x3 x4 : Int} {I L : Nat → Nat → Nat → Int} {t : Nat → Nat} : Res d 179 176 [vr 12 i0, vi x1, vi x2, vi x3, vi x4] [] (mk I L t) = some (vi (-1), (mk I L t)) :=
  Eq.trans (e_iconst (x := -1) D179_176 rfl rfl) <| e_iret D179_177 rfl
theorem b179_178 {d : Nat} {i0 : Nat} {x1 x2 x3 x4 : Int} {I L : Nat → Nat → Nat → Int} {t : Nat → Nat} : Res (d + 1) 179 178 [vr 12 i0, vi x1, vi x2, vi x3, vi x4] [] (mk I L t) = (Cal d 180 [vr 12 i0, vi x2] (mk I L t)).bind fun v => Res (d + 1) 179 183 [vr 12 i0, vi x1, vi x2, vi x3, vi x4] (psh 180 v.1 []) v.2 :=
  Eq.trans (e_aload_n D179_178 rfl rfl) <| Eq.trans (e_iload_n D179_179 rfl rfl) <| e_callV D179_180 rfl o_179 m_12_402 (by decide) rfl rfl
theorem b179_183 {d : Nat} {i0 : Nat} {x1 x2 x3 x4 : Int} {I L : Nat → Nat → Nat → Int} {t : Nat → Nat} : Res d 179 183 [vr 12 i0, vi x1, vi x2, vi x3, vi x4] [] (mk I L t) = some (vi (I 12 i0 34), (mk I L t)) :=
  Eq.trans (e_aload_n D179_183 rfl rfl) <| Eq.trans (e_getI D179_184 rfl o_179 f_12_371 (sh_12 _) (by decide)) <| e_iret D179_187 rfl
/-! m_keeps -/
theorem cc_180 : cod 180 = cX12_keeps := rfl
theorem D180_0 : decode (cod 180) 0 = .ok (.aload_n 0, 1) := by rw [cc_180]; decide +kernel
theorem D180_1 : decode (cod 180) 1 = .ok (.getfield 298, 3) := by rw [cc_180]; decide +kernel
theorem D180_4 : decode (cod 180) 4 = .ok (.ifCond .ne 100, 3) := by rw [cc_180]; decide +kernel
theorem D180_7 : decode (cod 180) 7 = .ok (.aload_n 0, 1) := by rw [cc_180]; decide +kernel
theorem D180_8 : decode (cod 180) 8 = .ok (.getfield 40, 3) := by rw [cc_180]; decide +kernel
theorem D180_11 : decode (cod 180) 11 = .ok (.iload_n 1, 1) := by rw [cc_180]; decide +kernel
theorem D180_12 : decode (cod 180) 12 = .ok (.aload_n 0, 1) := by rw [cc_180]; decide +kernel
theorem D180_13 : decode (cod 180) 13 = .ok (.getfield 371, 3) := by rw [cc_180]; decide +kernel
theorem D180_16 : decode (cod 180) 16 = .ok (.iastore, 1) := by rw [cc_180]; decide +kernel
theorem D180_17 : decode (cod 180) 17 = .ok (.iconst 0, 1) := by rw [cc_180]; decide +kernel
theorem D180_18 : decode (cod 180) 18 = .ok (.istore_n 2, 1) := by rw [cc_180]; decide +kernel
theorem D180_19 : decode (cod 180) 19 = .ok (.iload_n 2, 1) := by rw [cc_180]; decide +kernel
theorem D180_20 : decode (cod 180) 20 = .ok (.bipush 8, 2) := by rw [cc_180]; decide +kernel
theorem D180_22 : decode (cod 180) 22 = .ok (.if_icmp .ge 43, 3) := by rw [cc_180]; decide +kernel
theorem D180_25 : decode (cod 180) 25 = .ok (.aload_n 0, 1) := by rw [cc_180]; decide +kernel
theorem D180_26 : decode (cod 180) 26 = .ok (.getfield 34, 3) := by rw [cc_180]; decide +kernel
theorem D180_29 : decode (cod 180) 29 = .ok (.bipush 8, 2) := by rw [cc_180]; decide +kernel
theorem D180_31 : decode (cod 180) 31 = .ok (.iload_n 1, 1) := by rw [cc_180]; decide +kernel
theorem D180_32 : decode (cod 180) 32 = .ok (.imul, 1) := by rw [cc_180]; decide +kernel
theorem D180_33 : decode (cod 180) 33 = .ok (.iload_n 2, 1) := by rw [cc_180]; decide +kernel
theorem D180_34 : decode (cod 180) 34 = .ok (.iadd, 1) := by rw [cc_180]; decide +kernel
theorem D180_35 : decode (cod 180) 35 = .ok (.aload_n 0, 1) := by rw [cc_180]; decide +kernel
theorem D180_36 : decode (cod 180) 36 = .ok (.getfield 46, 3) := by rw [cc_180]; decide +kernel
theorem D180_39 : decode (cod 180) 39 = .ok (.iload_n 2, 1) := by rw [cc_180]; decide +kernel
theorem D180_40 : decode (cod 180) 40 = .ok (.iaload, 1) := by rw [cc_180]; decide +kernel
theorem D180_41 : decode (cod 180) 41 = .ok (.iastore, 1) := by rw [cc_180]; decide +kernel
theorem D180_42 : decode (cod 180) 42 = .ok (.aload_n 0, 1) := by rw [cc_180]; decide +kernel
theorem D180_43 : decode (cod 180) 43 = .ok (.getfield 37, 3) := by rw [cc_180]; decide +kernel
theorem D180_46 : decode (cod 180) 46 = .ok (.bipush 8, 2) := by rw [cc_180]; decide +kernel
theorem D180_48 : decode (cod 180) 48 = .ok (.iload_n 1, 1) := by rw [cc_180]; decide +kernel
theorem D180_49 : decode (cod 180) 49 = .ok (.imul, 1) := by rw [cc_180]; decide +kernel
theorem D180_50 : decode (cod 180) 50 = .ok (.iload_n 2, 1) := by rw [cc_180]; decide +kernel
theorem D180_51 : decode (cod 180) 51 = .ok (.iadd, 1) := by rw [cc_180]; decide +kernel
theorem D180_52 : decode (cod 180) 52 = .ok (.aload_n 0, 1) := by rw [cc_180]; decide +kernel
theorem D180_53 : decode (cod 180) 53 = .ok (.getfield 49, 3) := by rw [cc_180]; decide +kernel
theorem D180_56 : decode (cod 180) 56 = .ok (.iload_n 2, 1) := by rw [cc_180]; decide +kernel
theorem D180_57 : decode (cod 180) 57 = .ok (.iaload, 1) := by rw [cc_180]; decide +kernel
theorem D180_58 : decode (cod 180) 58 = .ok (.iastore, 1) := by rw [cc_180]; decide +kernel
theorem D180_59 : decode (cod 180) 59 = .ok (.iinc 2 1, 3) := by rw [cc_180]; decide +kernel
theorem D180_62 : decode (cod 180) 62 = .ok (.goto (-43), 3) := by rw [cc_180]; decide +kernel
theorem D180_65 : decode (cod 180) 65 = .ok (.iconst 0, 1) := by rw [cc_180]; decide +kernel
theorem D180_66 : decode (cod 180) 66 = .ok (.istore_n 2, 1) := by rw [cc_180]; decide +kernel
theorem D180_67 : decode (cod 180) 67 = .ok (.iload_n 2, 1) := by rw [cc_180]; decide +kernel
theorem D180_68 : decode (cod 180) 68 = .ok (.iconst 2, 1) := by rw [cc_180]; decide +kernel
theorem D180_69 : decode (cod 180) 69 = .ok (.aload_n 0, 1) := by rw [cc_180]; decide +kernel
theorem D180_70 : decode (cod 180) 70 = .ok (.getfield 348, 3) := by rw [cc_180]; decide +kernel
theorem D180_73 : decode (cod 180) 73 = .ok (.imul, 1) := by rw [cc_180]; decide +kernel
theorem D180_74 : decode (cod 180) 74 = .ok (.if_icmp .ge 27, 3) := by rw [cc_180]; decide +kernel
theorem D180_77 : decode (cod 180) 77 = .ok (.aload_n 0, 1) := by rw [cc_180]; decide +kernel
theorem D180_78 : decode (cod 180) 78 = .ok (.getfield 31, 3) := by rw [cc_180]; decide +kernel
theorem D180_81 : decode (cod 180) 81 = .ok (.sipush 800, 3) := by rw [cc_180]; decide +kernel
theorem D180_84 : decode (cod 180) 84 = .ok (.iload_n 1, 1) := by rw [cc_180]; decide +kernel
theorem D180_85 : decode (cod 180) 85 = .ok (.imul, 1) := by rw [cc_180]; decide +kernel
theorem D180_86 : decode (cod 180) 86 = .ok (.iload_n 2, 1) := by rw [cc_180]; decide +kernel
theorem D180_87 : decode (cod 180) 87 = .ok (.iadd, 1) := by rw [cc_180]; decide +kernel
theorem D180_88 : decode (cod 180) 88 = .ok (.aload_n 0, 1) := by rw [cc_180]; decide +kernel
theorem D180_89 : decode (cod 180) 89 = .ok (.getfield 43, 3) := by rw [cc_180]; decide +kernel
theorem D180_92 : decode (cod 180) 92 = .ok (.iload_n 2, 1) := by rw [cc_180]; decide +kernel
theorem D180_93 : decode (cod 180) 93 = .ok (.iaload, 1) := by rw [cc_180]; decide +kernel
theorem D180_94 : decode (cod 180) 94 = .ok (.iastore, 1) := by rw [cc_180]; decide +kernel
theorem D180_95 : decode (cod 180) 95 = .ok (.iinc 2 1, 3) := by rw [cc_180]; decide +kernel
theorem D180_98 : decode (cod 180) 98 = .ok (.goto (-31), 3) := by rw [cc_180]; decide +kernel
theorem D180_101 : decode (cod 180) 101 = .ok (.goto 124, 3) := by rw [cc_180]; decide +kernel
theorem D180_104 : decode (cod 180) 104 = .ok (.aload_n 0, 1) := by rw [cc_180]; decide +kernel
theorem D180_105 : decode (cod 180) 105 = .ok (.getfield 298, 3) := by rw [cc_180]; decide +kernel
theorem D180_108 : decode (cod 180) 108 = .ok (.iconst 1, 1) := by rw [cc_180]; decide +kernel
theorem D180_109 : decode (cod 180) 109 = .ok (.if_icmp .ne 66, 3) := by rw [cc_180]; decide +kernel
theorem D180_112 : decode (cod 180) 112 = .ok (.aload_n 0, 1) := by rw [cc_180]; decide +kernel
theorem D180_113 : decode (cod 180) 113 = .ok (.aload_n 0, 1) := by rw [cc_180]; decide +kernel
theorem D180_114 : decode (cod 180) 114 = .ok (.getfield 371, 3) := by rw [cc_180]; decide +kernel
theorem D180_117 : decode (cod 180) 117 = .ok (.putfield 406, 3) := by rw [cc_180]; decide +kernel
theorem D180_120 : decode (cod 180) 120 = .ok (.iconst 0, 1) := by rw [cc_180]; decide +kernel
theorem D180_121 : decode (cod 180) 121 = .ok (.istore_n 2, 1) := by rw [cc_180]; decide +kernel
theorem D180_122 : decode (cod 180) 122 = .ok (.iload_n 2, 1) := by rw [cc_180]; decide +kernel
theorem D180_123 : decode (cod 180) 123 = .ok (.aload_n 0, 1) := by rw [cc_180]; decide +kernel
theorem D180_124 : decode (cod 180) 124 = .ok (.getfield 406, 3) := by rw [cc_180]; decide +kernel
theorem D180_127 : decode (cod 180) 127 = .ok (.if_icmp .ge 45, 3) := by rw [cc_180]; decide +kernel
theorem D180_130 : decode (cod 180) 130 = .ok (.aload_n 0, 1) := by rw [cc_180]; decide +kernel
theorem D180_131 : decode (cod 180) 131 = .ok (.getfield 58, 3) := by rw [cc_180]; decide +kernel
theorem D180_134 : decode (cod 180) 134 = .ok (.iload_n 2, 1) := by rw [cc_180]; decide +kernel
theorem D180_135 : decode (cod 180) 135 = .ok (.aload_n 0, 1) := by rw [cc_180]; decide +kernel
theorem D180_136 : decode (cod 180) 136 = .ok (.getfield 67, 3) := by rw [cc_180]; decide +kernel
theorem D180_139 : decode (cod 180) 139 = .ok (.iload_n 2, 1) := by rw [cc_180]; decide +kernel
theorem D180_140 : decode (cod 180) 140 = .ok (.iaload, 1) := by rw [cc_180]; decide +kernel
theorem D180_141 : decode (cod 180) 141 = .ok (.iastore, 1) := by rw [cc_180]; decide +kernel
theorem D180_142 : decode (cod 180) 142 = .ok (.aload_n 0, 1) := by rw [cc_180]; decide +kernel
theorem D180_143 : decode (cod 180) 143 = .ok (.getfield 61, 3) := by rw [cc_180]; decide +kernel
theorem D180_146 : decode (cod 180) 146 = .ok (.iload_n 2, 1) := by rw [cc_180]; decide +kernel
theorem D180_147 : decode (cod 180) 147 = .ok (.aload_n 0, 1) := by rw [cc_180]; decide +kernel
theorem D180_148 : decode (cod 180) 148 = .ok (.getfield 70, 3) := by rw [cc_180]; decide +kernel
theorem D180_151 : decode (cod 180) 151 = .ok (.iload_n 2, 1) := by rw [cc_180]; decide +kernel
theorem D180_152 : decode (cod 180) 152 = .ok (.iaload, 1) := by rw [cc_180]; decide +kernel
theorem D180_153 : decode (cod 180) 153 = .ok (.iastore, 1) := by rw [cc_180]; decide +kernel
theorem D180_154 : decode (cod 180) 154 = .ok (.aload_n 0, 1) := by rw [cc_180]; decide +kernel
theorem D180_155 : decode (cod 180) 155 = .ok (.getfield 64, 3) := by rw [cc_180]; decide +kernel
theorem D180_158 : decode (cod 180) 158 = .ok (.iload_n 2, 1) := by rw [cc_180]; decide +kernel
theorem D180_159 : decode (cod 180) 159 = .ok (.aload_n 0, 1) := by rw [cc_180]; decide +kernel
theorem D180_160 : decode (cod 180) 160 = .ok (.getfield 73, 3) := by rw [cc_180]; decide +kernel
theorem D180_163 : decode (cod 180) 163 = .ok (.iload_n 2, 1) := by rw [cc_180]; decide +kernel
theorem D180_164 : decode (cod 180) 164 = .ok (.iaload, 1) := by rw [cc_180]; decide +kernel
theorem D180_165 : decode (cod 180) 165 = .ok (.iastore, 1) := by rw [cc_180]; decide +kernel
theorem D180_166 : decode (cod 180) 166 = .ok (.iinc 2 1, 3) := by rw [cc_180]; decide +kernel
theorem D180_169 : decode (cod 180) 169 = .ok (.goto (-47), 3) := by rw [cc_180]; decide +kernel
theorem D180_172 : decode (cod 180) 172 = .ok (.goto 53, 3) := by rw [cc_180]; decide +kernel
theorem D180_175 : decode (cod 180) 175 = .ok (.aload_n 0, 1) := by rw [cc_180]; decide +kernel
theorem D180_176 : decode (cod 180) 176 = .ok (.getfield 89, 3) := by rw [cc_180]; decide +kernel
theorem D180_179 : decode (cod 180) 179 = .ok (.iload_n 1, 1) := by rw [cc_180]; decide +kernel
theorem D180_180 : decode (cod 180) 180 = .ok (.aload_n 0, 1) := by rw [cc_180]; decide +kernel
theorem D180_181 : decode (cod 180) 181 = .ok (.getfield 371, 3) := by rw [cc_180]; decide +kernel
theorem D180_184 : decode (cod 180) 184 = .ok (.iastore, 1) := by rw [cc_180]; decide +kernel
theorem D180_185 : decode (cod 180) 185 = .ok (.aload_n 0, 1) := by rw [cc_180]; decide +kernel
theorem D180_186 : decode (cod 180) 186 = .ok (.getfield 76, 3) := by rw [cc_180]; decide +kernel
theorem D180_189 : decode (cod 180) 189 = .ok (.iload_n 1, 1) := by rw [cc_180]; decide +kernel
theorem D180_190 : decode (cod 180) 190 = .ok (.aload_n 0, 1) := by rw [cc_180]; decide +kernel
theorem D180_191 : decode (cod 180) 191 = .ok (.getfield 374, 3) := by rw [cc_180]; decide +kernel
theorem D180_194 : decode (cod 180) 194 = .ok (.bastore, 1) := by rw [cc_180]; decide +kernel
theorem D180_195 : decode (cod 180) 195 = .ok (.aload_n 0, 1) := by rw [cc_180]; decide +kernel
theorem D180_196 : decode (cod 180) 196 = .ok (.getfield 80, 3) := by rw [cc_180]; decide +kernel
theorem D180_199 : decode (cod 180) 199 = .ok (.iload_n 1, 1) := by rw [cc_180]; decide +kernel
theorem D180_200 : decode (cod 180) 200 = .ok (.aload_n 0, 1) := by rw [cc_180]; decide +kernel
theorem D180_201 : decode (cod 180) 201 = .ok (.getfield 378, 3) := by rw [cc_180]; decide +kernel
theorem D180_204 : decode (cod 180) 204 = .ok (.bastore, 1) := by rw [cc_180]; decide +kernel
theorem D180_205 : decode (cod 180) 205 = .ok (.aload_n 0, 1) := by rw [cc_180]; decide +kernel
theorem D180_206 : decode (cod 180) 206 = .ok (.getfield 83, 3) := by rw [cc_180]; decide +kernel
theorem D180_209 : decode (cod 180) 209 = .ok (.iload_n 1, 1) := by rw [cc_180]; decide +kernel
theorem D180_210 : decode (cod 180) 210 = .ok (.aload_n 0, 1) := by rw [cc_180]; decide +kernel
theorem D180_211 : decode (cod 180) 211 = .ok (.getfield 381, 3) := by rw [cc_180]; decide +kernel
theorem D180_214 : decode (cod 180) 214 = .ok (.iastore, 1) := by rw [cc_180]; decide +kernel
theorem D180_215 : decode (cod 180) 215 = .ok (.aload_n 0, 1) := by rw [cc_180]; decide +kernel
theorem D180_216 : decode (cod 180) 216 = .ok (.getfield 86, 3) := by rw [cc_180]; decide +kernel
theorem D180_219 : decode (cod 180) 219 = .ok (.iload_n 1, 1) := by rw [cc_180]; decide +kernel
theorem D180_220 : decode (cod 180) 220 = .ok (.aload_n 0, 1) := by rw [cc_180]; decide +kernel
theorem D180_221 : decode (cod 180) 221 = .ok (.getfield 384, 3) := by rw [cc_180]; decide +kernel
theorem D180_224 : decode (cod 180) 224 = .ok (.iastore, 1) := by rw [cc_180]; decide +kernel
theorem D180_225 : decode (cod 180) 225 = .ok (.return_, 1) := by rw [cc_180]; decide +kernel
theorem b180_0 {d : Nat} {i0 : Nat} {x1 : Int} {I L : Nat → Nat → Nat → Int} {t : Nat → Nat} : Res d 180 0 [vr 12 i0, vi x1, vx] [] (mk I L t) = if ¬ I 12 i0 45 = 0 then Res d 180 104 [vr 12 i0, vi x1, vx] [] (mk I L t) else Res d 180 7 [vr 12 i0, vi x1, vx] [] (mk I L t) :=
  Eq.trans (e_aload_n D180_0 rfl rfl) <| Eq.trans (e_getI D180_1 rfl o_180 f_12_298 (sh_12 _) (by decide)) <| e_ifne D180_4 rfl rfl
theorem b180_7 {d : Nat} {i0 : Nat} {x1 : Int} {I L : Nat → Nat → Nat → Int} {t : Nat → Nat} (g1 : 0 ≤ x1 ∧ x1 < 4) : Res d 180 7 [vr 12 i0, vi x1, vx] [] (mk I L t) = Res d 180 19 [vr 12 i0, vi x1, vi 0] [] (mk (up3 I 58 i0 x1.toNat (I 12 i0 34)) L t) :=
  Eq.trans (e_aload_n D180_7 rfl rfl) <| Eq.trans (e_getP (p := (58, i0)) D180_8 rfl o_180 f_12_40 (sh_12 _) (by decide) (pp_12_16 _ _)) <| Eq.trans (e_iload_n D180_11 rfl rfl) <| Eq.trans (e_aload_n D180_12 rfl rfl) <| Eq.trans (e_getI D180_13 rfl o_180 f_12_371 (sh_12 _) (by decide)) <| Eq.trans (e_iast D180_16 rfl (al_58 _) rfl g1) <| Eq.trans (e_iconst (x := 0) D180_17 rfl rfl) <| e_istore_n (ls1 := [vr 12 i0, vi x1, vi 0]) D180_18 rfl (show 2 < 3 by decide) rfl
theorem b180_19 {d : Nat} {i0 : Nat} {x1 x2 : Int} {I L : Nat → Nat → Nat → Int} {t : Nat → Nat} : Res d 180 19 [vr 12 i0, vi x1, vi x2] [] (mk I L t) = if 8 ≤ x2 then Res d 180 65 [vr 12 i0, vi x1, vi x2] [] (mk I L t) else Res d 180 25 [vr 12 i0, vi x1, vi x2] [] (mk I L t) :=
  Eq.trans (e_iload_n D180_19 rfl rfl) <| Eq.trans (e_bipush (x := 8) D180_20 rfl rfl) <| e_icge D180_22 rfl rfl
theorem b180_25 {d : Nat} {i0 : Nat} {x1 x2 : Int} {I L : Nat → Nat → Nat → Int} {t : Nat → Nat} (g1 : 0 ≤ x2 ∧ x2 < 8) (g2 : 0 ≤ w32 ((w32 (8 * x1)) + x2) ∧ w32 ((w32 (8 * x1)) + x2) < 32) : Res d 180 25 [vr 12 i0, vi x1, vi x2] [] (mk I L t) = Res d 180 19 [vr 12 i0, vi x1, vi (w32 (x2 + 1))] [] (mk (up3 (up3 I 56 i0 (w32 ((w32 (8 * x1)) + x2)).toNat (I 60 i0 x2.toNat)) 57 i0 (w32 ((w32 (8 * x1)) + x2)).toNat ((up3 I 56 i0 (w32 ((w32 (8 * x1)) + x2)).toNat (I 60 i0 x2.toNat)) 61 i0 x2.toNat)) L t) :=
  Eq.trans (e_aload_n D180_25 rfl rfl) <| Eq.trans (e_getP (p := (56, i0)) D180_26 rfl o_180 f_12_34 (sh_12 _) (by decide) (pp_12_14 _ _)) <| Eq.trans (e_bipush (x := 8) D180_29 rfl rfl) <| Eq.trans (e_iload_n D180_31 rfl rfl) <| Eq.trans (e_imul D180_32 rfl) <| Eq.trans (e_iload_n D180_33 rfl rfl) <| Eq.trans (e_iadd D180_34 rfl) <| Eq.trans (e_aload_n D180_35 rfl rfl) <| Eq.trans (e_getP (p := (60, i0)) D180_36 rfl o_180 f_12_46 (sh_12 _) (by decide) (pp_12_18 _ _)) <| Eq.trans (e_iload_n D180_39 rfl rfl) <| Eq.trans (e_iald D180_40 rfl (al_60 _) g1) <| Eq.trans (e_iast D180_41 rfl (al_56 _) rfl g2) <| Eq.trans (e_aload_n D180_42 rfl rfl) <| Eq.trans (e_getP (p := (57, i0)) D180_43 rfl o_180 f_12_37 (sh_12 _) (by decide) (pp_12_15 _ _)) <| Eq.trans (e_bipush (x := 8) D180_46 rfl rfl) <| Eq.trans (e_iload_n D180_48 rfl rfl) <| Eq.trans (e_imul D180_49 rfl) <| Eq.trans (e_iload_n D180_50 rfl rfl) <| Eq.trans (e_iadd D180_51 rfl) <| Eq.trans (e_aload_n D180_52 rfl rfl) <| Eq.trans (e_getP (p := (61, i0)) D180_53 rfl o_180 f_12_49 (sh_12 _) (by decide) (pp_12_19 _ _)) <| Eq.trans (e_iload_n D180_56 rfl rfl) <| Eq.trans (e_iald D180_57 rfl (al_61 _) g1) <| Eq.trans (e_iast D180_58 rfl (al_57 _) rfl g2) <| Eq.trans (e_iinc (ls1 := [vr 12 i0, vi x1, vi (w32 (x2 + 1))]) D180_59 rfl rfl rfl) <| e_goto (q1 := 19) D180_62 rfl
theorem b180_65 {d : Nat} {i0 : Nat} {x1 x2 : Int} {I L : Nat → Nat → Nat → Int} {t : Nat → Nat} : Res d 180 65 [vr 12 i0, vi x1, vi x2] [] (mk I L t) = Res d 180 67 [vr 12 i0, vi x1, vi 0] [] (mk I L t) :=
  Eq.trans (e_iconst (x := 0) D180_65 rfl rfl) <| e_istore_n (ls1 := [vr 12 i0, vi x1, vi 0]) D180_66 rfl (show 2 < 3 by decide) rfl
theorem b180_67 {d : Nat} {i0 : Nat} {x1 x2 : Int} {I L : Nat → Nat → Nat → Int} {t : Nat → Nat} : Res d 180 67 [vr 12 i0, vi x1, vi x2] [] (mk I L t) = if w32 (2 * (I 12 i0 35)) ≤ x2 then Res d 180 101 [vr 12 i0, vi x1, vi x2] [] (mk I L t) else Res d 180 77 [vr 12 i0, vi x1, vi x2] [] (mk I L t) :=
  Eq.trans (e_iload_n D180_67 rfl rfl) <| Eq.trans (e_iconst (x := 2) D180_68 rfl rfl) <| Eq.trans (e_aload_n D180_69 rfl rfl) <| Eq.trans (e_getI D180_70 rfl o_180 f_12_348 (sh_12 _) (by decide)) <| Eq.trans (e_imul D180_73 rfl) <| e_icge D180_74 rfl rfl
theorem b180_77 {d : Nat} {i0 : Nat} {x1 x2 : Int} {I L : Nat → Nat → Nat → Int} {t : Nat → Nat} (g1 : 0 ≤ x2 ∧ x2 < 800) (g2 : 0 ≤ w32 ((w32 (800 * x1)) + x2) ∧ w32 ((w32 (800 * x1)) + x2) < 3200) : Res d 180 77 [vr 12 i0, vi x1, vi x2] [] (mk I L t) = Res d 180 67 [vr 12 i0, vi x1, vi (w32 (x2 + 1))] [] (mk (up3 I 55 i0 (w32 ((w32 (800 * x1)) + x2)).toNat (I 59 i0 x2.toNat)) L t) :=
  Eq.trans (e_aload_n D180_77 rfl rfl) <| Eq.trans (e_getP (p := (55, i0)) D180_78 rfl o_180 f_12_31 (sh_12 _) (by decide) (pp_12_13 _ _)) <| Eq.trans (e_sipush (x := 800) D180_81 rfl rfl) <| Eq.trans (e_iload_n D180_84 rfl rfl) <| Eq.trans (e_imul D180_85 rfl) <| Eq.trans (e_iload_n D180_86 rfl rfl) <| Eq.trans (e_iadd D180_87 rfl) <| Eq.trans (e_aload_n D180_88 rfl rfl) <| Eq.trans (e_getP (p := (59, i0)) D180_89 rfl o_180 f_12_43 (sh_12 _) (by decide) (pp_12_17 _ _)) <| Eq.trans (e_iload_n D180_92 rfl rfl) <| Eq.trans (e_iald D180_93 rfl (al_59 _) g1) <| Eq.trans (e_iast D180_94 rfl (al_55 _) rfl g2) <| Eq.trans (e_iinc (ls1 := [vr 12 i0, vi x1, vi (w32 (x2 + 1))]) D180_95 rfl rfl rfl) <| e_goto (q1 := 67) D180_98 rfl
theorem b180_101 {d : Nat} {i0 : Nat} {x1 x2 : Int} {I L : Nat → Nat → Nat → Int} {t : Nat → Nat} : Res d 180 101 [vr 12 i0, vi x1, vi x2] [] (mk I L t) = Res d 180 225 [vr 12 i0, vi x1, vi x2] [] (mk I L t) :=
  e_goto (q1 := 225) D180_101 rfl
theorem b180_104 {d : Nat} {i0 : Nat} {x1 : Int} {I L : Nat → Nat → Nat → Int} {t : Nat → Nat} : Res d 180 104 [vr 12 i0, vi x1, vx] [] (mk I L t) = if ¬ I 12 i0 45 = 1 then Res d 180 175 [vr 12 i0, vi x1, vx] [] (mk I L t) else Res d 180 112 [vr 12 i0, vi x1, vx] [] (mk I L t) :=
  Eq.trans (e_aload_n D180_104 rfl rfl) <| Eq.trans (e_getI D180_105 rfl o_180 f_12_298 (sh_12 _) (by decide)) <| Eq.trans (e_iconst (x := 1) D180_108 rfl rfl) <| e_icne D180_109 rfl rfl
theorem b180_112 {d : Nat} {i0 : Nat} {x1 : Int} {I L : Nat → Nat → Nat → Int} {t : Nat → Nat} : Res d 180 112 [vr 12 i0, vi x1, vx] [] (mk I L t) = Res d 180 122 [vr 12 i0, vi x1, vi 0] [] (mk (up3 I 12 i0 33 (I 12 i0 34)) L t) :=
  Eq.trans (e_aload_n D180_112 rfl rfl) <| Eq.trans (e_aload_n D180_113 rfl rfl) <| Eq.trans (e_getI D180_114 rfl o_180 f_12_371 (sh_12 _) (by decide)) <| Eq.trans (e_putI D180_117 rfl o_180 f_12_406 (sh_12 _) rfl (by decide) (Or.inl (by decide))) <| Eq.trans (e_iconst (x := 0) D180_120 rfl rfl) <| e_istore_n (ls1 := [vr 12 i0, vi x1, vi 0]) D180_121 rfl (show 2 < 3 by decide) rfl
theorem b180_122 {d : Nat} {i0 : Nat} {x1 x2 : Int} {I L : Nat → Nat → Nat → Int} {t : Nat → Nat} : Res d 180 122 [vr 12 i0, vi x1, vi x2] [] (mk I L t) = if I 12 i0 33 ≤ x2 then Res d 180 172 [vr 12 i0, vi x1, vi x2] [] (mk I L t) else Res d 180 130 [vr 12 i0, vi x1, vi x2] [] (mk I L t) :=
  Eq.trans (e_iload_n D180_122 rfl rfl) <| Eq.trans (e_aload_n D180_123 rfl rfl) <| Eq.trans (e_getI D180_124 rfl o_180 f_12_406 (sh_12 _) (by decide)) <| e_icge D180_127 rfl rfl
theorem b180_130 {d : Nat} {i0 : Nat} {x1 x2 : Int} {I L : Nat → Nat → Nat → Int} {t : Nat → Nat} (g1 : 0 ≤ x2 ∧ x2 < 12) : Res d 180 130 [vr 12 i0, vi x1, vi x2] [] (mk I L t) = Res d 180 122 [vr 12 i0, vi x1, vi (w32 (x2 + 1))] [] (mk (up3 (up3 (up3 I 64 i0 x2.toNat (I 67 i0 x2.toNat)) 65 i0 x2.toNat ((up3 I 64 i0 x2.toNat (I 67 i0 x2.toNat)) 68 i0 x2.toNat)) 66 i0 x2.toNat ((up3 (up3 I 64 i0 x2.toNat (I 67 i0 x2.toNat)) 65 i0 x2.toNat ((up3 I 64 i0 x2.toNat (I 67 i0 x2.toNat)) 68 i0 x2.toNat)) 69 i0 x2.toNat)) L t) :=
  Eq.trans (e_aload_n D180_130 rfl rfl) <| Eq.trans (e_getP (p := (64, i0)) D180_131 rfl o_180 f_12_58 (sh_12 _) (by decide) (pp_12_22 _ _)) <| Eq.trans (e_iload_n D180_134 rfl rfl) <| Eq.trans (e_aload_n D180_135 rfl rfl) <| Eq.trans (e_getP (p := (67, i0)) D180_136 rfl o_180 f_12_67 (sh_12 _) (by decide) (pp_12_25 _ _)) <| Eq.trans (e_iload_n D180_139 rfl rfl) <| Eq.trans (e_iald D180_140 rfl (al_67 _) g1) <| Eq.trans (e_iast D180_141 rfl (al_64 _) rfl g1) <| Eq.trans (e_aload_n D180_142 rfl rfl) <| Eq.trans (e_getP (p := (65, i0)) D180_143 rfl o_180 f_12_61 (sh_12 _) (by decide) (pp_12_23 _ _)) <| Eq.trans (e_iload_n D180_146 rfl rfl) <| Eq.trans (e_aload_n D180_147 rfl rfl) <| Eq.trans (e_getP (p := (68, i0)) D180_148 rfl o_180 f_12_70 (sh_12 _) (by decide) (pp_12_26 _ _)) <| Eq.trans (e_iload_n D180_151 rfl rfl) <| Eq.trans (e_iald D180_152 rfl (al_68 _) g1) <| Eq.trans (e_iast D180_153 rfl (al_65 _) rfl g1) <| Eq.trans (e_aload_n D180_154 rfl rfl) <| Eq.trans (e_getP (p := (66, i0)) D180_155 rfl o_180 f_12_64 (sh_12 _) (by decide) (pp_12_24 _ _)) <| Eq.trans (e_iload_n D180_158 rfl rfl) <| Eq.trans (e_aload_n D180_159 rfl rfl) <| Eq.trans (e_getP (p := (69, i0)) D180_160 rfl o_180 f_12_73 (sh_12 _) (by decide) (pp_12_27 _ _)) <| Eq.trans (e_iload_n D180_163 rfl rfl) <| Eq.trans (e_iald D180_164 rfl (al_69 _) g1) <| Eq.trans (e_iast D180_165 rfl (al_66 _) rfl g1) <| Eq.trans (e_iinc (ls1 := [vr 12 i0, vi x1, vi (w32 (x2 + 1))]) D180_166 rfl rfl rfl) <| e_goto (q1 := 122) D180_169 rfl
theorem b180_172 {d : Nat} {i0 : Nat} {x1 x2 : Int} {I L : Nat → Nat → Nat → Int} {t : Nat → Nat} : Res d 180 172 [vr 12 i0, vi x1, vi x2] [] (mk I L t) = Res d 180 225 [vr 12 i0, vi x1, vi x2] [] (mk I L t) :=
  e_goto (q1 := 225) D180_172 rfl
theorem b180_175 {d : Nat} {i0 : Nat} {x1 : Int} {I L : Nat → Nat → Nat → Int} {t : Nat → Nat} (g1 : 0 ≤ x1 ∧ x1 < 4) (g2 : (0 ≤ x1 ∧ x1 < 4) ∧ ((up3 I 74 i0 x1.toNat (I 12 i0 34)) 12 i0 48 = 0 ∨ (up3 I 74 i0 x1.toNat (I 12 i0 34)) 12 i0 48 = 1)) (g3 : (0 ≤ x1 ∧ x1 < 4) ∧ ((up3 (up3 I 74 i0 x1.toNat (I 12 i0 34)) 70 i0 x1.toNat ((up3 I 74 i0 x1.toNat (I 12 i0 34)) 12 i0 48)) 12 i0 49 = 0 ∨ (up3 (up3 I 74 i0 x1.toNat (I 12 i0 34)) 70 i0 x1.toNat ((up3 I 74 i0 x1.toNat (I 12 i0 34)) 12 i0 48)) 12 i0 49 = 1)) : Res d 180 175 [vr 12 i0, vi x1, vx] [] (mk I L t) = Res d 180 225 [vr 12 i0, vi x1, vx] [] (mk (up3 (up3 (up3 (up3 (up3 I 74 i0 x1.toNat (I 12 i0 34)) 70 i0 x1.toNat ((up3 I 74 i0 x1.toNat (I 12 i0 34)) 12 i0 48)) 71 i0 x1.toNat ((up3 (up3 I 74 i0 x1.toNat (I 12 i0 34)) 70 i0 x1.toNat ((up3 I 74 i0 x1.toNat (I 12 i0 34)) 12 i0 48)) 12 i0 49)) 72 i0 x1.toNat ((up3 (up3 (up3 I 74 i0 x1.toNat (I 12 i0 34)) 70 i0 x1.toNat ((up3 I 74 i0 x1.toNat (I 12 i0 34)) 12 i0 48)) 71 i0 x1.toNat ((up3 (up3 I 74 i0 x1.toNat (I 12 i0 34)) 70 i0 x1.toNat ((up3 I 74 i0 x1.toNat (I 12 i0 34)) 12 i0 48)) 12 i0 49)) 12 i0 46)) 73 i0 x1.toNat ((up3 (up3 (up3 (up3 I 74 i0 x1.toNat (I 12 i0 34)) 70 i0 x1.toNat ((up3 I 74 i0 x1.toNat (I 12 i0 34)) 12 i0 48)) 71 i0 x1.toNat ((up3 (up3 I 74 i0 x1.toNat (I 12 i0 34)) 70 i0 x1.toNat ((up3 I 74 i0 x1.toNat (I 12 i0 34)) 12 i0 48)) 12 i0 49)) 72 i0 x1.toNat ((up3 (up3 (up3 I 74 i0 x1.toNat (I 12 i0 34)) 70 i0 x1.toNat ((up3 I 74 i0 x1.toNat (I 12 i0 34)) 12 i0 48)) 71 i0 x1.toNat ((up3 (up3 I 74 i0 x1.toNat (I 12 i0 34)) 70 i0 x1.toNat ((up3 I 74 i0 x1.toNat (I 12 i0 34)) 12 i0 48)) 12 i0 49)) 12 i0 46)) 12 i0 47)) L t) :=
  Eq.trans (e_aload_n D180_175 rfl rfl) <| Eq.trans (e_getP (p := (74, i0)) D180_176 rfl o_180 f_12_89 (sh_12 _) (by decide) (pp_12_32 _ _)) <| Eq.trans (e_iload_n D180_179 rfl rfl) <| Eq.trans (e_aload_n D180_180 rfl rfl) <| Eq.trans (e_getI D180_181 rfl o_180 f_12_371 (sh_12 _) (by decide)) <| Eq.trans (e_iast D180_184 rfl (al_74 _) rfl g1) <| Eq.trans (e_aload_n D180_185 rfl rfl) <| Eq.trans (e_getP (p := (70, i0)) D180_186 rfl o_180 f_12_76 (sh_12 _) (by decide) (pp_12_28 _ _)) <| Eq.trans (e_iload_n D180_189 rfl rfl) <| Eq.trans (e_aload_n D180_190 rfl rfl) <| Eq.trans (e_getI D180_191 rfl o_180 f_12_374 (sh_12 _) (by decide)) <| Eq.trans (e_bast D180_194 rfl (al_70 _) rfl g2) <| Eq.trans (e_aload_n D180_195 rfl rfl) <| Eq.trans (e_getP (p := (71, i0)) D180_196 rfl o_180 f_12_80 (sh_12 _) (by decide) (pp_12_29 _ _)) <| Eq.trans (e_iload_n D180_199 rfl rfl) <| Eq.trans (e_aload_n D180_200 rfl rfl) <| Eq.trans (e_getI D180_201 rfl o_180 f_12_378 (sh_12 _) (by decide)) <| Eq.trans (e_bast D180_204 rfl (al_71 _) rfl g3) <| Eq.trans (e_aload_n D180_205 rfl rfl) <| Eq.trans (e_getP (p := (72, i0)) D180_206 rfl o_180 f_12_83 (sh_12 _) (by decide) (pp_12_30 _ _)) <| Eq.trans (e_iload_n D180_209 rfl rfl) <| Eq.trans (e_aload_n D180_210 rfl rfl) <| Eq.trans (e_getI D180_211 rfl o_180 f_12_381 (sh_12 _) (by decide)) <| Eq.trans (e_iast D180_214 rfl (al_72 _) rfl g1) <| Eq.trans (e_aload_n D180_215 rfl rfl) <| Eq.trans (e_getP (p := (73, i0)) D180_216 rfl o_180 f_12_86 (sh_12 _) (by decide) (pp_12_31 _ _)) <| Eq.trans (e_iload_n D180_219 rfl rfl) <| Eq.trans (e_aload_n D180_220 rfl rfl) <| Eq.trans (e_getI D180_221 rfl o_180 f_12_384 (sh_12 _) (by decide)) <| e_iast D180_224 rfl (al_73 _) rfl g1
theorem b180_225 {d : Nat} {i0 : Nat} {x1 : Int} {u2 : MV} {I L : Nat → Nat → Nat → Int} {t : Nat → Nat} : Res d 180 225 [vr 12 i0, vi x1, u2] [] (mk I L t) = some (vx, (mk I L t)) :=
  e_vret D180_225 rfl
/-! m_fault -/
theorem cc_181 : cod 181 = cX12_fault := rfl
theorem D181_0 : decode (cod 181) 0 = .ok (.iload_n 1, 1) := by rw [cc_181]; decide +kernel
theorem D181_1 : decode (cod 181) 1 = .ok (.ifCond .ne 10, 3) := by rw [cc_181]; decide +kernel
theorem D181_4 : decode (cod 181) 4 = .ok (.aload_n 0, 1) := by rw [cc_181]; decide +kernel
theorem D181_5 : decode (cod 181) 5 = .ok (.getfield 396, 3) := by rw [cc_181]; decide +kernel
theorem D181_8 : decode (cod 181) 8 = .ok (.goto 16, 3) := by rw [cc_181]; decide +kernel
theorem D181_11 : decode (cod 181) 11 = .ok (.iload_n 1, 1) := by rw [cc_181]; decide +kernel
theorem D181_12 : decode (cod 181) 12 = .ok (.iconst 1, 1) := by rw [cc_181]; decide +kernel
theorem D181_13 : decode (cod 181) 13 = .ok (.if_icmp .ne 10, 3) := by rw [cc_181]; decide +kernel
theorem D181_16 : decode (cod 181) 16 = .ok (.aload_n 0, 1) := by rw [cc_181]; decide +kernel
theorem D181_17 : decode (cod 181) 17 = .ok (.getfield 92, 3) := by rw [cc_181]; decide +kernel
theorem D181_20 : decode (cod 181) 20 = .ok (.goto 4, 3) := by rw [cc_181]; decide +kernel
theorem D181_23 : decode (cod 181) 23 = .ok (.iconst (-1), 1) := by rw [cc_181]; decide +kernel
theorem D181_24 : decode (cod 181) 24 = .ok (.ireturn, 1) := by rw [cc_181]; decide +kernel
theorem b181_0 {d : Nat} {i0 : Nat} {x1 : Int} {I L : Nat → Nat → Nat → Int} {t : Nat → Nat} : Res d 181 0 [vr 12 i0, vi x1] [] (mk I L t) = if ¬ x1 = 0 then Res d 181 11 [vr 12 i0, vi x1] [] (mk I L t) else Res d 181 4 [vr 12 i0, vi x1] [] (mk I L t) :=
  Eq.trans (e_iload_n D181_0 rfl rfl) <| e_ifne D181_1 rfl rfl
theorem b181_4 {d : Nat} {i0 : Nat} {x1 : Int} {I L : Nat → Nat → Nat → Int} {t : Nat → Nat} : Res d 181 4 [vr 12 i0, vi x1] [] (mk I L t) = Res d 181 24 [vr 12 i0, vi x1] [vi (I 12 i0 43)] (mk I L t) :=
  Eq.trans (e_aload_n D181_4 rfl rfl) <| Eq.trans (e_getI D181_5 rfl o_181 f_12_396 (sh_12 _) (by decide)) <| e_goto (q1 := 24) D181_8 rfl
theorem b181_11 {d : Nat} {i0 : Nat} {x1 : Int} {I L : Nat → Nat → Nat → Int} {t : Nat → Nat} : Res d 181 11 [vr 12 i0, vi x1] [] (mk I L t) = if ¬ x1 = 1 then Res d 181 23 [vr 12 i0, vi x1] [] (mk I L t) else Res d 181 16 [vr 12 i0, vi x1] [] (mk I L t) :=
  Eq.trans (e_iload_n D181_11 rfl rfl) <| Eq.trans (e_iconst (x := 1) D181_12 rfl rfl) <| e_icne D181_13 rfl rfl
theorem b181_16 {d : Nat} {i0 : Nat} {x1 : Int} {I L : Nat → Nat → Nat → Int} {t : Nat → Nat} : Res d 181 16 [vr 12 i0, vi x1] [] (mk I L t) = Res d 181 24 [vr 12 i0, vi x1] [vi (I 12 i0 50)] (mk I L t) :=
  Eq.trans (e_aload_n D181_16 rfl rfl) <| Eq.trans (e_getI D181_17 rfl o_181 f_12_92 (sh_12 _) (by decide)) <| e_goto (q1 := 24) D181_20 rfl
theorem b181_23 {d : Nat} {i0 : Nat} {x1 : Int} {I L : Nat → Nat → Nat → Int} {t : Nat → Nat} : Res d 181 23 [vr 12 i0, vi x1] [] (mk I L t) = Res d 181 24 [vr 12 i0, vi x1] [vi (-1)] (mk I L t) :=
  e_iconst (x := -1) D181_23 rfl rfl
theorem b181_24 {d : Nat} {i0 : Nat} {x1 xs0 : Int} {I L : Nat → Nat → Nat → Int} {t : Nat → Nat} : Res d 181 24 [vr 12 i0, vi x1] [vi xs0] (mk I L t) = some (vi xs0, (mk I L t)) :=
  e_iret D181_24 rfl
/-! m_cut -/
theorem cc_182 : cod 182 = cX12_cut := rfl
theorem D182_0 : decode (cod 182) 0 = .ok (.iload_n 0, 1) := by rw [cc_182]; decide +kernel
theorem D182_1 : decode (cod 182) 1 = .ok (.iload_n 1, 1) := by rw [cc_182]; decide +kernel
theorem D182_2 : decode (cod 182) 2 = .ok (.if_icmp .ge 7, 3) := by rw [cc_182]; decide +kernel
theorem D182_5 : decode (cod 182) 5 = .ok (.iload_n 1, 1) := by rw [cc_182]; decide +kernel
theorem D182_6 : decode (cod 182) 6 = .ok (.goto 13, 3) := by rw [cc_182]; decide +kernel
theorem D182_9 : decode (cod 182) 9 = .ok (.iload_n 0, 1) := by rw [cc_182]; decide +kernel
theorem D182_10 : decode (cod 182) 10 = .ok (.iload_n 2, 1) := by rw [cc_182]; decide +kernel
theorem D182_11 : decode (cod 182) 11 = .ok (.if_icmp .le 7, 3) := by rw [cc_182]; decide +kernel
theorem D182_14 : decode (cod 182) 14 = .ok (.iload_n 2, 1) := by rw [cc_182]; decide +kernel
theorem D182_15 : decode (cod 182) 15 = .ok (.goto 4, 3) := by rw [cc_182]; decide +kernel
theorem D182_18 : decode (cod 182) 18 = .ok (.iload_n 0, 1) := by rw [cc_182]; decide +kernel
theorem D182_19 : decode (cod 182) 19 = .ok (.ireturn, 1) := by rw [cc_182]; decide +kernel
theorem b182_0 {d : Nat} {x0 x1 x2 : Int} {I L : Nat → Nat → Nat → Int} {t : Nat → Nat} : Res d 182 0 [vi x0, vi x1, vi x2] [] (mk I L t) = if x1 ≤ x0 then Res d 182 9 [vi x0, vi x1, vi x2] [] (mk I L t) else Res d 182 5 [vi x0, vi x1, vi x2] [] (mk I L t) :=
  Eq.trans (e_iload_n D182_0 rfl rfl) <| Eq.trans (e_iload_n D182_1 rfl rfl) <| e_icge D182_2 rfl rfl
theorem b182_5 {d : Nat} {x0 x1 x2 : Int} {I L : Nat → Nat → Nat → Int} {t : Nat → Nat} : Res d 182 5 [vi x0, vi x1, vi x2] [] (mk I L t) = Res d 182 19 [vi x0, vi x1, vi x2] [vi x1] (mk I L t) :=
  Eq.trans (e_iload_n D182_5 rfl rfl) <| e_goto (q1 := 19) D182_6 rfl
theorem b182_9 {d : Nat} {x0 x1 x2 : Int} {I L : Nat → Nat → Nat → Int} {t : Nat → Nat} : Res d 182 9 [vi x0, vi x1, vi x2] [] (mk I L t) = if x0 ≤ x2 then Res d 182 18 [vi x0, vi x1, vi x2] [] (mk I L t) else Res d 182 14 [vi x0, vi x1, vi x2] [] (mk I L t) :=
  Eq.trans (e_iload_n D182_9 rfl rfl) <| Eq.trans (e_iload_n D182_10 rfl rfl) <| e_icle D182_11 rfl rfl
theorem b182_14 {d : Nat} {x0 x1 x2 : Int} {I L : Nat → Nat → Nat → Int} {t : Nat → Nat} : Res d 182 14 [vi x0, vi x1, vi x2] [] (mk I L t) = Res d 182 19 [vi x0, vi x1, vi x2] [vi x2] (mk I L t) :=
  Eq.trans (e_iload_n D182_14 rfl rfl) <| e_goto (q1 := 19) D182_15 rfl
theorem b182_18 {d : Nat} {x0 x1 x2 : Int} {I L : Nat → Nat → Nat → Int} {t : Nat → Nat} : Res d 182 18 [vi x0, vi x1, vi x2] [] (mk I L t) = Res d 182 19 [vi x0, vi x1, vi x2] [vi x0] (mk I L t) :=
  e_iload_n D182_18 rfl rfl
theorem b182_19 {d : Nat} {x0 x1 x2 xs0 : Int} {I L : Nat → Nat → Nat → Int} {t : Nat → Nat} : Res d 182 19 [vi x0, vi x1, vi x2] [vi xs0] (mk I L t) = some (vi xs0, (mk I L t)) :=
  e_iret D182_19 rfl
/-! m_comesTo -/
theorem cc_183 : cod 183 = cX12_comesTo := rfl
theorem D183_0 : decode (cod 183) 0 = .ok (.iconst 0, 1) := by rw [cc_183]; decide +kernel
theorem D183_1 : decode (cod 183) 1 = .ok (.istore_n 2, 1) := by rw [cc_183]; decide +kernel
theorem D183_2 : decode (cod 183) 2 = .ok (.aload_n 0, 1) := by rw [cc_183]; decide +kernel
theorem D183_3 : decode (cod 183) 3 = .ok (.getfield 34, 3) := by rw [cc_183]; decide +kernel
theorem D183_6 : decode (cod 183) 6 = .ok (.bipush 8, 2) := by rw [cc_183]; decide +kernel
theorem D183_8 : decode (cod 183) 8 = .ok (.aload_n 0, 1) := by rw [cc_183]; decide +kernel
theorem D183_9 : decode (cod 183) 9 = .ok (.getfield 409, 3) := by rw [cc_183]; decide +kernel
theorem D183_12 : decode (cod 183) 12 = .ok (.imul, 1) := by rw [cc_183]; decide +kernel
theorem D183_13 : decode (cod 183) 13 = .ok (.iload_n 1, 1) := by rw [cc_183]; decide +kernel
theorem D183_14 : decode (cod 183) 14 = .ok (.iadd, 1) := by rw [cc_183]; decide +kernel
theorem D183_15 : decode (cod 183) 15 = .ok (.iaload, 1) := by rw [cc_183]; decide +kernel
theorem D183_16 : decode (cod 183) 16 = .ok (.istore_n 3, 1) := by rw [cc_183]; decide +kernel
theorem D183_17 : decode (cod 183) 17 = .ok (.iload_n 3, 1) := by rw [cc_183]; decide +kernel
theorem D183_18 : decode (cod 183) 18 = .ok (.aload_n 0, 1) := by rw [cc_183]; decide +kernel
theorem D183_19 : decode (cod 183) 19 = .ok (.getfield 37, 3) := by rw [cc_183]; decide +kernel
theorem D183_22 : decode (cod 183) 22 = .ok (.bipush 8, 2) := by rw [cc_183]; decide +kernel
theorem D183_24 : decode (cod 183) 24 = .ok (.aload_n 0, 1) := by rw [cc_183]; decide +kernel
theorem D183_25 : decode (cod 183) 25 = .ok (.getfield 409, 3) := by rw [cc_183]; decide +kernel
theorem D183_28 : decode (cod 183) 28 = .ok (.imul, 1) := by rw [cc_183]; decide +kernel
theorem D183_29 : decode (cod 183) 29 = .ok (.iload_n 1, 1) := by rw [cc_183]; decide +kernel
theorem D183_30 : decode (cod 183) 30 = .ok (.iadd, 1) := by rw [cc_183]; decide +kernel
theorem D183_31 : decode (cod 183) 31 = .ok (.iaload, 1) := by rw [cc_183]; decide +kernel
theorem D183_32 : decode (cod 183) 32 = .ok (.if_icmp .ge 172, 3) := by rw [cc_183]; decide +kernel
theorem D183_35 : decode (cod 183) 35 = .ok (.aload_n 0, 1) := by rw [cc_183]; decide +kernel
theorem D183_36 : decode (cod 183) 36 = .ok (.getfield 31, 3) := by rw [cc_183]; decide +kernel
theorem D183_39 : decode (cod 183) 39 = .ok (.sipush 800, 3) := by rw [cc_183]; decide +kernel
theorem D183_42 : decode (cod 183) 42 = .ok (.aload_n 0, 1) := by rw [cc_183]; decide +kernel
theorem D183_43 : decode (cod 183) 43 = .ok (.getfield 409, 3) := by rw [cc_183]; decide +kernel
theorem D183_46 : decode (cod 183) 46 = .ok (.imul, 1) := by rw [cc_183]; decide +kernel
theorem D183_47 : decode (cod 183) 47 = .ok (.iconst 2, 1) := by rw [cc_183]; decide +kernel
theorem D183_48 : decode (cod 183) 48 = .ok (.iload_n 3, 1) := by rw [cc_183]; decide +kernel
theorem D183_49 : decode (cod 183) 49 = .ok (.imul, 1) := by rw [cc_183]; decide +kernel
theorem D183_50 : decode (cod 183) 50 = .ok (.iadd, 1) := by rw [cc_183]; decide +kernel
theorem D183_51 : decode (cod 183) 51 = .ok (.iaload, 1) := by rw [cc_183]; decide +kernel
theorem D183_52 : decode (cod 183) 52 = .ok (.istore 4, 2) := by rw [cc_183]; decide +kernel
theorem D183_54 : decode (cod 183) 54 = .ok (.aload_n 0, 1) := by rw [cc_183]; decide +kernel
theorem D183_55 : decode (cod 183) 55 = .ok (.getfield 31, 3) := by rw [cc_183]; decide +kernel
theorem D183_58 : decode (cod 183) 58 = .ok (.sipush 800, 3) := by rw [cc_183]; decide +kernel
theorem D183_61 : decode (cod 183) 61 = .ok (.aload_n 0, 1) := by rw [cc_183]; decide +kernel
theorem D183_62 : decode (cod 183) 62 = .ok (.getfield 409, 3) := by rw [cc_183]; decide +kernel
theorem D183_65 : decode (cod 183) 65 = .ok (.imul, 1) := by rw [cc_183]; decide +kernel
theorem D183_66 : decode (cod 183) 66 = .ok (.iconst 2, 1) := by rw [cc_183]; decide +kernel
theorem D183_67 : decode (cod 183) 67 = .ok (.iload_n 3, 1) := by rw [cc_183]; decide +kernel
theorem D183_68 : decode (cod 183) 68 = .ok (.imul, 1) := by rw [cc_183]; decide +kernel
theorem D183_69 : decode (cod 183) 69 = .ok (.iadd, 1) := by rw [cc_183]; decide +kernel
theorem D183_70 : decode (cod 183) 70 = .ok (.iconst 1, 1) := by rw [cc_183]; decide +kernel
theorem D183_71 : decode (cod 183) 71 = .ok (.iadd, 1) := by rw [cc_183]; decide +kernel
theorem D183_72 : decode (cod 183) 72 = .ok (.iaload, 1) := by rw [cc_183]; decide +kernel
theorem D183_73 : decode (cod 183) 73 = .ok (.istore 5, 2) := by rw [cc_183]; decide +kernel
theorem D183_75 : decode (cod 183) 75 = .ok (.iload 4, 2) := by rw [cc_183]; decide +kernel
theorem D183_77 : decode (cod 183) 77 = .ok (.bipush 11, 2) := by rw [cc_183]; decide +kernel
theorem D183_79 : decode (cod 183) 79 = .ok (.if_icmp .ge 32, 3) := by rw [cc_183]; decide +kernel
theorem D183_82 : decode (cod 183) 82 = .ok (.aload_n 0, 1) := by rw [cc_183]; decide +kernel
theorem D183_83 : decode (cod 183) 83 = .ok (.getfield 55, 3) := by rw [cc_183]; decide +kernel
theorem D183_86 : decode (cod 183) 86 = .ok (.iload_n 2, 1) := by rw [cc_183]; decide +kernel
theorem D183_87 : decode (cod 183) 87 = .ok (.iload 4, 2) := by rw [cc_183]; decide +kernel
theorem D183_89 : decode (cod 183) 89 = .ok (.ifCond .ne 8, 3) := by rw [cc_183]; decide +kernel
theorem D183_92 : decode (cod 183) 92 = .ok (.iload 5, 2) := by rw [cc_183]; decide +kernel
theorem D183_94 : decode (cod 183) 94 = .ok (.goto 10, 3) := by rw [cc_183]; decide +kernel
theorem D183_97 : decode (cod 183) 97 = .ok (.aload_n 0, 1) := by rw [cc_183]; decide +kernel
theorem D183_98 : decode (cod 183) 98 = .ok (.getfield 96, 3) := by rw [cc_183]; decide +kernel
theorem D183_101 : decode (cod 183) 101 = .ok (.iload 4, 2) := by rw [cc_183]; decide +kernel
theorem D183_103 : decode (cod 183) 103 = .ok (.iaload, 1) := by rw [cc_183]; decide +kernel
theorem D183_104 : decode (cod 183) 104 = .ok (.iastore, 1) := by rw [cc_183]; decide +kernel
theorem D183_105 : decode (cod 183) 105 = .ok (.iinc 2 1, 3) := by rw [cc_183]; decide +kernel
theorem D183_108 : decode (cod 183) 108 = .ok (.goto 90, 3) := by rw [cc_183]; decide +kernel
theorem D183_111 : decode (cod 183) 111 = .ok (.iload 4, 2) := by rw [cc_183]; decide +kernel
theorem D183_113 : decode (cod 183) 113 = .ok (.bipush 14, 2) := by rw [cc_183]; decide +kernel
theorem D183_115 : decode (cod 183) 115 = .ok (.if_icmp .ne 19, 3) := by rw [cc_183]; decide +kernel
theorem D183_118 : decode (cod 183) 118 = .ok (.aload_n 0, 1) := by rw [cc_183]; decide +kernel
theorem D183_119 : decode (cod 183) 119 = .ok (.getfield 55, 3) := by rw [cc_183]; decide +kernel
theorem D183_122 : decode (cod 183) 122 = .ok (.iload_n 2, 1) := by rw [cc_183]; decide +kernel
theorem D183_123 : decode (cod 183) 123 = .ok (.iconst 1, 1) := by rw [cc_183]; decide +kernel
theorem D183_124 : decode (cod 183) 124 = .ok (.isub, 1) := by rw [cc_183]; decide +kernel
theorem D183_125 : decode (cod 183) 125 = .ok (.dup2, 1) := by rw [cc_183]; decide +kernel
theorem D183_126 : decode (cod 183) 126 = .ok (.iaload, 1) := by rw [cc_183]; decide +kernel
theorem D183_127 : decode (cod 183) 127 = .ok (.iload 5, 2) := by rw [cc_183]; decide +kernel
theorem D183_129 : decode (cod 183) 129 = .ok (.idiv, 1) := by rw [cc_183]; decide +kernel
theorem D183_130 : decode (cod 183) 130 = .ok (.iastore, 1) := by rw [cc_183]; decide +kernel
theorem D183_131 : decode (cod 183) 131 = .ok (.goto 67, 3) := by rw [cc_183]; decide +kernel
theorem D183_134 : decode (cod 183) 134 = .ok (.iinc 2 (-1), 3) := by rw [cc_183]; decide +kernel
theorem D183_137 : decode (cod 183) 137 = .ok (.aload_n 0, 1) := by rw [cc_183]; decide +kernel
theorem D183_138 : decode (cod 183) 138 = .ok (.getfield 55, 3) := by rw [cc_183]; decide +kernel
theorem D183_141 : decode (cod 183) 141 = .ok (.iload_n 2, 1) := by rw [cc_183]; decide +kernel
theorem D183_142 : decode (cod 183) 142 = .ok (.iconst 1, 1) := by rw [cc_183]; decide +kernel
theorem D183_143 : decode (cod 183) 143 = .ok (.isub, 1) := by rw [cc_183]; decide +kernel
theorem D183_144 : decode (cod 183) 144 = .ok (.iaload, 1) := by rw [cc_183]; decide +kernel
theorem D183_145 : decode (cod 183) 145 = .ok (.istore 6, 2) := by rw [cc_183]; decide +kernel
theorem D183_147 : decode (cod 183) 147 = .ok (.aload_n 0, 1) := by rw [cc_183]; decide +kernel
theorem D183_148 : decode (cod 183) 148 = .ok (.getfield 55, 3) := by rw [cc_183]; decide +kernel
theorem D183_151 : decode (cod 183) 151 = .ok (.iload_n 2, 1) := by rw [cc_183]; decide +kernel
theorem D183_152 : decode (cod 183) 152 = .ok (.iaload, 1) := by rw [cc_183]; decide +kernel
theorem D183_153 : decode (cod 183) 153 = .ok (.istore 7, 2) := by rw [cc_183]; decide +kernel
theorem D183_155 : decode (cod 183) 155 = .ok (.aload_n 0, 1) := by rw [cc_183]; decide +kernel
theorem D183_156 : decode (cod 183) 156 = .ok (.getfield 55, 3) := by rw [cc_183]; decide +kernel
theorem D183_159 : decode (cod 183) 159 = .ok (.iload_n 2, 1) := by rw [cc_183]; decide +kernel
theorem D183_160 : decode (cod 183) 160 = .ok (.iconst 1, 1) := by rw [cc_183]; decide +kernel
theorem D183_161 : decode (cod 183) 161 = .ok (.isub, 1) := by rw [cc_183]; decide +kernel
theorem D183_162 : decode (cod 183) 162 = .ok (.iload 4, 2) := by rw [cc_183]; decide +kernel
theorem D183_164 : decode (cod 183) 164 = .ok (.bipush 11, 2) := by rw [cc_183]; decide +kernel
theorem D183_166 : decode (cod 183) 166 = .ok (.if_icmp .ne 11, 3) := by rw [cc_183]; decide +kernel
theorem D183_169 : decode (cod 183) 169 = .ok (.iload 6, 2) := by rw [cc_183]; decide +kernel
theorem D183_171 : decode (cod 183) 171 = .ok (.iload 7, 2) := by rw [cc_183]; decide +kernel
theorem D183_173 : decode (cod 183) 173 = .ok (.iadd, 1) := by rw [cc_183]; decide +kernel
theorem D183_174 : decode (cod 183) 174 = .ok (.goto 23, 3) := by rw [cc_183]; decide +kernel
theorem D183_177 : decode (cod 183) 177 = .ok (.iload 4, 2) := by rw [cc_183]; decide +kernel
theorem D183_179 : decode (cod 183) 179 = .ok (.bipush 12, 2) := by rw [cc_183]; decide +kernel
theorem D183_181 : decode (cod 183) 181 = .ok (.if_icmp .ne 11, 3) := by rw [cc_183]; decide +kernel
theorem D183_184 : decode (cod 183) 184 = .ok (.iload 6, 2) := by rw [cc_183]; decide +kernel
theorem D183_186 : decode (cod 183) 186 = .ok (.iload 7, 2) := by rw [cc_183]; decide +kernel
theorem D183_188 : decode (cod 183) 188 = .ok (.isub, 1) := by rw [cc_183]; decide +kernel
theorem D183_189 : decode (cod 183) 189 = .ok (.goto 8, 3) := by rw [cc_183]; decide +kernel
theorem D183_192 : decode (cod 183) 192 = .ok (.iload 6, 2) := by rw [cc_183]; decide +kernel
theorem D183_194 : decode (cod 183) 194 = .ok (.iload 7, 2) := by rw [cc_183]; decide +kernel
theorem D183_196 : decode (cod 183) 196 = .ok (.imul, 1) := by rw [cc_183]; decide +kernel
theorem D183_197 : decode (cod 183) 197 = .ok (.iastore, 1) := by rw [cc_183]; decide +kernel
theorem D183_198 : decode (cod 183) 198 = .ok (.iinc 3 1, 3) := by rw [cc_183]; decide +kernel
theorem D183_201 : decode (cod 183) 201 = .ok (.goto (-184), 3) := by rw [cc_183]; decide +kernel
theorem D183_204 : decode (cod 183) 204 = .ok (.aload_n 0, 1) := by rw [cc_183]; decide +kernel
theorem D183_205 : decode (cod 183) 205 = .ok (.getfield 55, 3) := by rw [cc_183]; decide +kernel
theorem D183_208 : decode (cod 183) 208 = .ok (.iconst 0, 1) := by rw [cc_183]; decide +kernel
theorem D183_209 : decode (cod 183) 209 = .ok (.iaload, 1) := by rw [cc_183]; decide +kernel
theorem D183_210 : decode (cod 183) 210 = .ok (.ireturn, 1) := by rw [cc_183]; decide +kernel
theorem b183_0 {d : Nat} {i0 : Nat} {x1 : Int} {I L : Nat → Nat → Nat → Int} {t : Nat → Nat} (g1 : 0 ≤ w32 ((w32 (8 * (I 12 i0 54))) + x1) ∧ w32 ((w32 (8 * (I 12 i0 54))) + x1) < 32) : Res d 183 0 [vr 12 i0, vi x1, vx, vx, vx, vx, vx, vx] [] (mk I L t) = Res d 183 17 [vr 12 i0, vi x1, vi 0, vi (I 56 i0 (w32 ((w32 (8 * (I 12 i0 54))) + x1)).toNat), vx, vx, vx, vx] [] (mk I L t) :=
  Eq.trans (e_iconst (x := 0) D183_0 rfl rfl) <| Eq.trans (e_istore_n (ls1 := [vr 12 i0, vi x1, vi 0, vx, vx, vx, vx, vx]) D183_1 rfl (show 2 < 8 by decide) rfl) <| Eq.trans (e_aload_n D183_2 rfl rfl) <| Eq.trans (e_getP (p := (56, i0)) D183_3 rfl o_183 f_12_34 (sh_12 _) (by decide) (pp_12_14 _ _)) <| Eq.trans (e_bipush (x := 8) D183_6 rfl rfl) <| Eq.trans (e_aload_n D183_8 rfl rfl) <| Eq.trans (e_getI D183_9 rfl o_183 f_12_409 (sh_12 _) (by decide)) <| Eq.trans (e_imul D183_12 rfl) <| Eq.trans (e_iload_n D183_13 rfl rfl) <| Eq.trans (e_iadd D183_14 rfl) <| Eq.trans (e_iald D183_15 rfl (al_56 _) g1) <| e_istore_n (ls1 := [vr 12 i0, vi x1, vi 0, vi (I 56 i0 (w32 ((w32 (8 * (I 12 i0 54))) + x1)).toNat), vx, vx, vx, vx]) D183_16 rfl (show 3 < 8 by decide) rfl
theorem b183_17 {d : Nat} {i0 : Nat} {x1 x2 x3 : Int} {u4 u5 u6 u7 : MV} {I L : Nat → Nat → Nat → Int} {t : Nat → Nat} (g1 : 0 ≤ w32 ((w32 (8 * (I 12 i0 54))) + x1) ∧ w32 ((w32 (8 * (I 12 i0 54))) + x1) < 32) : Res d 183 17 [vr 12 i0, vi x1, vi x2, vi x3, u4, u5, u6, u7] [] (mk I L t) = if I 57 i0 (w32 ((w32 (8 * (I 12 i0 54))) + x1)).toNat ≤ x3 then Res d 183 204 [vr 12 i0, vi x1, vi x2, vi x3, u4, u5, u6, u7] [] (mk I L t) else Res d 183 35 [vr 12 i0, vi x1, vi x2, vi x3, u4, u5, u6, u7] [] (mk I L t) :=
  Eq.trans (e_iload_n D183_17 rfl rfl) <| Eq.trans (e_aload_n D183_18 rfl rfl) <| Eq.trans (e_getP (p := (57, i0)) D183_19 rfl o_183 f_12_37 (sh_12 _) (by decide) (pp_12_15 _ _)) <| Eq.trans (e_bipush (x := 8) D183_22 rfl rfl) <| Eq.trans (e_aload_n D183_24 rfl rfl) <| Eq.trans (e_getI D183_25 rfl o_183 f_12_409 (sh_12 _) (by decide)) <| Eq.trans (e_imul D183_28 rfl) <| Eq.trans (e_iload_n D183_29 rfl rfl) <| Eq.trans (e_iadd D183_30 rfl) <| Eq.trans (e_iald D183_31 rfl (al_57 _) g1) <| e_icge D183_32 rfl rfl
theorem b183_35 {d : Nat} {i0 : Nat} {x1 x2 x3 : Int} {u4 u5 u6 u7 : MV} {I L : Nat → Nat → Nat → Int} {t : Nat → Nat} (g1 : 0 ≤ w32 ((w32 (800 * (I 12 i0 54))) + (w32 (2 * x3))) ∧ w32 ((w32 (800 * (I 12 i0 54))) + (w32 (2 * x3))) < 3200) (g2 : 0 ≤ w32 ((w32 ((w32 (800 * (I 12 i0 54))) + (w32 (2 * x3)))) + 1) ∧ w32 ((w32 ((w32 (800 * (I 12 i0 54))) + (w32 (2 * x3)))) + 1) < 3200) : Res d 183 35 [vr 12 i0, vi x1, vi x2, vi x3, u4, u5, u6, u7] [] (mk I L t) = if 11 ≤ I 55 i0 (w32 ((w32 (800 * (I 12 i0 54))) + (w32 (2 * x3)))).toNat then Res d 183 111 [vr 12 i0, vi x1, vi x2, vi x3, vi (I 55 i0 (w32 ((w32 (800 * (I 12 i0 54))) + (w32 (2 * x3)))).toNat), vi (I 55 i0 (w32 ((w32 ((w32 (800 * (I 12 i0 54))) + (w32 (2 * x3)))) + 1)).toNat), u6, u7] [] (mk I L t) else Res d 183 82 [vr 12 i0, vi x1, vi x2, vi x3, vi (I 55 i0 (w32 ((w32 (800 * (I 12 i0 54))) + (w32 (2 * x3)))).toNat), vi (I 55 i0 (w32 ((w32 ((w32 (800 * (I 12 i0 54))) + (w32 (2 * x3)))) + 1)).toNat), u6, u7] [] (mk I L t) :=
  Eq.trans (e_aload_n D183_35 rfl rfl) <| Eq.trans (e_getP (p := (55, i0)) D183_36 rfl o_183 f_12_31 (sh_12 _) (by decide) (pp_12_13 _ _)) <| Eq.trans (e_sipush (x := 800) D183_39 rfl rfl) <| Eq.trans (e_aload_n D183_42 rfl rfl) <| Eq.trans (e_getI D183_43 rfl o_183 f_12_409 (sh_12 _) (by decide)) <| Eq.trans (e_imul D183_46 rfl) <| Eq.trans (e_iconst (x := 2) D183_47 rfl rfl) <| Eq.trans (e_iload_n D183_48 rfl rfl) <| Eq.trans (e_imul D183_49 rfl) <| Eq.trans (e_iadd D183_50 rfl) <| Eq.trans (e_iald D183_51 rfl (al_55 _) g1) <| Eq.trans (e_istore (ls1 := [vr 12 i0, vi x1, vi x2, vi x3, vi (I 55 i0 (w32 ((w32 (800 * (I 12 i0 54))) + (w32 (2 * x3)))).toNat), u5, u6, u7]) D183_52 rfl (show 4 < 8 by decide) rfl) <| Eq.trans (e_aload_n D183_54 rfl rfl) <| Eq.trans (e_getP (p := (55, i0)) D183_55 rfl o_183 f_12_31 (sh_12 _) (by decide) (pp_12_13 _ _)) <| Eq.trans (e_sipush (x := 800) D183_58 rfl rfl) <| Eq.trans (e_aload_n D183_61 rfl rfl) <| Eq.trans (e_getI D183_62 rfl o_183 f_12_409 (sh_12 _) (by decide)) <| Eq.trans (e_imul D183_65 rfl) <| Eq.trans (e_iconst (x := 2) D183_66 rfl rfl) <| Eq.trans (e_iload_n D183_67 rfl rfl) <| Eq.trans (e_imul D183_68 rfl) <| Eq.trans (e_iadd D183_69 rfl) <| Eq.trans (e_iconst (x := 1) D183_70 rfl rfl) <| Eq.trans (e_iadd D183_71 rfl) <| Eq.trans (e_iald D183_72 rfl (al_55 _) g2) <| Eq.trans (e_istore (ls1 := [vr 12 i0, vi x1, vi x2, vi x3, vi (I 55 i0 (w32 ((w32 (800 * (I 12 i0 54))) + (w32 (2 * x3)))).toNat), vi (I 55 i0 (w32 ((w32 ((w32 (800 * (I 12 i0 54))) + (w32 (2 * x3)))) + 1)).toNat), u6, u7]) D183_73 rfl (show 5 < 8 by decide) rfl) <| Eq.trans (e_iload D183_75 rfl rfl) <| Eq.trans (e_bipush (x := 11) D183_77 rfl rfl) <| e_icge D183_79 rfl rfl
theorem b183_82 {d : Nat} {i0 : Nat} {x1 x2 x3 x4 x5 : Int} {u6 u7 : MV} {I L : Nat → Nat → Nat → Int} {t : Nat → Nat} : Res d 183 82 [vr 12 i0, vi x1, vi x2, vi x3, vi x4, vi x5, u6, u7] [] (mk I L t) = if ¬ x4 = 0 then Res d 183 97 [vr 12 i0, vi x1, vi x2, vi x3, vi x4, vi x5, u6, u7] [vi x2, vr 63 i0] (mk I L t) else Res d 183 92 [vr 12 i0, vi x1, vi x2, vi x3, vi x4, vi x5, u6, u7] [vi x2, vr 63 i0] (mk I L t) :=
  Eq.trans (e_aload_n D183_82 rfl rfl) <| Eq.trans (e_getP (p := (63, i0)) D183_83 rfl o_183 f_12_55 (sh_12 _) (by decide) (pp_12_21 _ _)) <| Eq.trans (e_iload_n D183_86 rfl rfl) <| Eq.trans (e_iload D183_87 rfl rfl) <| e_ifne D183_89 rfl rfl
theorem b183_92 {d : Nat} {i0 is0 : Nat} {x1 x2 x3 x4 x5 xs1 : Int} {u6 u7 : MV} {I L : Nat → Nat → Nat → Int} {t : Nat → Nat} : Res d 183 92 [vr 12 i0, vi x1, vi x2, vi x3, vi x4, vi x5, u6, u7] [vi xs1, vr 63 is0] (mk I L t) = Res d 183 104 [vr 12 i0, vi x1, vi x2, vi x3, vi x4, vi x5, u6, u7] [vi x5, vi xs1, vr 63 is0] (mk I L t) :=
  Eq.trans (e_iload D183_92 rfl rfl) <| e_goto (q1 := 104) D183_94 rfl
theorem b183_97 {d : Nat} {i0 is0 : Nat} {x1 x2 x3 x4 x5 xs1 : Int} {u6 u7 : MV} {I L : Nat → Nat → Nat → Int} {t : Nat → Nat} (g1 : 0 ≤ x4 ∧ x4 < 11) : Res d 183 97 [vr 12 i0, vi x1, vi x2, vi x3, vi x4, vi x5, u6, u7] [vi xs1, vr 63 is0] (mk I L t) = Res d 183 104 [vr 12 i0, vi x1, vi x2, vi x3, vi x4, vi x5, u6, u7] [vi (I 75 i0 x4.toNat), vi xs1, vr 63 is0] (mk I L t) :=
  Eq.trans (e_aload_n D183_97 rfl rfl) <| Eq.trans (e_getP (p := (75, i0)) D183_98 rfl o_183 f_12_96 (sh_12 _) (by decide) (pp_12_51 _ _)) <| Eq.trans (e_iload D183_101 rfl rfl) <| e_iald D183_103 rfl (al_75 _) g1
theorem b183_104 {d : Nat} {i0 is0 : Nat} {x1 x2 x3 x4 x5 xs2 xs1 : Int} {u6 u7 : MV} {I L : Nat → Nat → Nat → Int} {t : Nat → Nat} (g1 : 0 ≤ xs1 ∧ xs1 < 420) : Res d 183 104 [vr 12 i0, vi x1, vi x2, vi x3, vi x4, vi x5, u6, u7] [vi xs2, vi xs1, vr 63 is0] (mk I L t) = Res d 183 198 [vr 12 i0, vi x1, vi (w32 (x2 + 1)), vi x3, vi x4, vi x5, u6, u7] [] (mk (up3 I 63 is0 xs1.toNat xs2) L t) :=
  Eq.trans (e_iast D183_104 rfl (al_63 _) rfl g1) <| Eq.trans (e_iinc (ls1 := [vr 12 i0, vi x1, vi (w32 (x2 + 1)), vi x3, vi x4, vi x5, u6, u7]) D183_105 rfl rfl rfl) <| e_goto (q1 := 198) D183_108 rfl
theorem b183_111 {d : Nat} {i0 : Nat} {x1 x2 x3 x4 x5 : Int} {u6 u7 : MV} {I L : Nat → Nat → Nat → Int} {t : Nat → Nat} : Res d 183 111 [vr 12 i0, vi x1, vi x2, vi x3, vi x4, vi x5, u6, u7] [] (mk I L t) = if ¬ x4 = 14 then Res d 183 134 [vr 12 i0, vi x1, vi x2, vi x3, vi x4, vi x5, u6, u7] [] (mk I L t) else Res d 183 118 [vr 12 i0, vi x1, vi x2, vi x3, vi x4, vi x5, u6, u7] [] (mk I L t) :=
  Eq.trans (e_iload D183_111 rfl rfl) <| Eq.trans (e_bipush (x := 14) D183_113 rfl rfl) <| e_icne D183_115 rfl rfl
theorem b183_118 {d : Nat} {i0 : Nat} {x1 x2 x3 x4 x5 : Int} {u6 u7 : MV} {I L : Nat → Nat → Nat → Int} {t : Nat → Nat} (g1 : 0 ≤ w32 (x2 - 1) ∧ w32 (x2 - 1) < 420) (g2 : x5 ≠ 0) : Res d 183 118 [vr 12 i0, vi x1, vi x2, vi x3, vi x4, vi x5, u6, u7] [] (mk I L t) = Res d 183 198 [vr 12 i0, vi x1, vi x2, vi x3, vi x4, vi x5, u6, u7] [] (mk (up3 I 63 i0 (w32 (x2 - 1)).toNat (vIdiv (I 63 i0 (w32 (x2 - 1)).toNat) x5)) L t) :=
  Eq.trans (e_aload_n D183_118 rfl rfl) <| Eq.trans (e_getP (p := (63, i0)) D183_119 rfl o_183 f_12_55 (sh_12 _) (by decide) (pp_12_21 _ _)) <| Eq.trans (e_iload_n D183_122 rfl rfl) <| Eq.trans (e_iconst (x := 1) D183_123 rfl rfl) <| Eq.trans (e_isub D183_124 rfl) <| Eq.trans (e_dup2 D183_125 rfl) <| Eq.trans (e_iald D183_126 rfl (al_63 _) g1) <| Eq.trans (e_iload D183_127 rfl rfl) <| Eq.trans (e_idiv D183_129 rfl g2) <| Eq.trans (e_iast D183_130 rfl (al_63 _) rfl g1) <| e_goto (q1 := 198) D183_131 rfl
theorem b183_134 {d : Nat} {i0 : Nat} {x1 x2 x3 x4 x5 : Int} {u6 u7 : MV} {I L : Nat → Nat → Nat → Int} {t : Nat → Nat} (g1 : 0 ≤ w32 ((w32 (x2 + (-1))) - 1) ∧ w32 ((w32 (x2 + (-1))) - 1) < 420) (g2 : 0 ≤ w32 (x2 + (-1)) ∧ w32 (x2 + (-1)) < 420) : Res d 183 134 [vr 12 i0, vi x1, vi x2, vi x3, vi x4, vi x5, u6, u7] [] (mk I L t) = if ¬ x4 = 11 then Res d 183 177 [vr 12 i0, vi x1, vi (w32 (x2 + (-1))), vi x3, vi x4, vi x5, vi (I 63 i0 (w32 ((w32 (x2 + (-1))) - 1)).toNat), vi (I 63 i0 (w32 (x2 + (-1))).toNat)] [vi (w32 ((w32 (x2 + (-1))) - 1)), vr 63 i0] (mk I L t) else Res d 183 169 [vr 12 i0, vi x1, vi (w32 (x2 + (-1))), vi x3, vi x4, vi x5, vi (I 63 i0 (w32 ((w32 (x2 + (-1))) - 1)).toNat), vi (I 63 i0 (w32 (x2 + (-1))).toNat)] [vi (w32 ((w32 (x2 + (-1))) - 1)), vr 63 i0] (mk I L t) :=
  Eq.trans (e_iinc (ls1 := [vr 12 i0, vi x1, vi (w32 (x2 + (-1))), vi x3, vi x4, vi x5, u6, u7]) D183_134 rfl rfl rfl) <| Eq.trans (e_aload_n D183_137 rfl rfl) <| Eq.trans (e_getP (p := (63, i0)) D183_138 rfl o_183 f_12_55 (sh_12 _) (by decide) (pp_12_21 _ _)) <| Eq.trans (e_iload_n D183_141 rfl rfl) <| Eq.trans (e_iconst (x := 1) D183_142 rfl rfl) <| Eq.trans (e_isub D183_143 rfl) <| Eq.trans (e_iald D183_144 rfl (al_63 _) g1) <| Eq.trans (e_istore (ls1 := [vr 12 i0, vi x1, vi (w32 (x2 + (-1))), vi x3, vi x4, vi x5, vi (I 63 i0 (w32 ((w32 (x2 + (-1))) - 1)).toNat), u7]) D183_145 rfl (show 6 < 8 by decide) rfl) <| Eq.trans (e_aload_n D183_147 rfl rfl) <| Eq.trans (e_getP (p := (63, i0)) D183_148 rfl o_183 f_12_55 (sh_12 _) (by decide) (pp_12_21 _ _)) <| Eq.trans (e_iload_n D183_151 rfl rfl) <| Eq.trans (e_iald D183_152 rfl (al_63 _) g2) <| Eq.trans (e_istore (ls1 := [vr 12 i0, vi x1, vi (w32 (x2 + (-1))), vi x3, vi x4, vi x5, vi (I 63 i0 (w32 ((w32 (x2 + (-1))) - 1)).toNat), vi (I 63 i0 (w32 (x2 + (-1))).toNat)]) D183_153 rfl (show 7 < 8 by decide) rfl) <| Eq.trans (e_aload_n D183_155 rfl rfl) <| Eq.trans (e_getP (p := (63, i0)) D183_156 rfl o_183 f_12_55 (sh_12 _) (by decide) (pp_12_21 _ _)) <| Eq.trans (e_iload_n D183_159 rfl rfl) <| Eq.trans (e_iconst (x := 1) D183_160 rfl rfl) <| Eq.trans (e_isub D183_161 rfl) <| Eq.trans (e_iload D183_162 rfl rfl) <| Eq.trans (e_bipush (x := 11) D183_164 rfl rfl) <| e_icne D183_166 rfl rfl
theorem b183_169 {d : Nat} {i0 is0 : Nat} {x1 x2 x3 x4 x5 x6 x7 xs1 : Int} {I L : Nat → Nat → Nat → Int} {t : Nat → Nat} : Res d 183 169 [vr 12 i0, vi x1, vi x2, vi x3, vi x4, vi x5, vi x6, vi x7] [vi xs1, vr 63 is0] (mk I L t) = Res d 183 197 [vr 12 i0, vi x1, vi x2, vi x3, vi x4, vi x5, vi x6, vi x7] [vi (w32 (x6 + x7)), vi xs1, vr 63 is0] (mk I L t) :=
  Eq.trans (e_iload D183_169 rfl rfl) <| Eq.trans (e_iload D183_171 rfl rfl) <| Eq.trans (e_iadd D183_173 rfl) <| e_goto (q1 := 197) D183_174 rfl
theorem b183_177 {d : Nat} {i0 is0 : Nat} {x1 x2 x3 x4 x5 x6 x7 xs1 : Int} {I L : Nat → Nat → Nat → Int} {t : Nat → Nat} : Res d 183 177 [vr 12 i0, vi x1, vi x2, vi x3, vi x4, vi x5, vi x6, vi x7] [vi xs1, vr 63 is0] (mk I L t) = if ¬ x4 = 12 then Res d 183 192 [vr 12 i0, vi x1, vi x2, vi x3, vi x4, vi x5, vi x6, vi x7] [vi xs1, vr 63 is0] (mk I L t) else Res d 183 184 [vr 12 i0, vi x1, vi x2, vi x3, vi x4, vi x5, vi x6, vi x7] [vi xs1, vr 63 is0] (mk I L t) :=
  Eq.trans (e_iload D183_177 rfl rfl) <| Eq.trans (e_bipush (x := 12) D183_179 rfl rfl) <| e_icne D183_181 rfl rfl
theorem b183_184 {d : Nat} {i0 is0 : Nat} {x1 x2 x3 x4 x5 x6 x7 xs1 : Int} {I L : Nat → Nat → Nat → Int} {t : Nat → Nat} : Res d 183 184 [vr 12 i0, vi x1, vi x2, vi x3, vi x4, vi x5, vi x6, vi x7] [vi xs1, vr 63 is0] (mk I L t) = Res d 183 197 [vr 12 i0, vi x1, vi x2, vi x3, vi x4, vi x5, vi x6, vi x7] [vi (w32 (x6 - x7)), vi xs1, vr 63 is0] (mk I L t) :=
  Eq.trans (e_iload D183_184 rfl rfl) <| Eq.trans (e_iload D183_186 rfl rfl) <| Eq.trans (e_isub D183_188 rfl) <| e_goto (q1 := 197) D183_189 rfl
theorem b183_192 {d : Nat} {i0 is0 : Nat} {x1 x2 x3 x4 x5 x6 x7 xs1 : Int} {I L : Nat → Nat → Nat → Int} {t : Nat → Nat} : Res d 183 192 [vr 12 i0, vi x1, vi x2, vi x3, vi x4, vi x5, vi x6, vi x7] [vi xs1, vr 63 is0] (mk I L t) = Res d 183 197 [vr 12 i0, vi x1, vi x2, vi x3, vi x4, vi x5, vi x6, vi x7] [vi (w32 (x6 * x7)), vi xs1, vr 63 is0] (mk I L t) :=
  Eq.trans (e_iload D183_192 rfl rfl) <| Eq.trans (e_iload D183_194 rfl rfl) <| e_imul D183_196 rfl
theorem b183_197 {d : Nat} {i0 is0 : Nat} {x1 x2 x3 x4 x5 x6 x7 xs2 xs1 : Int} {I L : Nat → Nat → Nat → Int} {t : Nat → Nat} (g1 : 0 ≤ xs1 ∧ xs1 < 420) : Res d 183 197 [vr 12 i0, vi x1, vi x2, vi x3, vi x4, vi x5, vi x6, vi x7] [vi xs2, vi xs1, vr 63 is0] (mk I L t) = Res d 183 198 [vr 12 i0, vi x1, vi x2, vi x3, vi x4, vi x5, vi x6, vi x7] [] (mk (up3 I 63 is0 xs1.toNat xs2) L t) :=
  e_iast D183_197 rfl (al_63 _) rfl g1
theorem b183_198 {d : Nat} {i0 : Nat} {x1 x2 x3 x4 x5 : Int} {u6 u7 : MV} {I L : Nat → Nat → Nat → Int} {t : Nat → Nat} : Res d 183 198 [vr 12 i0, vi x1, vi x2, vi x3, vi x4, vi x5, u6, u7] [] (mk I L t) = Res d 183 17 [vr 12 i0, vi x1, vi x2, vi (w32 (x3 + 1)), vi x4, vi x5, u6, u7] [] (mk I L t) :=
  Eq.trans (e_iinc (ls1 := [vr 12 i0, vi x1, vi x2, vi (w32 (x3 + 1)), vi x4, vi x5, u6, u7]) D183_198 rfl rfl rfl) <| e_goto (q1 := 17) D183_201 rfl
theorem b183_204 {d : Nat} {i0 : Nat} {x1 x2 x3 : Int} {u4 u5 u6 u7 : MV} {I L : Nat → Nat → Nat → Int} {t : Nat → Nat} : Res d 183 204 [vr 12 i0, vi x1, vi x2, vi x3, u4, u5, u6, u7] [] (mk I L t) = some (vi (I 63 i0 0), (mk I L t)) :=
  Eq.trans (e_aload_n D183_204 rfl rfl) <| Eq.trans (e_getP (p := (63, i0)) D183_205 rfl o_183 f_12_55 (sh_12 _) (by decide) (pp_12_21 _ _)) <| Eq.trans (e_iconst (x := 0) D183_208 rfl rfl) <| Eq.trans (e_iald D183_209 rfl (al_63 _) (by decide)) <| e_iret D183_210 rfl
/-! m_asks -/
theorem cc_184 : cod 184 = cX12_asks := rfl
theorem D184_0 : decode (cod 184) 0 = .ok (.aload_n 0, 1) := by rw [cc_184]; decide +kernel
theorem D184_1 : decode (cod 184) 1 = .ok (.getfield 37, 3) := by rw [cc_184]; decide +kernel
theorem D184_4 : decode (cod 184) 4 = .ok (.bipush 8, 2) := by rw [cc_184]; decide +kernel
theorem D184_6 : decode (cod 184) 6 = .ok (.aload_n 0, 1) := by rw [cc_184]; decide +kernel
theorem D184_7 : decode (cod 184) 7 = .ok (.getfield 409, 3) := by rw [cc_184]; decide +kernel
theorem D184_10 : decode (cod 184) 10 = .ok (.imul, 1) := by rw [cc_184]; decide +kernel
theorem D184_11 : decode (cod 184) 11 = .ok (.iload_n 1, 1) := by rw [cc_184]; decide +kernel
theorem D184_12 : decode (cod 184) 12 = .ok (.iadd, 1) := by rw [cc_184]; decide +kernel
theorem D184_13 : decode (cod 184) 13 = .ok (.iaload, 1) := by rw [cc_184]; decide +kernel
theorem D184_14 : decode (cod 184) 14 = .ok (.ifCond .le 7, 3) := by rw [cc_184]; decide +kernel
theorem D184_17 : decode (cod 184) 17 = .ok (.iconst 1, 1) := by rw [cc_184]; decide +kernel
theorem D184_18 : decode (cod 184) 18 = .ok (.goto 4, 3) := by rw [cc_184]; decide +kernel
theorem D184_21 : decode (cod 184) 21 = .ok (.iconst 0, 1) := by rw [cc_184]; decide +kernel
theorem D184_22 : decode (cod 184) 22 = .ok (.istore_n 2, 1) := by rw [cc_184]; decide +kernel
theorem D184_23 : decode (cod 184) 23 = .ok (.iload_n 1, 1) := by rw [cc_184]; decide +kernel
theorem D184_24 : decode (cod 184) 24 = .ok (.tableswitch 147 0 7 #[48, 127, 147, 147, 83, 105, 147, 127], 48) := by rw [cc_184]; decide +kernel
theorem D184_72 : decode (cod 184) 72 = .ok (.iload_n 2, 1) := by rw [cc_184]; decide +kernel
theorem D184_73 : decode (cod 184) 73 = .ok (.ifCond .eq 11, 3) := by rw [cc_184]; decide +kernel
theorem D184_76 : decode (cod 184) 76 = .ok (.aload_n 0, 1) := by rw [cc_184]; decide +kernel
theorem D184_77 : decode (cod 184) 77 = .ok (.iload_n 1, 1) := by rw [cc_184]; decide +kernel
theorem D184_78 : decode (cod 184) 78 = .ok (.invokevirtual 412, 3) := by rw [cc_184]; decide +kernel
theorem D184_81 : decode (cod 184) 81 = .ok (.goto 18, 3) := by rw [cc_184]; decide +kernel
theorem D184_84 : decode (cod 184) 84 = .ok (.aload_n 0, 1) := by rw [cc_184]; decide +kernel
theorem D184_85 : decode (cod 184) 85 = .ok (.getfield 96, 3) := by rw [cc_184]; decide +kernel
theorem D184_88 : decode (cod 184) 88 = .ok (.iconst 1, 1) := by rw [cc_184]; decide +kernel
theorem D184_89 : decode (cod 184) 89 = .ok (.iaload, 1) := by rw [cc_184]; decide +kernel
theorem D184_90 : decode (cod 184) 90 = .ok (.iconst 2, 1) := by rw [cc_184]; decide +kernel
theorem D184_91 : decode (cod 184) 91 = .ok (.aload_n 0, 1) := by rw [cc_184]; decide +kernel
theorem D184_92 : decode (cod 184) 92 = .ok (.getfield 96, 3) := by rw [cc_184]; decide +kernel
theorem D184_95 : decode (cod 184) 95 = .ok (.iconst 2, 1) := by rw [cc_184]; decide +kernel
theorem D184_96 : decode (cod 184) 96 = .ok (.iaload, 1) := by rw [cc_184]; decide +kernel
theorem D184_97 : decode (cod 184) 97 = .ok (.imul, 1) := by rw [cc_184]; decide +kernel
theorem D184_98 : decode (cod 184) 98 = .ok (.iadd, 1) := by rw [cc_184]; decide +kernel
theorem D184_99 : decode (cod 184) 99 = .ok (.iconst 0, 1) := by rw [cc_184]; decide +kernel
theorem D184_100 : decode (cod 184) 100 = .ok (.sipush 9999, 3) := by rw [cc_184]; decide +kernel
theorem D184_103 : decode (cod 184) 103 = .ok (.invokestatic 415, 3) := by rw [cc_184]; decide +kernel
theorem D184_106 : decode (cod 184) 106 = .ok (.ireturn, 1) := by rw [cc_184]; decide +kernel
theorem D184_107 : decode (cod 184) 107 = .ok (.iload_n 2, 1) := by rw [cc_184]; decide +kernel
theorem D184_108 : decode (cod 184) 108 = .ok (.ifCond .eq 11, 3) := by rw [cc_184]; decide +kernel
theorem D184_111 : decode (cod 184) 111 = .ok (.aload_n 0, 1) := by rw [cc_184]; decide +kernel
theorem D184_112 : decode (cod 184) 112 = .ok (.iload_n 1, 1) := by rw [cc_184]; decide +kernel
theorem D184_113 : decode (cod 184) 113 = .ok (.invokevirtual 412, 3) := by rw [cc_184]; decide +kernel
theorem D184_116 : decode (cod 184) 116 = .ok (.goto 5, 3) := by rw [cc_184]; decide +kernel
theorem D184_119 : decode (cod 184) 119 = .ok (.bipush 100, 2) := by rw [cc_184]; decide +kernel
theorem D184_121 : decode (cod 184) 121 = .ok (.iconst 0, 1) := by rw [cc_184]; decide +kernel
theorem D184_122 : decode (cod 184) 122 = .ok (.sipush 9999, 3) := by rw [cc_184]; decide +kernel
theorem D184_125 : decode (cod 184) 125 = .ok (.invokestatic 415, 3) := by rw [cc_184]; decide +kernel
theorem D184_128 : decode (cod 184) 128 = .ok (.ireturn, 1) := by rw [cc_184]; decide +kernel
theorem D184_129 : decode (cod 184) 129 = .ok (.iload_n 2, 1) := by rw [cc_184]; decide +kernel
theorem D184_130 : decode (cod 184) 130 = .ok (.ifCond .eq 11, 3) := by rw [cc_184]; decide +kernel
theorem D184_133 : decode (cod 184) 133 = .ok (.aload_n 0, 1) := by rw [cc_184]; decide +kernel
theorem D184_134 : decode (cod 184) 134 = .ok (.iload_n 1, 1) := by rw [cc_184]; decide +kernel
theorem D184_135 : decode (cod 184) 135 = .ok (.invokevirtual 412, 3) := by rw [cc_184]; decide +kernel
theorem D184_138 : decode (cod 184) 138 = .ok (.goto 5, 3) := by rw [cc_184]; decide +kernel
theorem D184_141 : decode (cod 184) 141 = .ok (.bipush 10, 2) := by rw [cc_184]; decide +kernel
theorem D184_143 : decode (cod 184) 143 = .ok (.iconst 1, 1) := by rw [cc_184]; decide +kernel
theorem D184_144 : decode (cod 184) 144 = .ok (.sipush 9999, 3) := by rw [cc_184]; decide +kernel
theorem D184_147 : decode (cod 184) 147 = .ok (.invokestatic 415, 3) := by rw [cc_184]; decide +kernel
theorem D184_150 : decode (cod 184) 150 = .ok (.ireturn, 1) := by rw [cc_184]; decide +kernel
theorem D184_151 : decode (cod 184) 151 = .ok (.iload_n 2, 1) := by rw [cc_184]; decide +kernel
theorem D184_152 : decode (cod 184) 152 = .ok (.ifCond .eq 11, 3) := by rw [cc_184]; decide +kernel
theorem D184_155 : decode (cod 184) 155 = .ok (.aload_n 0, 1) := by rw [cc_184]; decide +kernel
theorem D184_156 : decode (cod 184) 156 = .ok (.iload_n 1, 1) := by rw [cc_184]; decide +kernel
theorem D184_157 : decode (cod 184) 157 = .ok (.invokevirtual 412, 3) := by rw [cc_184]; decide +kernel
theorem D184_160 : decode (cod 184) 160 = .ok (.goto 4, 3) := by rw [cc_184]; decide +kernel
theorem D184_163 : decode (cod 184) 163 = .ok (.iconst 0, 1) := by rw [cc_184]; decide +kernel
theorem D184_164 : decode (cod 184) 164 = .ok (.iconst 0, 1) := by rw [cc_184]; decide +kernel
theorem D184_165 : decode (cod 184) 165 = .ok (.bipush 15, 2) := by rw [cc_184]; decide +kernel
theorem D184_167 : decode (cod 184) 167 = .ok (.invokestatic 415, 3) := by rw [cc_184]; decide +kernel
theorem D184_170 : decode (cod 184) 170 = .ok (.ireturn, 1) := by rw [cc_184]; decide +kernel
theorem D184_171 : decode (cod 184) 171 = .ok (.iload_n 2, 1) := by rw [cc_184]; decide +kernel
theorem D184_172 : decode (cod 184) 172 = .ok (.ifCond .eq 11, 3) := by rw [cc_184]; decide +kernel
theorem D184_175 : decode (cod 184) 175 = .ok (.aload_n 0, 1) := by rw [cc_184]; decide +kernel
theorem D184_176 : decode (cod 184) 176 = .ok (.iload_n 1, 1) := by rw [cc_184]; decide +kernel
theorem D184_177 : decode (cod 184) 177 = .ok (.invokevirtual 412, 3) := by rw [cc_184]; decide +kernel
theorem D184_180 : decode (cod 184) 180 = .ok (.goto 15, 3) := by rw [cc_184]; decide +kernel
theorem D184_183 : decode (cod 184) 183 = .ok (.iload_n 1, 1) := by rw [cc_184]; decide +kernel
theorem D184_184 : decode (cod 184) 184 = .ok (.bipush 6, 2) := by rw [cc_184]; decide +kernel
theorem D184_186 : decode (cod 184) 186 = .ok (.if_icmp .ne 8, 3) := by rw [cc_184]; decide +kernel
theorem D184_189 : decode (cod 184) 189 = .ok (.bipush 50, 2) := by rw [cc_184]; decide +kernel
theorem D184_191 : decode (cod 184) 191 = .ok (.goto 4, 3) := by rw [cc_184]; decide +kernel
theorem D184_194 : decode (cod 184) 194 = .ok (.iconst 0, 1) := by rw [cc_184]; decide +kernel
theorem D184_195 : decode (cod 184) 195 = .ok (.iconst 0, 1) := by rw [cc_184]; decide +kernel
theorem D184_196 : decode (cod 184) 196 = .ok (.bipush 100, 2) := by rw [cc_184]; decide +kernel
theorem D184_198 : decode (cod 184) 198 = .ok (.invokestatic 415, 3) := by rw [cc_184]; decide +kernel
theorem D184_201 : decode (cod 184) 201 = .ok (.ireturn, 1) := by rw [cc_184]; decide +kernel
theorem b184_0 {d : Nat} {i0 : Nat} {x1 : Int} {I L : Nat → Nat → Nat → Int} {t : Nat → Nat} (g1 : 0 ≤ w32 ((w32 (8 * (I 12 i0 54))) + x1) ∧ w32 ((w32 (8 * (I 12 i0 54))) + x1) < 32) : Res d 184 0 [vr 12 i0, vi x1, vx] [] (mk I L t) = if I 57 i0 (w32 ((w32 (8 * (I 12 i0 54))) + x1)).toNat ≤ 0 then Res d 184 21 [vr 12 i0, vi x1, vx] [] (mk I L t) else Res d 184 17 [vr 12 i0, vi x1, vx] [] (mk I L t) :=
  Eq.trans (e_aload_n D184_0 rfl rfl) <| Eq.trans (e_getP (p := (57, i0)) D184_1 rfl o_184 f_12_37 (sh_12 _) (by decide) (pp_12_15 _ _)) <| Eq.trans (e_bipush (x := 8) D184_4 rfl rfl) <| Eq.trans (e_aload_n D184_6 rfl rfl) <| Eq.trans (e_getI D184_7 rfl o_184 f_12_409 (sh_12 _) (by decide)) <| Eq.trans (e_imul D184_10 rfl) <| Eq.trans (e_iload_n D184_11 rfl rfl) <| Eq.trans (e_iadd D184_12 rfl) <| Eq.trans (e_iald D184_13 rfl (al_57 _) g1) <| e_ifle D184_14 rfl rfl
theorem b184_17 {d : Nat} {i0 : Nat} {x1 : Int} {I L : Nat → Nat → Nat → Int} {t : Nat → Nat} : Res d 184 17 [vr 12 i0, vi x1, vx] [] (mk I L t) = Res d 184 22 [vr 12 i0, vi x1, vx] [vi 1] (mk I L t) :=
  Eq.trans (e_iconst (x := 1) D184_17 rfl rfl) <| e_goto (q1 := 22) D184_18 rfl
theorem b184_21 {d : Nat} {i0 : Nat} {x1 : Int} {I L : Nat → Nat → Nat → Int} {t : Nat → Nat} : Res d 184 21 [vr 12 i0, vi x1, vx] [] (mk I L t) = Res d 184 22 [vr 12 i0, vi x1, vx] [vi 0] (mk I L t) :=
  e_iconst (x := 0) D184_21 rfl rfl
theorem b184_22_d {d : Nat} {i0 : Nat} {x1 xs0 : Int} {I L : Nat → Nat → Nat → Int} {t : Nat → Nat} (gx : x1 < 0 ∨ 7 < x1) : Res d 184 22 [vr 12 i0, vi x1, vx] [vi xs0] (mk I L t) = Res d 184 171 [vr 12 i0, vi x1, vi xs0] [] (mk I L t) :=
  Eq.trans (e_istore_n (ls1 := [vr 12 i0, vi x1, vi xs0]) D184_22 rfl (show 2 < 3 by decide) rfl) <| Eq.trans (e_iload_n D184_23 rfl rfl) <| e_tswD (q1 := 171) D184_24 gx rfl
theorem b184_22_c0 {d : Nat} {i0 : Nat} {x1 xs0 : Int} {I L : Nat → Nat → Nat → Int} {t : Nat → Nat} (gx : x1 = 0) : Res d 184 22 [vr 12 i0, vi x1, vx] [vi xs0] (mk I L t) = Res d 184 72 [vr 12 i0, vi x1, vi xs0] [] (mk I L t) :=
  Eq.trans (e_istore_n (ls1 := [vr 12 i0, vi x1, vi xs0]) D184_22 rfl (show 2 < 3 by decide) rfl) <| Eq.trans (e_iload_n D184_23 rfl rfl) <| e_tswK (k := 0) (q1 := 72) D184_24 gx (by decide) rfl rfl
theorem b184_22_c1 {d : Nat} {i0 : Nat} {x1 xs0 : Int} {I L : Nat → Nat → Nat → Int} {t : Nat → Nat} (gx : x1 = 1) : Res d 184 22 [vr 12 i0, vi x1, vx] [vi xs0] (mk I L t) = Res d 184 151 [vr 12 i0, vi x1, vi xs0] [] (mk I L t) :=
  Eq.trans (e_istore_n (ls1 := [vr 12 i0, vi x1, vi xs0]) D184_22 rfl (show 2 < 3 by decide) rfl) <| Eq.trans (e_iload_n D184_23 rfl rfl) <| e_tswK (k := 1) (q1 := 151) D184_24 gx (by decide) rfl rfl
theorem b184_22_c2 {d : Nat} {i0 : Nat} {x1 xs0 : Int} {I L : Nat → Nat → Nat → Int} {t : Nat → Nat} (gx : x1 = 2) : Res d 184 22 [vr 12 i0, vi x1, vx] [vi xs0] (mk I L t) = Res d 184 171 [vr 12 i0, vi x1, vi xs0] [] (mk I L t) :=
  Eq.trans (e_istore_n (ls1 := [vr 12 i0, vi x1, vi xs0]) D184_22 rfl (show 2 < 3 by decide) rfl) <| Eq.trans (e_iload_n D184_23 rfl rfl) <| e_tswK (k := 2) (q1 := 171) D184_24 gx (by decide) rfl rfl
theorem b184_22_c3 {d : Nat} {i0 : Nat} {x1 xs0 : Int} {I L : Nat → Nat → Nat → Int} {t : Nat → Nat} (gx : x1 = 3) : Res d 184 22 [vr 12 i0, vi x1, vx] [vi xs0] (mk I L t) = Res d 184 171 [vr 12 i0, vi x1, vi xs0] [] (mk I L t) :=
  Eq.trans (e_istore_n (ls1 := [vr 12 i0, vi x1, vi xs0]) D184_22 rfl (show 2 < 3 by decide) rfl) <| Eq.trans (e_iload_n D184_23 rfl rfl) <| e_tswK (k := 3) (q1 := 171) D184_24 gx (by decide) rfl rfl
theorem b184_22_c4 {d : Nat} {i0 : Nat} {x1 xs0 : Int} {I L : Nat → Nat → Nat → Int} {t : Nat → Nat} (gx : x1 = 4) : Res d 184 22 [vr 12 i0, vi x1, vx] [vi xs0] (mk I L t) = Res d 184 107 [vr 12 i0, vi x1, vi xs0] [] (mk I L t) :=
  Eq.trans (e_istore_n (ls1 := [vr 12 i0, vi x1, vi xs0]) D184_22 rfl (show 2 < 3 by decide) rfl) <| Eq.trans (e_iload_n D184_23 rfl rfl) <| e_tswK (k := 4) (q1 := 107) D184_24 gx (by decide) rfl rfl
theorem b184_22_c5 {d : Nat} {i0 : Nat} {x1 xs0 : Int} {I L : Nat → Nat → Nat → Int} {t : Nat → Nat} (gx : x1 = 5) : Res d 184 22 [vr 12 i0, vi x1, vx] [vi xs0] (mk I L t) = Res d 184 129 [vr 12 i0, vi x1, vi xs0] [] (mk I L t) :=
  Eq.trans (e_istore_n (ls1 := [vr 12 i0, vi x1, vi xs0]) D184_22 rfl (show 2 < 3 by decide) rfl) <| Eq.trans (e_iload_n D184_23 rfl rfl) <| e_tswK (k := 5) (q1 := 129) D184_24 gx (by decide) rfl rfl
theorem b184_22_c6 {d : Nat} {i0 : Nat} {x1 xs0 : Int} {I L : Nat → Nat → Nat → Int} {t : Nat → Nat} (gx : x1 = 6) : Res d 184 22 [vr 12 i0, vi x1, vx] [vi xs0] (mk I L t) = Res d 184 171 [vr 12 i0, vi x1, vi xs0] [] (mk I L t) :=
  Eq.trans (e_istore_n (ls1 := [vr 12 i0, vi x1, vi xs0]) D184_22 rfl (show 2 < 3 by decide) rfl) <| Eq.trans (e_iload_n D184_23 rfl rfl) <| e_tswK (k := 6) (q1 := 171) D184_24 gx (by decide) rfl rfl
theorem b184_22_c7 {d : Nat} {i0 : Nat} {x1 xs0 : Int} {I L : Nat → Nat → Nat → Int} {t : Nat → Nat} (gx : x1 = 7) : Res d 184 22 [vr 12 i0, vi x1, vx] [vi xs0] (mk I L t) = Res d 184 151 [vr 12 i0, vi x1, vi xs0] [] (mk I L t) :=
  Eq.trans (e_istore_n (ls1 := [vr 12 i0, vi x1, vi xs0]) D184_22 rfl (show 2 < 3 by decide) rfl) <| Eq.trans (e_iload_n D184_23 rfl rfl) <| e_tswK (k := 7) (q1 := 151) D184_24 gx (by decide) rfl rfl
theorem b184_72 {d : Nat} {i0 : Nat} {x1 x2 : Int} {I L : Nat → Nat → Nat → Int} {t : Nat → Nat} : Res d 184 72 [vr 12 i0, vi x1, vi x2] [] (mk I L t) = if x2 = 0 then Res d 184 84 [vr 12 i0, vi x1, vi x2] [] (mk I L t) else Res d 184 76 [vr 12 i0, vi x1, vi x2] [] (mk I L t) :=
  Eq.trans (e_iload_n D184_72 rfl rfl) <| e_ifeq D184_73 rfl rfl
theorem b184_76 {d : Nat} {i0 : Nat} {x1 x2 : Int} {I L : Nat → Nat → Nat → Int} {t : Nat → Nat} : Res (d + 1) 184 76 [vr 12 i0, vi x1, vi x2] [] (mk I L t) = (Cal d 183 [vr 12 i0, vi x1] (mk I L t)).bind fun v => Res (d + 1) 184 81 [vr 12 i0, vi x1, vi x2] (psh 183 v.1 []) v.2 :=
  Eq.trans (e_aload_n D184_76 rfl rfl) <| Eq.trans (e_iload_n D184_77 rfl rfl) <| e_callV D184_78 rfl o_184 m_12_412 (by decide) rfl rfl
theorem b184_81 {d : Nat} {i0 : Nat} {x1 x2 xs0 : Int} {I L : Nat → Nat → Nat → Int} {t : Nat → Nat} : Res d 184 81 [vr 12 i0, vi x1, vi x2] [vi xs0] (mk I L t) = Res d 184 99 [vr 12 i0, vi x1, vi x2] [vi xs0] (mk I L t) :=
  e_goto (q1 := 99) D184_81 rfl
theorem b184_84 {d : Nat} {i0 : Nat} {x1 x2 : Int} {I L : Nat → Nat → Nat → Int} {t : Nat → Nat} : Res d 184 84 [vr 12 i0, vi x1, vi x2] [] (mk I L t) = Res d 184 99 [vr 12 i0, vi x1, vi x2] [vi (w32 ((I 75 i0 1) + (w32 (2 * (I 75 i0 2)))))] (mk I L t) :=
  Eq.trans (e_aload_n D184_84 rfl rfl) <| Eq.trans (e_getP (p := (75, i0)) D184_85 rfl o_184 f_12_96 (sh_12 _) (by decide) (pp_12_51 _ _)) <| Eq.trans (e_iconst (x := 1) D184_88 rfl rfl) <| Eq.trans (e_iald D184_89 rfl (al_75 _) (by decide)) <| Eq.trans (e_iconst (x := 2) D184_90 rfl rfl) <| Eq.trans (e_aload_n D184_91 rfl rfl) <| Eq.trans (e_getP (p := (75, i0)) D184_92 rfl o_184 f_12_96 (sh_12 _) (by decide) (pp_12_51 _ _)) <| Eq.trans (e_iconst (x := 2) D184_95 rfl rfl) <| Eq.trans (e_iald D184_96 rfl (al_75 _) (by decide)) <| Eq.trans (e_imul D184_97 rfl) <| e_iadd D184_98 rfl
theorem b184_99 {d : Nat} {i0 : Nat} {x1 x2 xs0 : Int} {I L : Nat → Nat → Nat → Int} {t : Nat → Nat} : Res (d + 1) 184 99 [vr 12 i0, vi x1, vi x2] [vi xs0] (mk I L t) = (Cal d 182 [vi xs0, vi 0, vi 9999] (mk I L t)).bind fun v => Res (d + 1) 184 106 [vr 12 i0, vi x1, vi x2] (psh 182 v.1 []) v.2 :=
  Eq.trans (e_iconst (x := 0) D184_99 rfl rfl) <| Eq.trans (e_sipush (x := 9999) D184_100 rfl rfl) <| e_callS D184_103 rfl o_184 m_12_415 (by decide) rfl rfl
theorem b184_106 {d : Nat} {i0 : Nat} {x1 x2 xs0 : Int} {I L : Nat → Nat → Nat → Int} {t : Nat → Nat} : Res d 184 106 [vr 12 i0, vi x1, vi x2] [vi xs0] (mk I L t) = some (vi xs0, (mk I L t)) :=
  e_iret D184_106 rfl
theorem b184_107 {d : Nat} {i0 : Nat} {x1 x2 : Int} {I L : Nat → Nat → Nat → Int} {t : Nat → Nat} : Res d 184 107 [vr 12 i0, vi x1, vi x2] [] (mk I L t) = if x2 = 0 then Res d 184 119 [vr 12 i0, vi x1, vi x2] [] (mk I L t) else Res d 184 111 [vr 12 i0, vi x1, vi x2] [] (mk I L t) :=
  Eq.trans (e_iload_n D184_107 rfl rfl) <| e_ifeq D184_108 rfl rfl
theorem b184_111 {d : Nat} {i0 : Nat} {x1 x2 : Int} {I L : Nat → Nat → Nat → Int} {t : Nat → Nat} : Res (d + 1) 184 111 [vr 12 i0, vi x1, vi x2] [] (mk I L t) = (Cal d 183 [vr 12 i0, vi x1] (mk I L t)).bind fun v => Res (d + 1) 184 116 [vr 12 i0, vi x1, vi x2] (psh 183 v.1 []) v.2 :=
  Eq.trans (e_aload_n D184_111 rfl rfl) <| Eq.trans (e_iload_n D184_112 rfl rfl) <| e_callV D184_113 rfl o_184 m_12_412 (by decide) rfl rfl
theorem b184_116 {d : Nat} {i0 : Nat} {x1 x2 xs0 : Int} {I L : Nat → Nat → Nat → Int} {t : Nat → Nat} : Res d 184 116 [vr 12 i0, vi x1, vi x2] [vi xs0] (mk I L t) = Res d 184 121 [vr 12 i0, vi x1, vi x2] [vi xs0] (mk I L t) :=
  e_goto (q1 := 121) D184_116 rfl
theorem b184_119 {d : Nat} {i0 : Nat} {x1 x2 : Int} {I L : Nat → Nat → Nat → Int} {t : Nat → Nat} : Res d 184 119 [vr 12 i0, vi x1, vi x2] [] (mk I L t) = Res d 184 121 [vr 12 i0, vi x1, vi x2] [vi 100] (mk I L t) :=
  e_bipush (x := 100) D184_119 rfl rfl
theorem b184_121 {d : Nat} {i0 : Nat} {x1 x2 xs0 : Int} {I L : Nat → Nat → Nat → Int} {t : Nat → Nat} : Res (d + 1) 184 121 [vr 12 i0, vi x1, vi x2] [vi xs0] (mk I L t) = (Cal d 182 [vi xs0, vi 0, vi 9999] (mk I L t)).bind fun v => Res (d + 1) 184 128 [vr 12 i0, vi x1, vi x2] (psh 182 v.1 []) v.2 :=
  Eq.trans (e_iconst (x := 0) D184_121 rfl rfl) <| Eq.trans (e_sipush (x := 9999) D184_122 rfl rfl) <| e_callS D184_125 rfl o_184 m_12_415 (by decide) rfl rfl
theorem b184_128 {d : Nat} {i0 : Nat} {x1 x2 xs0 : Int} {I L : Nat → Nat → Nat → Int} {t : Nat → Nat} : Res d 184 128 [vr 12 i0, vi x1, vi x2] [vi xs0] (mk I L t) = some (vi xs0, (mk I L t)) :=
  e_iret D184_128 rfl
theorem b184_129 {d : Nat} {i0 : Nat} {x1 x2 : Int} {I L : Nat → Nat → Nat → Int} {t : Nat → Nat} : Res d 184 129 [vr 12 i0, vi x1, vi x2] [] (mk I L t) = if x2 = 0 then Res d 184 141 [vr 12 i0, vi x1, vi x2] [] (mk I L t) else Res d 184 133 [vr 12 i0, vi x1, vi x2] [] (mk I L t) :=
  Eq.trans (e_iload_n D184_129 rfl rfl) <| e_ifeq D184_130 rfl rfl
theorem b184_133 {d : Nat} {i0 : Nat} {x1 x2 : Int} {I L : Nat → Nat → Nat → Int} {t : Nat → Nat} : Res (d + 1) 184 133 [vr 12 i0, vi x1, vi x2] [] (mk I L t) = (Cal d 183 [vr 12 i0, vi x1] (mk I L t)).bind fun v => Res (d + 1) 184 138 [vr 12 i0, vi x1, vi x2] (psh 183 v.1 []) v.2 :=
  Eq.trans (e_aload_n D184_133 rfl rfl) <| Eq.trans (e_iload_n D184_134 rfl rfl) <| e_callV D184_135 rfl o_184 m_12_412 (by decide) rfl rfl
theorem b184_138 {d : Nat} {i0 : Nat} {x1 x2 xs0 : Int} {I L : Nat → Nat → Nat → Int} {t : Nat → Nat} : Res d 184 138 [vr 12 i0, vi x1, vi x2] [vi xs0] (mk I L t) = Res d 184 143 [vr 12 i0, vi x1, vi x2] [vi xs0] (mk I L t) :=
  e_goto (q1 := 143) D184_138 rfl
theorem b184_141 {d : Nat} {i0 : Nat} {x1 x2 : Int} {I L : Nat → Nat → Nat → Int} {t : Nat → Nat} : Res d 184 141 [vr 12 i0, vi x1, vi x2] [] (mk I L t) = Res d 184 143 [vr 12 i0, vi x1, vi x2] [vi 10] (mk I L t) :=
  e_bipush (x := 10) D184_141 rfl rfl
theorem b184_143 {d : Nat} {i0 : Nat} {x1 x2 xs0 : Int} {I L : Nat → Nat → Nat → Int} {t : Nat → Nat} : Res (d + 1) 184 143 [vr 12 i0, vi x1, vi x2] [vi xs0] (mk I L t) = (Cal d 182 [vi xs0, vi 1, vi 9999] (mk I L t)).bind fun v => Res (d + 1) 184 150 [vr 12 i0, vi x1, vi x2] (psh 182 v.1 []) v.2 :=
  Eq.trans (e_iconst (x := 1) D184_143 rfl rfl) <| Eq.trans (e_sipush (x := 9999) D184_144 rfl rfl) <| e_callS D184_147 rfl o_184 m_12_415 (by decide) rfl rfl
theorem b184_150 {d : Nat} {i0 : Nat} {x1 x2 xs0 : Int} {I L : Nat → Nat → Nat → Int} {t : Nat → Nat} : Res d 184 150 [vr 12 i0, vi x1, vi x2] [vi xs0] (mk I L t) = some (vi xs0, (mk I L t)) :=
  e_iret D184_150 rfl
theorem b184_151 {d : Nat} {i0 : Nat} {x1 x2 : Int} {I L : Nat → Nat → Nat → Int} {t : Nat → Nat} : Res d 184 151 [vr 12 i0, vi x1, vi x2] [] (mk I L t) = if x2 = 0 then Res d 184 163 [vr 12 i0, vi x1, vi x2] [] (mk I L t) else Res d 184 155 [vr 12 i0, vi x1, vi x2] [] (mk I L t) :=
  Eq.trans (e_iload_n D184_151 rfl rfl) <| e_ifeq D184_152 rfl rfl
theorem b184_155 {d : Nat} {i0 : Nat} {x1 x2 : Int} {I L : Nat → Nat → Nat → Int} {t : Nat → Nat} : Res (d + 1) 184 155 [vr 12 i0, vi x1, vi x2] [] (mk I L t) = (Cal d 183 [vr 12 i0, vi x1] (mk I L t)).bind fun v => Res (d + 1) 184 160 [vr 12 i0, vi x1, vi x2] (psh 183 v.1 []) v.2 :=
  Eq.trans (e_aload_n D184_155 rfl rfl) <| Eq.trans (e_iload_n D184_156 rfl rfl) <| e_callV D184_157 rfl o_184 m_12_412 (by decide) rfl rfl
theorem b184_160 {d : Nat} {i0 : Nat} {x1 x2 xs0 : Int} {I L : Nat → Nat → Nat → Int} {t : Nat → Nat} : Res d 184 160 [vr 12 i0, vi x1, vi x2] [vi xs0] (mk I L t) = Res d 184 164 [vr 12 i0, vi x1, vi x2] [vi xs0] (mk I L t) :=
  e_goto (q1 := 164) D184_160 rfl
theorem b184_163 {d : Nat} {i0 : Nat} {x1 x2 : Int} {I L : Nat → Nat → Nat → Int} {t : Nat → Nat} : Res d 184 163 [vr 12 i0, vi x1, vi x2] [] (mk I L t) = Res d 184 164 [vr 12 i0, vi x1, vi x2] [vi 0] (mk I L t) :=
  e_iconst (x := 0) D184_163 rfl rfl
theorem b184_164 {d : Nat} {i0 : Nat} {x1 x2 xs0 : Int} {I L : Nat → Nat → Nat → Int} {t : Nat → Nat} : Res (d + 1) 184 164 [vr 12 i0, vi x1, vi x2] [vi xs0] (mk I L t) = (Cal d 182 [vi xs0, vi 0, vi 15] (mk I L t)).bind fun v => Res (d + 1) 184 170 [vr 12 i0, vi x1, vi x2] (psh 182 v.1 []) v.2 :=
  Eq.trans (e_iconst (x := 0) D184_164 rfl rfl) <| Eq.trans (e_bipush (x := 15) D184_165 rfl rfl) <| e_callS D184_167 rfl o_184 m_12_415 (by decide) rfl rfl
theorem b184_170 {d : Nat} {i0 : Nat} {x1 x2 xs0 : Int} {I L : Nat → Nat → Nat → Int} {t : Nat → Nat} : Res d 184 170 [vr 12 i0, vi x1, vi x2] [vi xs0] (mk I L t) = some (vi xs0, (mk I L t)) :=
  e_iret D184_170 rfl
theorem b184_171 {d : Nat} {i0 : Nat} {x1 x2 : Int} {I L : Nat → Nat → Nat → Int} {t : Nat → Nat} : Res d 184 171 [vr 12 i0, vi x1, vi x2] [] (mk I L t) = if x2 = 0 then Res d 184 183 [vr 12 i0, vi x1, vi x2] [] (mk I L t) else Res d 184 175 [vr 12 i0, vi x1, vi x2] [] (mk I L t) :=
  Eq.trans (e_iload_n D184_171 rfl rfl) <| e_ifeq D184_172 rfl rfl
theorem b184_175 {d : Nat} {i0 : Nat} {x1 x2 : Int} {I L : Nat → Nat → Nat → Int} {t : Nat → Nat} : Res (d + 1) 184 175 [vr 12 i0, vi x1, vi x2] [] (mk I L t) = (Cal d 183 [vr 12 i0, vi x1] (mk I L t)).bind fun v => Res (d + 1) 184 180 [vr 12 i0, vi x1, vi x2] (psh 183 v.1 []) v.2 :=
  Eq.trans (e_aload_n D184_175 rfl rfl) <| Eq.trans (e_iload_n D184_176 rfl rfl) <| e_callV D184_177 rfl o_184 m_12_412 (by decide) rfl rfl
theorem b184_180 {d : Nat} {i0 : Nat} {x1 x2 xs0 : Int} {I L : Nat → Nat → Nat → Int} {t : Nat → Nat} : Res d 184 180 [vr 12 i0, vi x1, vi x2] [vi xs0] (mk I L t) = Res d 184 195 [vr 12 i0, vi x1, vi x2] [vi xs0] (mk I L t) :=
  e_goto (q1 := 195) D184_180 rfl
theorem b184_183 {d : Nat} {i0 : Nat} {x1 x2 : Int} {I L : Nat → Nat → Nat → Int} {t : Nat → Nat} : Res d 184 183 [vr 12 i0, vi x1, vi x2] [] (mk I L t) = if ¬ x1 = 6 then Res d 184 194 [vr 12 i0, vi x1, vi x2] [] (mk I L t) else Res d 184 189 [vr 12 i0, vi x1, vi x2] [] (mk I L t) :=
  Eq.trans (e_iload_n D184_183 rfl rfl) <| Eq.trans (e_bipush (x := 6) D184_184 rfl rfl) <| e_icne D184_186 rfl rfl
theorem b184_189 {d : Nat} {i0 : Nat} {x1 x2 : Int} {I L : Nat → Nat → Nat → Int} {t : Nat → Nat} : Res d 184 189 [vr 12 i0, vi x1, vi x2] [] (mk I L t) = Res d 184 195 [vr 12 i0, vi x1, vi x2] [vi 50] (mk I L t) :=
  Eq.trans (e_bipush (x := 50) D184_189 rfl rfl) <| e_goto (q1 := 195) D184_191 rfl
theorem b184_194 {d : Nat} {i0 : Nat} {x1 x2 : Int} {I L : Nat → Nat → Nat → Int} {t : Nat → Nat} : Res d 184 194 [vr 12 i0, vi x1, vi x2] [] (mk I L t) = Res d 184 195 [vr 12 i0, vi x1, vi x2] [vi 0] (mk I L t) :=
  e_iconst (x := 0) D184_194 rfl rfl
theorem b184_195 {d : Nat} {i0 : Nat} {x1 x2 xs0 : Int} {I L : Nat → Nat → Nat → Int} {t : Nat → Nat} : Res (d + 1) 184 195 [vr 12 i0, vi x1, vi x2] [vi xs0] (mk I L t) = (Cal d 182 [vi xs0, vi 0, vi 100] (mk I L t)).bind fun v => Res (d + 1) 184 201 [vr 12 i0, vi x1, vi x2] (psh 182 v.1 []) v.2 :=
  Eq.trans (e_iconst (x := 0) D184_195 rfl rfl) <| Eq.trans (e_bipush (x := 100) D184_196 rfl rfl) <| e_callS D184_198 rfl o_184 m_12_415 (by decide) rfl rfl
theorem b184_201 {d : Nat} {i0 : Nat} {x1 x2 xs0 : Int} {I L : Nat → Nat → Nat → Int} {t : Nat → Nat} : Res d 184 201 [vr 12 i0, vi x1, vi x2] [vi xs0] (mk I L t) = some (vi xs0, (mk I L t)) :=
  e_iret D184_201 rfl
/-! m_holdsNone -/
theorem cc_185 : cod 185 = cX12_holdsNone := rfl
theorem D185_0 : decode (cod 185) 0 = .ok (.aload_n 0, 1) := by rw [cc_185]; decide +kernel
theorem D185_1 : decode (cod 185) 1 = .ok (.getfield 96, 3) := by rw [cc_185]; decide +kernel
theorem D185_4 : decode (cod 185) 4 = .ok (.iconst 1, 1) := by rw [cc_185]; decide +kernel
theorem D185_5 : decode (cod 185) 5 = .ok (.iconst 0, 1) := by rw [cc_185]; decide +kernel
theorem D185_6 : decode (cod 185) 6 = .ok (.iastore, 1) := by rw [cc_185]; decide +kernel
theorem D185_7 : decode (cod 185) 7 = .ok (.aload_n 0, 1) := by rw [cc_185]; decide +kernel
theorem D185_8 : decode (cod 185) 8 = .ok (.getfield 96, 3) := by rw [cc_185]; decide +kernel
theorem D185_11 : decode (cod 185) 11 = .ok (.iconst 2, 1) := by rw [cc_185]; decide +kernel
theorem D185_12 : decode (cod 185) 12 = .ok (.iconst 0, 1) := by rw [cc_185]; decide +kernel
theorem D185_13 : decode (cod 185) 13 = .ok (.iastore, 1) := by rw [cc_185]; decide +kernel
theorem D185_14 : decode (cod 185) 14 = .ok (.aload_n 0, 1) := by rw [cc_185]; decide +kernel
theorem D185_15 : decode (cod 185) 15 = .ok (.getfield 96, 3) := by rw [cc_185]; decide +kernel
theorem D185_18 : decode (cod 185) 18 = .ok (.iconst 3, 1) := by rw [cc_185]; decide +kernel
theorem D185_19 : decode (cod 185) 19 = .ok (.iconst 0, 1) := by rw [cc_185]; decide +kernel
theorem D185_20 : decode (cod 185) 20 = .ok (.iastore, 1) := by rw [cc_185]; decide +kernel
theorem D185_21 : decode (cod 185) 21 = .ok (.aload_n 0, 1) := by rw [cc_185]; decide +kernel
theorem D185_22 : decode (cod 185) 22 = .ok (.getfield 96, 3) := by rw [cc_185]; decide +kernel
theorem D185_25 : decode (cod 185) 25 = .ok (.bipush 8, 2) := by rw [cc_185]; decide +kernel
theorem D185_27 : decode (cod 185) 27 = .ok (.iconst 0, 1) := by rw [cc_185]; decide +kernel
theorem D185_28 : decode (cod 185) 28 = .ok (.iastore, 1) := by rw [cc_185]; decide +kernel
theorem D185_29 : decode (cod 185) 29 = .ok (.aload_n 0, 1) := by rw [cc_185]; decide +kernel
theorem D185_30 : decode (cod 185) 30 = .ok (.getfield 96, 3) := by rw [cc_185]; decide +kernel
theorem D185_33 : decode (cod 185) 33 = .ok (.bipush 9, 2) := by rw [cc_185]; decide +kernel
theorem D185_35 : decode (cod 185) 35 = .ok (.iconst 0, 1) := by rw [cc_185]; decide +kernel
theorem D185_36 : decode (cod 185) 36 = .ok (.iastore, 1) := by rw [cc_185]; decide +kernel
theorem D185_37 : decode (cod 185) 37 = .ok (.return_, 1) := by rw [cc_185]; decide +kernel
theorem b185_0 {d : Nat} {i0 : Nat} {I L : Nat → Nat → Nat → Int} {t : Nat → Nat} : Res d 185 0 [vr 12 i0] [] (mk I L t) = some (vx, (mk (up3 (up3 (up3 (up3 (up3 I 75 i0 1 0) 75 i0 2 0) 75 i0 3 0) 75 i0 8 0) 75 i0 9 0) L t)) :=
  Eq.trans (e_aload_n D185_0 rfl rfl) <| Eq.trans (e_getP (p := (75, i0)) D185_1 rfl o_185 f_12_96 (sh_12 _) (by decide) (pp_12_51 _ _)) <| Eq.trans (e_iconst (x := 1) D185_4 rfl rfl) <| Eq.trans (e_iconst (x := 0) D185_5 rfl rfl) <| Eq.trans (e_iast D185_6 rfl (al_75 _) rfl (by decide)) <| Eq.trans (e_aload_n D185_7 rfl rfl) <| Eq.trans (e_getP (p := (75, i0)) D185_8 rfl o_185 f_12_96 (sh_12 _) (by decide) (pp_12_51 _ _)) <| Eq.trans (e_iconst (x := 2) D185_11 rfl rfl) <| Eq.trans (e_iconst (x := 0) D185_12 rfl rfl) <| Eq.trans (e_iast D185_13 rfl (al_75 _) rfl (by decide)) <| Eq.trans (e_aload_n D185_14 rfl rfl) <| Eq.trans (e_getP (p := (75, i0)) D185_15 rfl o_185 f_12_96 (sh_12 _) (by decide) (pp_12_51 _ _)) <| Eq.trans (e_iconst (x := 3) D185_18 rfl rfl) <| Eq.trans (e_iconst (x := 0) D185_19 rfl rfl) <| Eq.trans (e_iast D185_20 rfl (al_75 _) rfl (by decide)) <| Eq.trans (e_aload_n D185_21 rfl rfl) <| Eq.trans (e_getP (p := (75, i0)) D185_22 rfl o_185 f_12_96 (sh_12 _) (by decide) (pp_12_51 _ _)) <| Eq.trans (e_bipush (x := 8) D185_25 rfl rfl) <| Eq.trans (e_iconst (x := 0) D185_27 rfl rfl) <| Eq.trans (e_iast D185_28 rfl (al_75 _) rfl (by decide)) <| Eq.trans (e_aload_n D185_29 rfl rfl) <| Eq.trans (e_getP (p := (75, i0)) D185_30 rfl o_185 f_12_96 (sh_12 _) (by decide) (pp_12_51 _ _)) <| Eq.trans (e_bipush (x := 9) D185_33 rfl rfl) <| Eq.trans (e_iconst (x := 0) D185_35 rfl rfl) <| Eq.trans (e_iast D185_36 rfl (al_75 _) rfl (by decide)) <| e_vret D185_37 rfl
/-! m_apart -/
theorem cc_186 : cod 186 = cX12_apart := rfl
theorem D186_0 : decode (cod 186) 0 = .ok (.iload_n 0, 1) := by rw [cc_186]; decide +kernel
theorem D186_1 : decode (cod 186) 1 = .ok (.iload_n 1, 1) := by rw [cc_186]; decide +kernel
theorem D186_2 : decode (cod 186) 2 = .ok (.if_icmp .le 9, 3) := by rw [cc_186]; decide +kernel
theorem D186_5 : decode (cod 186) 5 = .ok (.iload_n 0, 1) := by rw [cc_186]; decide +kernel
theorem D186_6 : decode (cod 186) 6 = .ok (.iload_n 1, 1) := by rw [cc_186]; decide +kernel
theorem D186_7 : decode (cod 186) 7 = .ok (.isub, 1) := by rw [cc_186]; decide +kernel
theorem D186_8 : decode (cod 186) 8 = .ok (.goto 6, 3) := by rw [cc_186]; decide +kernel
theorem D186_11 : decode (cod 186) 11 = .ok (.iload_n 1, 1) := by rw [cc_186]; decide +kernel
theorem D186_12 : decode (cod 186) 12 = .ok (.iload_n 0, 1) := by rw [cc_186]; decide +kernel
theorem D186_13 : decode (cod 186) 13 = .ok (.isub, 1) := by rw [cc_186]; decide +kernel
theorem D186_14 : decode (cod 186) 14 = .ok (.ireturn, 1) := by rw [cc_186]; decide +kernel
theorem b186_0 {d : Nat} {x0 x1 : Int} {I L : Nat → Nat → Nat → Int} {t : Nat → Nat} : Res d 186 0 [vi x0, vi x1] [] (mk I L t) = if x0 ≤ x1 then Res d 186 11 [vi x0, vi x1] [] (mk I L t) else Res d 186 5 [vi x0, vi x1] [] (mk I L t) :=
  Eq.trans (e_iload_n D186_0 rfl rfl) <| Eq.trans (e_iload_n D186_1 rfl rfl) <| e_icle D186_2 rfl rfl
theorem b186_5 {d : Nat} {x0 x1 : Int} {I L : Nat → Nat → Nat → Int} {t : Nat → Nat} : Res d 186 5 [vi x0, vi x1] [] (mk I L t) = Res d 186 14 [vi x0, vi x1] [vi (w32 (x0 - x1))] (mk I L t) :=
  Eq.trans (e_iload_n D186_5 rfl rfl) <| Eq.trans (e_iload_n D186_6 rfl rfl) <| Eq.trans (e_isub D186_7 rfl) <| e_goto (q1 := 14) D186_8 rfl
theorem b186_11 {d : Nat} {x0 x1 : Int} {I L : Nat → Nat → Nat → Int} {t : Nat → Nat} : Res d 186 11 [vi x0, vi x1] [] (mk I L t) = Res d 186 14 [vi x0, vi x1] [vi (w32 (x1 - x0))] (mk I L t) :=
  Eq.trans (e_iload_n D186_11 rfl rfl) <| Eq.trans (e_iload_n D186_12 rfl rfl) <| e_isub D186_13 rfl
theorem b186_14 {d : Nat} {x0 x1 xs0 : Int} {I L : Nat → Nat → Nat → Int} {t : Nat → Nat} : Res d 186 14 [vi x0, vi x1] [vi xs0] (mk I L t) = some (vi xs0, (mk I L t)) :=
  e_iret D186_14 rfl
/-! m_holds -/
theorem cc_187 : cod 187 = cX12_holds := rfl
theorem D187_0 : decode (cod 187) 0 = .ok (.aload_n 0, 1) := by rw [cc_187]; decide +kernel
theorem D187_1 : decode (cod 187) 1 = .ok (.invokevirtual 419, 3) := by rw [cc_187]; decide +kernel
theorem D187_4 : decode (cod 187) 4 = .ok (.iconst 0, 1) := by rw [cc_187]; decide +kernel
theorem D187_5 : decode (cod 187) 5 = .ok (.istore_n 2, 1) := by rw [cc_187]; decide +kernel
theorem D187_6 : decode (cod 187) 6 = .ok (.iload_n 2, 1) := by rw [cc_187]; decide +kernel
theorem D187_7 : decode (cod 187) 7 = .ok (.bipush 16, 2) := by rw [cc_187]; decide +kernel
theorem D187_9 : decode (cod 187) 9 = .ok (.if_icmp .ge 48, 3) := by rw [cc_187]; decide +kernel
theorem D187_12 : decode (cod 187) 12 = .ok (.aload_n 0, 1) := by rw [cc_187]; decide +kernel
theorem D187_13 : decode (cod 187) 13 = .ok (.getfield 96, 3) := by rw [cc_187]; decide +kernel
theorem D187_16 : decode (cod 187) 16 = .ok (.iload_n 2, 1) := by rw [cc_187]; decide +kernel
theorem D187_17 : decode (cod 187) 17 = .ok (.bipush 12, 2) := by rw [cc_187]; decide +kernel
theorem D187_19 : decode (cod 187) 19 = .ok (.if_icmp .ge 7, 3) := by rw [cc_187]; decide +kernel
theorem D187_22 : decode (cod 187) 22 = .ok (.iconst 1, 1) := by rw [cc_187]; decide +kernel
theorem D187_23 : decode (cod 187) 23 = .ok (.goto 4, 3) := by rw [cc_187]; decide +kernel
theorem D187_26 : decode (cod 187) 26 = .ok (.iconst 2, 1) := by rw [cc_187]; decide +kernel
theorem D187_27 : decode (cod 187) 27 = .ok (.dup2, 1) := by rw [cc_187]; decide +kernel
theorem D187_28 : decode (cod 187) 28 = .ok (.iaload, 1) := by rw [cc_187]; decide +kernel
theorem D187_29 : decode (cod 187) 29 = .ok (.aload_n 0, 1) := by rw [cc_187]; decide +kernel
theorem D187_30 : decode (cod 187) 30 = .ok (.getfield 7, 3) := by rw [cc_187]; decide +kernel
theorem D187_33 : decode (cod 187) 33 = .ok (.bipush 16, 2) := by rw [cc_187]; decide +kernel
theorem D187_35 : decode (cod 187) 35 = .ok (.iload_n 1, 1) := by rw [cc_187]; decide +kernel
theorem D187_36 : decode (cod 187) 36 = .ok (.imul, 1) := by rw [cc_187]; decide +kernel
theorem D187_37 : decode (cod 187) 37 = .ok (.iload_n 2, 1) := by rw [cc_187]; decide +kernel
theorem D187_38 : decode (cod 187) 38 = .ok (.iadd, 1) := by rw [cc_187]; decide +kernel
theorem D187_39 : decode (cod 187) 39 = .ok (.iaload, 1) := by rw [cc_187]; decide +kernel
theorem D187_40 : decode (cod 187) 40 = .ok (.aload_n 0, 1) := by rw [cc_187]; decide +kernel
theorem D187_41 : decode (cod 187) 41 = .ok (.getfield 99, 3) := by rw [cc_187]; decide +kernel
theorem D187_44 : decode (cod 187) 44 = .ok (.iload_n 2, 1) := by rw [cc_187]; decide +kernel
theorem D187_45 : decode (cod 187) 45 = .ok (.iaload, 1) := by rw [cc_187]; decide +kernel
theorem D187_46 : decode (cod 187) 46 = .ok (.invokestatic 422, 3) := by rw [cc_187]; decide +kernel
theorem D187_49 : decode (cod 187) 49 = .ok (.iadd, 1) := by rw [cc_187]; decide +kernel
theorem D187_50 : decode (cod 187) 50 = .ok (.iastore, 1) := by rw [cc_187]; decide +kernel
theorem D187_51 : decode (cod 187) 51 = .ok (.iinc 2 1, 3) := by rw [cc_187]; decide +kernel
theorem D187_54 : decode (cod 187) 54 = .ok (.goto (-48), 3) := by rw [cc_187]; decide +kernel
theorem D187_57 : decode (cod 187) 57 = .ok (.aload_n 0, 1) := by rw [cc_187]; decide +kernel
theorem D187_58 : decode (cod 187) 58 = .ok (.getfield 96, 3) := by rw [cc_187]; decide +kernel
theorem D187_61 : decode (cod 187) 61 = .ok (.iconst 3, 1) := by rw [cc_187]; decide +kernel
theorem D187_62 : decode (cod 187) 62 = .ok (.aload_n 0, 1) := by rw [cc_187]; decide +kernel
theorem D187_63 : decode (cod 187) 63 = .ok (.getfield 13, 3) := by rw [cc_187]; decide +kernel
theorem D187_66 : decode (cod 187) 66 = .ok (.iload_n 1, 1) := by rw [cc_187]; decide +kernel
theorem D187_67 : decode (cod 187) 67 = .ok (.iaload, 1) := by rw [cc_187]; decide +kernel
theorem D187_68 : decode (cod 187) 68 = .ok (.aload_n 0, 1) := by rw [cc_187]; decide +kernel
theorem D187_69 : decode (cod 187) 69 = .ok (.getfield 426, 3) := by rw [cc_187]; decide +kernel
theorem D187_72 : decode (cod 187) 72 = .ok (.if_icmp .ne 7, 3) := by rw [cc_187]; decide +kernel
theorem D187_75 : decode (cod 187) 75 = .ok (.iconst 1, 1) := by rw [cc_187]; decide +kernel
theorem D187_76 : decode (cod 187) 76 = .ok (.goto 4, 3) := by rw [cc_187]; decide +kernel
theorem D187_79 : decode (cod 187) 79 = .ok (.iconst 0, 1) := by rw [cc_187]; decide +kernel
theorem D187_80 : decode (cod 187) 80 = .ok (.iastore, 1) := by rw [cc_187]; decide +kernel
theorem D187_81 : decode (cod 187) 81 = .ok (.return_, 1) := by rw [cc_187]; decide +kernel
theorem b187_0 {d : Nat} {i0 : Nat} {x1 : Int} {I L : Nat → Nat → Nat → Int} {t : Nat → Nat} : Res (d + 1) 187 0 [vr 12 i0, vi x1, vx] [] (mk I L t) = (Cal d 185 [vr 12 i0] (mk I L t)).bind fun v => Res (d + 1) 187 4 [vr 12 i0, vi x1, vx] (psh 185 v.1 []) v.2 :=
  Eq.trans (e_aload_n D187_0 rfl rfl) <| e_callV D187_1 rfl o_187 m_12_419 (by decide) rfl rfl
theorem b187_4 {d : Nat} {i0 : Nat} {x1 : Int} {I L : Nat → Nat → Nat → Int} {t : Nat → Nat} : Res d 187 4 [vr 12 i0, vi x1, vx] [] (mk I L t) = Res d 187 6 [vr 12 i0, vi x1, vi 0] [] (mk I L t) :=
  Eq.trans (e_iconst (x := 0) D187_4 rfl rfl) <| e_istore_n (ls1 := [vr 12 i0, vi x1, vi 0]) D187_5 rfl (show 2 < 3 by decide) rfl
theorem b187_6 {d : Nat} {i0 : Nat} {x1 x2 : Int} {I L : Nat → Nat → Nat → Int} {t : Nat → Nat} : Res d 187 6 [vr 12 i0, vi x1, vi x2] [] (mk I L t) = if 16 ≤ x2 then Res d 187 57 [vr 12 i0, vi x1, vi x2] [] (mk I L t) else Res d 187 12 [vr 12 i0, vi x1, vi x2] [] (mk I L t) :=
  Eq.trans (e_iload_n D187_6 rfl rfl) <| Eq.trans (e_bipush (x := 16) D187_7 rfl rfl) <| e_icge D187_9 rfl rfl
theorem b187_12 {d : Nat} {i0 : Nat} {x1 x2 : Int} {I L : Nat → Nat → Nat → Int} {t : Nat → Nat} : Res d 187 12 [vr 12 i0, vi x1, vi x2] [] (mk I L t) = if 12 ≤ x2 then Res d 187 26 [vr 12 i0, vi x1, vi x2] [vr 75 i0] (mk I L t) else Res d 187 22 [vr 12 i0, vi x1, vi x2] [vr 75 i0] (mk I L t) :=
  Eq.trans (e_aload_n D187_12 rfl rfl) <| Eq.trans (e_getP (p := (75, i0)) D187_13 rfl o_187 f_12_96 (sh_12 _) (by decide) (pp_12_51 _ _)) <| Eq.trans (e_iload_n D187_16 rfl rfl) <| Eq.trans (e_bipush (x := 12) D187_17 rfl rfl) <| e_icge D187_19 rfl rfl
theorem b187_22 {d : Nat} {i0 is0 : Nat} {x1 x2 : Int} {I L : Nat → Nat → Nat → Int} {t : Nat → Nat} : Res d 187 22 [vr 12 i0, vi x1, vi x2] [vr 75 is0] (mk I L t) = Res d 187 27 [vr 12 i0, vi x1, vi x2] [vi 1, vr 75 is0] (mk I L t) :=
  Eq.trans (e_iconst (x := 1) D187_22 rfl rfl) <| e_goto (q1 := 27) D187_23 rfl
theorem b187_26 {d : Nat} {i0 is0 : Nat} {x1 x2 : Int} {I L : Nat → Nat → Nat → Int} {t : Nat → Nat} : Res d 187 26 [vr 12 i0, vi x1, vi x2] [vr 75 is0] (mk I L t) = Res d 187 27 [vr 12 i0, vi x1, vi x2] [vi 2, vr 75 is0] (mk I L t) :=
  e_iconst (x := 2) D187_26 rfl rfl
theorem b187_27 {d : Nat} {i0 is0 : Nat} {x1 x2 xs1 : Int} {I L : Nat → Nat → Nat → Int} {t : Nat → Nat} (g1 : 0 ≤ xs1 ∧ xs1 < 11) (g2 : 0 ≤ w32 ((w32 (16 * x1)) + x2) ∧ w32 ((w32 (16 * x1)) + x2) < 2112) (g3 : 0 ≤ x2 ∧ x2 < 16) : Res (d + 1) 187 27 [vr 12 i0, vi x1, vi x2] [vi xs1, vr 75 is0] (mk I L t) = (Cal d 186 [vi (I 48 i0 (w32 ((w32 (16 * x1)) + x2)).toNat), vi (I 76 i0 x2.toNat)] (mk I L t)).bind fun v => Res (d + 1) 187 49 [vr 12 i0, vi x1, vi x2] (psh 186 v.1 [vi (I 75 is0 xs1.toNat), vi xs1, vr 75 is0]) v.2 :=
  Eq.trans (e_dup2 D187_27 rfl) <| Eq.trans (e_iald D187_28 rfl (al_75 _) g1) <| Eq.trans (e_aload_n D187_29 rfl rfl) <| Eq.trans (e_getP (p := (48, i0)) D187_30 rfl o_187 f_12_7 (sh_12 _) (by decide) (pp_12_5 _ _)) <| Eq.trans (e_bipush (x := 16) D187_33 rfl rfl) <| Eq.trans (e_iload_n D187_35 rfl rfl) <| Eq.trans (e_imul D187_36 rfl) <| Eq.trans (e_iload_n D187_37 rfl rfl) <| Eq.trans (e_iadd D187_38 rfl) <| Eq.trans (e_iald D187_39 rfl (al_48 _) g2) <| Eq.trans (e_aload_n D187_40 rfl rfl) <| Eq.trans (e_getP (p := (76, i0)) D187_41 rfl o_187 f_12_99 (sh_12 _) (by decide) (pp_12_52 _ _)) <| Eq.trans (e_iload_n D187_44 rfl rfl) <| Eq.trans (e_iald D187_45 rfl (al_76 _) g3) <| e_callS D187_46 rfl o_187 m_12_422 (by decide) rfl rfl
theorem b187_49 {d : Nat} {i0 is0 : Nat} {x1 x2 xs3 xs2 xs1 : Int} {I L : Nat → Nat → Nat → Int} {t : Nat → Nat} (g1 : 0 ≤ xs1 ∧ xs1 < 11) : Res d 187 49 [vr 12 i0, vi x1, vi x2] [vi xs3, vi xs2, vi xs1, vr 75 is0] (mk I L t) = Res d 187 6 [vr 12 i0, vi x1, vi (w32 (x2 + 1))] [] (mk (up3 I 75 is0 xs1.toNat (w32 (xs2 + xs3))) L t) :=
  Eq.trans (e_iadd D187_49 rfl) <| Eq.trans (e_iast D187_50 rfl (al_75 _) rfl g1) <| Eq.trans (e_iinc (ls1 := [vr 12 i0, vi x1, vi (w32 (x2 + 1))]) D187_51 rfl rfl rfl) <| e_goto (q1 := 6) D187_54 rfl
theorem b187_57 {d : Nat} {i0 : Nat} {x1 x2 : Int} {I L : Nat → Nat → Nat → Int} {t : Nat → Nat} (g1 : 0 ≤ x1 ∧ x1 < 132) : Res d 187 57 [vr 12 i0, vi x1, vi x2] [] (mk I L t) = if ¬ I 49 i0 x1.toNat = I 12 i0 55 then Res d 187 79 [vr 12 i0, vi x1, vi x2] [vi 3, vr 75 i0] (mk I L t) else Res d 187 75 [vr 12 i0, vi x1, vi x2] [vi 3, vr 75 i0] (mk I L t) :=
  Eq.trans (e_aload_n D187_57 rfl rfl) <| Eq.trans (e_getP (p := (75, i0)) D187_58 rfl o_187 f_12_96 (sh_12 _) (by decide) (pp_12_51 _ _)) <| Eq.trans (e_iconst (x := 3) D187_61 rfl rfl) <| Eq.trans (e_aload_n D187_62 rfl rfl) <| Eq.trans (e_getP (p := (49, i0)) D187_63 rfl o_187 f_12_13 (sh_12 _) (by decide) (pp_12_6 _ _)) <| Eq.trans (e_iload_n D187_66 rfl rfl) <| Eq.trans (e_iald D187_67 rfl (al_49 _) g1) <| Eq.trans (e_aload_n D187_68 rfl rfl) <| Eq.trans (e_getI D187_69 rfl o_187 f_12_426 (sh_12 _) (by decide)) <| e_icne D187_72 rfl rfl
theorem b187_75 {d : Nat} {i0 is0 : Nat} {x1 x2 xs1 : Int} {I L : Nat → Nat → Nat → Int} {t : Nat → Nat} : Res d 187 75 [vr 12 i0, vi x1, vi x2] [vi xs1, vr 75 is0] (mk I L t) = Res d 187 80 [vr 12 i0, vi x1, vi x2] [vi 1, vi xs1, vr 75 is0] (mk I L t) :=
  Eq.trans (e_iconst (x := 1) D187_75 rfl rfl) <| e_goto (q1 := 80) D187_76 rfl
theorem b187_79 {d : Nat} {i0 is0 : Nat} {x1 x2 xs1 : Int} {I L : Nat → Nat → Nat → Int} {t : Nat → Nat} : Res d 187 79 [vr 12 i0, vi x1, vi x2] [vi xs1, vr 75 is0] (mk I L t) = Res d 187 80 [vr 12 i0, vi x1, vi x2] [vi 0, vi xs1, vr 75 is0] (mk I L t) :=
  e_iconst (x := 0) D187_79 rfl rfl
theorem b187_80 {d : Nat} {i0 is0 : Nat} {x1 x2 xs2 xs1 : Int} {I L : Nat → Nat → Nat → Int} {t : Nat → Nat} (g1 : 0 ≤ xs1 ∧ xs1 < 11) : Res d 187 80 [vr 12 i0, vi x1, vi x2] [vi xs2, vi xs1, vr 75 is0] (mk I L t) = some (vx, (mk (up3 I 75 is0 xs1.toNat xs2) L t)) :=
  Eq.trans (e_iast D187_80 rfl (al_75 _) rfl g1) <| e_vret D187_81 rfl
/-! m_farOf -/
theorem cc_188 : cod 188 = cX12_farOf := rfl
theorem D188_0 : decode (cod 188) 0 = .ok (.aload_n 0, 1) := by rw [cc_188]; decide +kernel
theorem D188_1 : decode (cod 188) 1 = .ok (.iload_n 1, 1) := by rw [cc_188]; decide +kernel
theorem D188_2 : decode (cod 188) 2 = .ok (.invokevirtual 429, 3) := by rw [cc_188]; decide +kernel
theorem D188_5 : decode (cod 188) 5 = .ok (.aload_n 0, 1) := by rw [cc_188]; decide +kernel
theorem D188_6 : decode (cod 188) 6 = .ok (.iconst 0, 1) := by rw [cc_188]; decide +kernel
theorem D188_7 : decode (cod 188) 7 = .ok (.invokevirtual 432, 3) := by rw [cc_188]; decide +kernel
theorem D188_10 : decode (cod 188) 10 = .ok (.istore_n 2, 1) := by rw [cc_188]; decide +kernel
theorem D188_11 : decode (cod 188) 11 = .ok (.aload_n 0, 1) := by rw [cc_188]; decide +kernel
theorem D188_12 : decode (cod 188) 12 = .ok (.invokevirtual 419, 3) := by rw [cc_188]; decide +kernel
theorem D188_15 : decode (cod 188) 15 = .ok (.iload_n 2, 1) := by rw [cc_188]; decide +kernel
theorem D188_16 : decode (cod 188) 16 = .ok (.ireturn, 1) := by rw [cc_188]; decide +kernel
theorem b188_0 {d : Nat} {i0 : Nat} {x1 : Int} {I L : Nat → Nat → Nat → Int} {t : Nat → Nat} : Res (d + 1) 188 0 [vr 12 i0, vi x1, vx] [] (mk I L t) = (Cal d 187 [vr 12 i0, vi x1] (mk I L t)).bind fun v => Res (d + 1) 188 5 [vr 12 i0, vi x1, vx] (psh 187 v.1 []) v.2 :=
  Eq.trans (e_aload_n D188_0 rfl rfl) <| Eq.trans (e_iload_n D188_1 rfl rfl) <| e_callV D188_2 rfl o_188 m_12_429 (by decide) rfl rfl
theorem b188_5 {d : Nat} {i0 : Nat} {x1 : Int} {I L : Nat → Nat → Nat → Int} {t : Nat → Nat} : Res (d + 1) 188 5 [vr 12 i0, vi x1, vx] [] (mk I L t) = (Cal d 184 [vr 12 i0, vi 0] (mk I L t)).bind fun v => Res (d + 1) 188 10 [vr 12 i0, vi x1, vx] (psh 184 v.1 []) v.2 :=
  Eq.trans (e_aload_n D188_5 rfl rfl) <| Eq.trans (e_iconst (x := 0) D188_6 rfl rfl) <| e_callV D188_7 rfl o_188 m_12_432 (by decide) rfl rfl
theorem b188_10 {d : Nat} {i0 : Nat} {x1 xs0 : Int} {I L : Nat → Nat → Nat → Int} {t : Nat → Nat} : Res (d + 1) 188 10 [vr 12 i0, vi x1, vx] [vi xs0] (mk I L t) = (Cal d 185 [vr 12 i0] (mk I L t)).bind fun v => Res (d + 1) 188 15 [vr 12 i0, vi x1, vi xs0] (psh 185 v.1 []) v.2 :=
  Eq.trans (e_istore_n (ls1 := [vr 12 i0, vi x1, vi xs0]) D188_10 rfl (show 2 < 3 by decide) rfl) <| Eq.trans (e_aload_n D188_11 rfl rfl) <| e_callV D188_12 rfl o_188 m_12_419 (by decide) rfl rfl
theorem b188_15 {d : Nat} {i0 : Nat} {x1 x2 : Int} {I L : Nat → Nat → Nat → Int} {t : Nat → Nat} : Res d 188 15 [vr 12 i0, vi x1, vi x2] [] (mk I L t) = some (vi x2, (mk I L t)) :=
  Eq.trans (e_iload_n D188_15 rfl rfl) <| e_iret D188_16 rfl
/-! m_blurred -/
theorem cc_189 : cod 189 = cX12_blurred := rfl
theorem D189_0 : decode (cod 189) 0 = .ok (.iload_n 0, 1) := by rw [cc_189]; decide +kernel
theorem D189_1 : decode (cod 189) 1 = .ok (.iload_n 1, 1) := by rw [cc_189]; decide +kernel
theorem D189_2 : decode (cod 189) 2 = .ok (.iconst 1, 1) := by rw [cc_189]; decide +kernel
theorem D189_3 : decode (cod 189) 3 = .ok (.iadd, 1) := by rw [cc_189]; decide +kernel
theorem D189_4 : decode (cod 189) 4 = .ok (.idiv, 1) := by rw [cc_189]; decide +kernel
theorem D189_5 : decode (cod 189) 5 = .ok (.iload_n 1, 1) := by rw [cc_189]; decide +kernel
theorem D189_6 : decode (cod 189) 6 = .ok (.iconst 1, 1) := by rw [cc_189]; decide +kernel
theorem D189_7 : decode (cod 189) 7 = .ok (.iadd, 1) := by rw [cc_189]; decide +kernel
theorem D189_8 : decode (cod 189) 8 = .ok (.imul, 1) := by rw [cc_189]; decide +kernel
theorem D189_9 : decode (cod 189) 9 = .ok (.iload_n 1, 1) := by rw [cc_189]; decide +kernel
theorem D189_10 : decode (cod 189) 10 = .ok (.iconst 2, 1) := by rw [cc_189]; decide +kernel
theorem D189_11 : decode (cod 189) 11 = .ok (.idiv, 1) := by rw [cc_189]; decide +kernel
theorem D189_12 : decode (cod 189) 12 = .ok (.iadd, 1) := by rw [cc_189]; decide +kernel
theorem D189_13 : decode (cod 189) 13 = .ok (.iconst 0, 1) := by rw [cc_189]; decide +kernel
theorem D189_14 : decode (cod 189) 14 = .ok (.bipush 31, 2) := by rw [cc_189]; decide +kernel
theorem D189_16 : decode (cod 189) 16 = .ok (.invokestatic 415, 3) := by rw [cc_189]; decide +kernel
theorem D189_19 : decode (cod 189) 19 = .ok (.ireturn, 1) := by rw [cc_189]; decide +kernel
theorem b189_0 {d : Nat} {x0 x1 : Int} {I L : Nat → Nat → Nat → Int} {t : Nat → Nat} (g1 : w32 (x1 + 1) ≠ 0) : Res (d + 1) 189 0 [vi x0, vi x1] [] (mk I L t) = (Cal d 182 [vi (w32 ((w32 ((vIdiv x0 (w32 (x1 + 1))) * (w32 (x1 + 1)))) + (vIdiv x1 2))), vi 0, vi 31] (mk I L t)).bind fun v => Res (d + 1) 189 19 [vi x0, vi x1] (psh 182 v.1 []) v.2 :=
  Eq.trans (e_iload_n D189_0 rfl rfl) <| Eq.trans (e_iload_n D189_1 rfl rfl) <| Eq.trans (e_iconst (x := 1) D189_2 rfl rfl) <| Eq.trans (e_iadd D189_3 rfl) <| Eq.trans (e_idiv D189_4 rfl g1) <| Eq.trans (e_iload_n D189_5 rfl rfl) <| Eq.trans (e_iconst (x := 1) D189_6 rfl rfl) <| Eq.trans (e_iadd D189_7 rfl) <| Eq.trans (e_imul D189_8 rfl) <| Eq.trans (e_iload_n D189_9 rfl rfl) <| Eq.trans (e_iconst (x := 2) D189_10 rfl rfl) <| Eq.trans (e_idiv D189_11 rfl (by decide)) <| Eq.trans (e_iadd D189_12 rfl) <| Eq.trans (e_iconst (x := 0) D189_13 rfl rfl) <| Eq.trans (e_bipush (x := 31) D189_14 rfl rfl) <| e_callS D189_16 rfl o_189 m_12_415 (by decide) rfl rfl
theorem b189_19 {d : Nat} {x0 x1 xs0 : Int} {I L : Nat → Nat → Nat → Int} {t : Nat → Nat} : Res d 189 19 [vi x0, vi x1] [vi xs0] (mk I L t) = some (vi xs0, (mk I L t)) :=
  e_iret D189_19 rfl
/-! m_pulled -/
theorem cc_190 : cod 190 = cX12_pulled := rfl
theorem D190_0 : decode (cod 190) 0 = .ok (.iconst 0, 1) := by rw [cc_190]; decide +kernel
theorem D190_1 : decode (cod 190) 1 = .ok (.istore_n 3, 1) := by rw [cc_190]; decide +kernel
theorem D190_2 : decode (cod 190) 2 = .ok (.iload_n 3, 1) := by rw [cc_190]; decide +kernel
theorem D190_3 : decode (cod 190) 3 = .ok (.bipush 16, 2) := by rw [cc_190]; decide +kernel
theorem D190_5 : decode (cod 190) 5 = .ok (.if_icmp .ge 41, 3) := by rw [cc_190]; decide +kernel
theorem D190_8 : decode (cod 190) 8 = .ok (.aload_n 0, 1) := by rw [cc_190]; decide +kernel
theorem D190_9 : decode (cod 190) 9 = .ok (.getfield 99, 3) := by rw [cc_190]; decide +kernel
theorem D190_12 : decode (cod 190) 12 = .ok (.iload_n 3, 1) := by rw [cc_190]; decide +kernel
theorem D190_13 : decode (cod 190) 13 = .ok (.dup2, 1) := by rw [cc_190]; decide +kernel
theorem D190_14 : decode (cod 190) 14 = .ok (.iaload, 1) := by rw [cc_190]; decide +kernel
theorem D190_15 : decode (cod 190) 15 = .ok (.aload_n 0, 1) := by rw [cc_190]; decide +kernel
theorem D190_16 : decode (cod 190) 16 = .ok (.getfield 7, 3) := by rw [cc_190]; decide +kernel
theorem D190_19 : decode (cod 190) 19 = .ok (.bipush 16, 2) := by rw [cc_190]; decide +kernel
theorem D190_21 : decode (cod 190) 21 = .ok (.iload_n 2, 1) := by rw [cc_190]; decide +kernel
theorem D190_22 : decode (cod 190) 22 = .ok (.imul, 1) := by rw [cc_190]; decide +kernel
theorem D190_23 : decode (cod 190) 23 = .ok (.iload_n 3, 1) := by rw [cc_190]; decide +kernel
theorem D190_24 : decode (cod 190) 24 = .ok (.iadd, 1) := by rw [cc_190]; decide +kernel
theorem D190_25 : decode (cod 190) 25 = .ok (.iaload, 1) := by rw [cc_190]; decide +kernel
theorem D190_26 : decode (cod 190) 26 = .ok (.aload_n 0, 1) := by rw [cc_190]; decide +kernel
theorem D190_27 : decode (cod 190) 27 = .ok (.getfield 99, 3) := by rw [cc_190]; decide +kernel
theorem D190_30 : decode (cod 190) 30 = .ok (.iload_n 3, 1) := by rw [cc_190]; decide +kernel
theorem D190_31 : decode (cod 190) 31 = .ok (.iaload, 1) := by rw [cc_190]; decide +kernel
theorem D190_32 : decode (cod 190) 32 = .ok (.isub, 1) := by rw [cc_190]; decide +kernel
theorem D190_33 : decode (cod 190) 33 = .ok (.iload_n 1, 1) := by rw [cc_190]; decide +kernel
theorem D190_34 : decode (cod 190) 34 = .ok (.imul, 1) := by rw [cc_190]; decide +kernel
theorem D190_35 : decode (cod 190) 35 = .ok (.bipush 100, 2) := by rw [cc_190]; decide +kernel
theorem D190_37 : decode (cod 190) 37 = .ok (.idiv, 1) := by rw [cc_190]; decide +kernel
theorem D190_38 : decode (cod 190) 38 = .ok (.iadd, 1) := by rw [cc_190]; decide +kernel
theorem D190_39 : decode (cod 190) 39 = .ok (.iastore, 1) := by rw [cc_190]; decide +kernel
theorem D190_40 : decode (cod 190) 40 = .ok (.iinc 3 1, 3) := by rw [cc_190]; decide +kernel
theorem D190_43 : decode (cod 190) 43 = .ok (.goto (-41), 3) := by rw [cc_190]; decide +kernel
theorem D190_46 : decode (cod 190) 46 = .ok (.return_, 1) := by rw [cc_190]; decide +kernel
theorem b190_0 {d : Nat} {i0 : Nat} {x1 x2 : Int} {I L : Nat → Nat → Nat → Int} {t : Nat → Nat} : Res d 190 0 [vr 12 i0, vi x1, vi x2, vx] [] (mk I L t) = Res d 190 2 [vr 12 i0, vi x1, vi x2, vi 0] [] (mk I L t) :=
  Eq.trans (e_iconst (x := 0) D190_0 rfl rfl) <| e_istore_n (ls1 := [vr 12 i0, vi x1, vi x2, vi 0]) D190_1 rfl (show 3 < 4 by decide) rfl
theorem b190_2 {d : Nat} {i0 : Nat} {x1 x2 x3 : Int} {I L : Nat → Nat → Nat → Int} {t : Nat → Nat} : Res d 190 2 [vr 12 i0, vi x1, vi x2, vi x3] [] (mk I L t) = if 16 ≤ x3 then Res d 190 46 [vr 12 i0, vi x1, vi x2, vi x3] [] (mk I L t) else Res d 190 8 [vr 12 i0, vi x1, vi x2, vi x3] [] (mk I L t) :=
  Eq.trans (e_iload_n D190_2 rfl rfl) <| Eq.trans (e_bipush (x := 16) D190_3 rfl rfl) <| e_icge D190_5 rfl rfl
theorem b190_8 {d : Nat} {i0 : Nat} {x1 x2 x3 : Int} {I L : Nat → Nat → Nat → Int} {t : Nat → Nat} (g1 : 0 ≤ x3 ∧ x3 < 16) (g2 : 0 ≤ w32 ((w32 (16 * x2)) + x3) ∧ w32 ((w32 (16 * x2)) + x3) < 2112) : Res d 190 8 [vr 12 i0, vi x1, vi x2, vi x3] [] (mk I L t) = Res d 190 2 [vr 12 i0, vi x1, vi x2, vi (w32 (x3 + 1))] [] (mk (up3 I 76 i0 x3.toNat (w32 ((I 76 i0 x3.toNat) + (vIdiv (w32 ((w32 ((I 48 i0 (w32 ((w32 (16 * x2)) + x3)).toNat) - (I 76 i0 x3.toNat))) * x1)) 100)))) L t) :=
  Eq.trans (e_aload_n D190_8 rfl rfl) <| Eq.trans (e_getP (p := (76, i0)) D190_9 rfl o_190 f_12_99 (sh_12 _) (by decide) (pp_12_52 _ _)) <| Eq.trans (e_iload_n D190_12 rfl rfl) <| Eq.trans (e_dup2 D190_13 rfl) <| Eq.trans (e_iald D190_14 rfl (al_76 _) g1) <| Eq.trans (e_aload_n D190_15 rfl rfl) <| Eq.trans (e_getP (p := (48, i0)) D190_16 rfl o_190 f_12_7 (sh_12 _) (by decide) (pp_12_5 _ _)) <| Eq.trans (e_bipush (x := 16) D190_19 rfl rfl) <| Eq.trans (e_iload_n D190_21 rfl rfl) <| Eq.trans (e_imul D190_22 rfl) <| Eq.trans (e_iload_n D190_23 rfl rfl) <| Eq.trans (e_iadd D190_24 rfl) <| Eq.trans (e_iald D190_25 rfl (al_48 _) g2) <| Eq.trans (e_aload_n D190_26 rfl rfl) <| Eq.trans (e_getP (p := (76, i0)) D190_27 rfl o_190 f_12_99 (sh_12 _) (by decide) (pp_12_52 _ _)) <| Eq.trans (e_iload_n D190_30 rfl rfl) <| Eq.trans (e_iald D190_31 rfl (al_76 _) g1) <| Eq.trans (e_isub D190_32 rfl) <| Eq.trans (e_iload_n D190_33 rfl rfl) <| Eq.trans (e_imul D190_34 rfl) <| Eq.trans (e_bipush (x := 100) D190_35 rfl rfl) <| Eq.trans (e_idiv D190_37 rfl (by decide)) <| Eq.trans (e_iadd D190_38 rfl) <| Eq.trans (e_iast D190_39 rfl (al_76 _) rfl g1) <| Eq.trans (e_iinc (ls1 := [vr 12 i0, vi x1, vi x2, vi (w32 (x3 + 1))]) D190_40 rfl rfl rfl) <| e_goto (q1 := 2) D190_43 rfl
theorem b190_46 {d : Nat} {i0 : Nat} {x1 x2 x3 : Int} {I L : Nat → Nat → Nat → Int} {t : Nat → Nat} : Res d 190 46 [vr 12 i0, vi x1, vi x2, vi x3] [] (mk I L t) = some (vx, (mk I L t)) :=
  e_vret D190_46 rfl
/-! m_sees -/
theorem cc_191 : cod 191 = cX12_sees := rfl
theorem D191_0 : decode (cod 191) 0 = .ok (.aload_n 0, 1) := by rw [cc_191]; decide +kernel
theorem D191_1 : decode (cod 191) 1 = .ok (.iload_n 1, 1) := by rw [cc_191]; decide +kernel
theorem D191_2 : decode (cod 191) 2 = .ok (.putfield 409, 3) := by rw [cc_191]; decide +kernel
theorem D191_5 : decode (cod 191) 5 = .ok (.aload_n 0, 1) := by rw [cc_191]; decide +kernel
theorem D191_6 : decode (cod 191) 6 = .ok (.iload_n 2, 1) := by rw [cc_191]; decide +kernel
theorem D191_7 : decode (cod 191) 7 = .ok (.putfield 426, 3) := by rw [cc_191]; decide +kernel
theorem D191_10 : decode (cod 191) 10 = .ok (.aload_n 0, 1) := by rw [cc_191]; decide +kernel
theorem D191_11 : decode (cod 191) 11 = .ok (.invokevirtual 419, 3) := by rw [cc_191]; decide +kernel
theorem D191_14 : decode (cod 191) 14 = .ok (.aload_n 0, 1) := by rw [cc_191]; decide +kernel
theorem D191_15 : decode (cod 191) 15 = .ok (.getfield 96, 3) := by rw [cc_191]; decide +kernel
theorem D191_18 : decode (cod 191) 18 = .ok (.iconst 4, 1) := by rw [cc_191]; decide +kernel
theorem D191_19 : decode (cod 191) 19 = .ok (.iload 4, 2) := by rw [cc_191]; decide +kernel
theorem D191_21 : decode (cod 191) 21 = .ok (.iastore, 1) := by rw [cc_191]; decide +kernel
theorem D191_22 : decode (cod 191) 22 = .ok (.aload_n 0, 1) := by rw [cc_191]; decide +kernel
theorem D191_23 : decode (cod 191) 23 = .ok (.getfield 96, 3) := by rw [cc_191]; decide +kernel
theorem D191_26 : decode (cod 191) 26 = .ok (.iconst 5, 1) := by rw [cc_191]; decide +kernel
theorem D191_27 : decode (cod 191) 27 = .ok (.iload 5, 2) := by rw [cc_191]; decide +kernel
theorem D191_29 : decode (cod 191) 29 = .ok (.iastore, 1) := by rw [cc_191]; decide +kernel
theorem D191_30 : decode (cod 191) 30 = .ok (.aload_n 0, 1) := by rw [cc_191]; decide +kernel
theorem D191_31 : decode (cod 191) 31 = .ok (.getfield 96, 3) := by rw [cc_191]; decide +kernel
theorem D191_34 : decode (cod 191) 34 = .ok (.bipush 6, 2) := by rw [cc_191]; decide +kernel
theorem D191_36 : decode (cod 191) 36 = .ok (.iload 6, 2) := by rw [cc_191]; decide +kernel
theorem D191_38 : decode (cod 191) 38 = .ok (.iastore, 1) := by rw [cc_191]; decide +kernel
theorem D191_39 : decode (cod 191) 39 = .ok (.aload_n 0, 1) := by rw [cc_191]; decide +kernel
theorem D191_40 : decode (cod 191) 40 = .ok (.getfield 96, 3) := by rw [cc_191]; decide +kernel
theorem D191_43 : decode (cod 191) 43 = .ok (.bipush 7, 2) := by rw [cc_191]; decide +kernel
theorem D191_45 : decode (cod 191) 45 = .ok (.iconst 0, 1) := by rw [cc_191]; decide +kernel
theorem D191_46 : decode (cod 191) 46 = .ok (.iastore, 1) := by rw [cc_191]; decide +kernel
theorem D191_47 : decode (cod 191) 47 = .ok (.aload_n 0, 1) := by rw [cc_191]; decide +kernel
theorem D191_48 : decode (cod 191) 48 = .ok (.getfield 96, 3) := by rw [cc_191]; decide +kernel
theorem D191_51 : decode (cod 191) 51 = .ok (.bipush 10, 2) := by rw [cc_191]; decide +kernel
theorem D191_53 : decode (cod 191) 53 = .ok (.iload 7, 2) := by rw [cc_191]; decide +kernel
theorem D191_55 : decode (cod 191) 55 = .ok (.iastore, 1) := by rw [cc_191]; decide +kernel
theorem D191_56 : decode (cod 191) 56 = .ok (.aload_n 0, 1) := by rw [cc_191]; decide +kernel
theorem D191_57 : decode (cod 191) 57 = .ok (.iconst 1, 1) := by rw [cc_191]; decide +kernel
theorem D191_58 : decode (cod 191) 58 = .ok (.invokevirtual 432, 3) := by rw [cc_191]; decide +kernel
theorem D191_61 : decode (cod 191) 61 = .ok (.istore 8, 2) := by rw [cc_191]; decide +kernel
theorem D191_63 : decode (cod 191) 63 = .ok (.iconst 0, 1) := by rw [cc_191]; decide +kernel
theorem D191_64 : decode (cod 191) 64 = .ok (.istore 9, 2) := by rw [cc_191]; decide +kernel
theorem D191_66 : decode (cod 191) 66 = .ok (.iload 9, 2) := by rw [cc_191]; decide +kernel
theorem D191_68 : decode (cod 191) 68 = .ok (.bipush 16, 2) := by rw [cc_191]; decide +kernel
theorem D191_70 : decode (cod 191) 70 = .ok (.if_icmp .ge 33, 3) := by rw [cc_191]; decide +kernel
theorem D191_73 : decode (cod 191) 73 = .ok (.aload_n 0, 1) := by rw [cc_191]; decide +kernel
theorem D191_74 : decode (cod 191) 74 = .ok (.getfield 99, 3) := by rw [cc_191]; decide +kernel
theorem D191_77 : decode (cod 191) 77 = .ok (.iload 9, 2) := by rw [cc_191]; decide +kernel
theorem D191_79 : decode (cod 191) 79 = .ok (.aload_n 0, 1) := by rw [cc_191]; decide +kernel
theorem D191_80 : decode (cod 191) 80 = .ok (.getfield 7, 3) := by rw [cc_191]; decide +kernel
theorem D191_83 : decode (cod 191) 83 = .ok (.bipush 16, 2) := by rw [cc_191]; decide +kernel
theorem D191_85 : decode (cod 191) 85 = .ok (.iload_n 3, 1) := by rw [cc_191]; decide +kernel
theorem D191_86 : decode (cod 191) 86 = .ok (.imul, 1) := by rw [cc_191]; decide +kernel
theorem D191_87 : decode (cod 191) 87 = .ok (.iload 9, 2) := by rw [cc_191]; decide +kernel
theorem D191_89 : decode (cod 191) 89 = .ok (.iadd, 1) := by rw [cc_191]; decide +kernel
theorem D191_90 : decode (cod 191) 90 = .ok (.iaload, 1) := by rw [cc_191]; decide +kernel
theorem D191_91 : decode (cod 191) 91 = .ok (.iload 8, 2) := by rw [cc_191]; decide +kernel
theorem D191_93 : decode (cod 191) 93 = .ok (.invokestatic 435, 3) := by rw [cc_191]; decide +kernel
theorem D191_96 : decode (cod 191) 96 = .ok (.iastore, 1) := by rw [cc_191]; decide +kernel
theorem D191_97 : decode (cod 191) 97 = .ok (.iinc 9 1, 3) := by rw [cc_191]; decide +kernel
theorem D191_100 : decode (cod 191) 100 = .ok (.goto (-34), 3) := by rw [cc_191]; decide +kernel
theorem D191_103 : decode (cod 191) 103 = .ok (.return_, 1) := by rw [cc_191]; decide +kernel
theorem b191_0 {d : Nat} {i0 : Nat} {x1 x2 x3 x4 x5 x6 x7 : Int} {I L : Nat → Nat → Nat → Int} {t : Nat → Nat} : Res (d + 1) 191 0 [vr 12 i0, vi x1, vi x2, vi x3, vi x4, vi x5, vi x6, vi x7, vx, vx] [] (mk I L t) = (Cal d 185 [vr 12 i0] (mk (up3 (up3 I 12 i0 54 x1) 12 i0 55 x2) L t)).bind fun v => Res (d + 1) 191 14 [vr 12 i0, vi x1, vi x2, vi x3, vi x4, vi x5, vi x6, vi x7, vx, vx] (psh 185 v.1 []) v.2 :=
  Eq.trans (e_aload_n D191_0 rfl rfl) <| Eq.trans (e_iload_n D191_1 rfl rfl) <| Eq.trans (e_putI D191_2 rfl o_191 f_12_409 (sh_12 _) rfl (by decide) (Or.inl (by decide))) <| Eq.trans (e_aload_n D191_5 rfl rfl) <| Eq.trans (e_iload_n D191_6 rfl rfl) <| Eq.trans (e_putI D191_7 rfl o_191 f_12_426 (sh_12 _) rfl (by decide) (Or.inl (by decide))) <| Eq.trans (e_aload_n D191_10 rfl rfl) <| e_callV D191_11 rfl o_191 m_12_419 (by decide) rfl rfl
theorem b191_14 {d : Nat} {i0 : Nat} {x1 x2 x3 x4 x5 x6 x7 : Int} {I L : Nat → Nat → Nat → Int} {t : Nat → Nat} : Res (d + 1) 191 14 [vr 12 i0, vi x1, vi x2, vi x3, vi x4, vi x5, vi x6, vi x7, vx, vx] [] (mk I L t) = (Cal d 184 [vr 12 i0, vi 1] (mk (up3 (up3 (up3 (up3 (up3 I 75 i0 4 x4) 75 i0 5 x5) 75 i0 6 x6) 75 i0 7 0) 75 i0 10 x7) L t)).bind fun v => Res (d + 1) 191 61 [vr 12 i0, vi x1, vi x2, vi x3, vi x4, vi x5, vi x6, vi x7, vx, vx] (psh 184 v.1 []) v.2 :=
  Eq.trans (e_aload_n D191_14 rfl rfl) <| Eq.trans (e_getP (p := (75, i0)) D191_15 rfl o_191 f_12_96 (sh_12 _) (by decide) (pp_12_51 _ _)) <| Eq.trans (e_iconst (x := 4) D191_18 rfl rfl) <| Eq.trans (e_iload D191_19 rfl rfl) <| Eq.trans (e_iast D191_21 rfl (al_75 _) rfl (by decide)) <| Eq.trans (e_aload_n D191_22 rfl rfl) <| Eq.trans (e_getP (p := (75, i0)) D191_23 rfl o_191 f_12_96 (sh_12 _) (by decide) (pp_12_51 _ _)) <| Eq.trans (e_iconst (x := 5) D191_26 rfl rfl) <| Eq.trans (e_iload D191_27 rfl rfl) <| Eq.trans (e_iast D191_29 rfl (al_75 _) rfl (by decide)) <| Eq.trans (e_aload_n D191_30 rfl rfl) <| Eq.trans (e_getP (p := (75, i0)) D191_31 rfl o_191 f_12_96 (sh_12 _) (by decide) (pp_12_51 _ _)) <| Eq.trans (e_bipush (x := 6) D191_34 rfl rfl) <| Eq.trans (e_iload D191_36 rfl rfl) <| Eq.trans (e_iast D191_38 rfl (al_75 _) rfl (by decide)) <| Eq.trans (e_aload_n D191_39 rfl rfl) <| Eq.trans (e_getP (p := (75, i0)) D191_40 rfl o_191 f_12_96 (sh_12 _) (by decide) (pp_12_51 _ _)) <| Eq.trans (e_bipush (x := 7) D191_43 rfl rfl) <| Eq.trans (e_iconst (x := 0) D191_45 rfl rfl) <| Eq.trans (e_iast D191_46 rfl (al_75 _) rfl (by decide)) <| Eq.trans (e_aload_n D191_47 rfl rfl) <| Eq.trans (e_getP (p := (75, i0)) D191_48 rfl o_191 f_12_96 (sh_12 _) (by decide) (pp_12_51 _ _)) <| Eq.trans (e_bipush (x := 10) D191_51 rfl rfl) <| Eq.trans (e_iload D191_53 rfl rfl) <| Eq.trans (e_iast D191_55 rfl (al_75 _) rfl (by decide)) <| Eq.trans (e_aload_n D191_56 rfl rfl) <| Eq.trans (e_iconst (x := 1) D191_57 rfl rfl) <| e_callV D191_58 rfl o_191 m_12_432 (by decide) rfl rfl
theorem b191_61 {d : Nat} {i0 : Nat} {x1 x2 x3 x4 x5 x6 x7 xs0 : Int} {I L : Nat → Nat → Nat → Int} {t : Nat → Nat} : Res d 191 61 [vr 12 i0, vi x1, vi x2, vi x3, vi x4, vi x5, vi x6, vi x7, vx, vx] [vi xs0] (mk I L t) = Res d 191 66 [vr 12 i0, vi x1, vi x2, vi x3, vi x4, vi x5, vi x6, vi x7, vi xs0, vi 0] [] (mk I L t) :=
  Eq.trans (e_istore (ls1 := [vr 12 i0, vi x1, vi x2, vi x3, vi x4, vi x5, vi x6, vi x7, vi xs0, vx]) D191_61 rfl (show 8 < 10 by decide) rfl) <| Eq.trans (e_iconst (x := 0) D191_63 rfl rfl) <| e_istore (ls1 := [vr 12 i0, vi x1, vi x2, vi x3, vi x4, vi x5, vi x6, vi x7, vi xs0, vi 0]) D191_64 rfl (show 9 < 10 by decide) rfl
theorem b191_66 {d : Nat} {i0 : Nat} {x1 x2 x3 x4 x5 x6 x7 x8 x9 : Int} {I L : Nat → Nat → Nat → Int} {t : Nat → Nat} : Res d 191 66 [vr 12 i0, vi x1, vi x2, vi x3, vi x4, vi x5, vi x6, vi x7, vi x8, vi x9] [] (mk I L t) = if 16 ≤ x9 then Res d 191 103 [vr 12 i0, vi x1, vi x2, vi x3, vi x4, vi x5, vi x6, vi x7, vi x8, vi x9] [] (mk I L t) else Res d 191 73 [vr 12 i0, vi x1, vi x2, vi x3, vi x4, vi x5, vi x6, vi x7, vi x8, vi x9] [] (mk I L t) :=
  Eq.trans (e_iload D191_66 rfl rfl) <| Eq.trans (e_bipush (x := 16) D191_68 rfl rfl) <| e_icge D191_70 rfl rfl
theorem b191_73 {d : Nat} {i0 : Nat} {x1 x2 x3 x4 x5 x6 x7 x8 x9 : Int} {I L : Nat → Nat → Nat → Int} {t : Nat → Nat} (g1 : 0 ≤ w32 ((w32 (16 * x3)) + x9) ∧ w32 ((w32 (16 * x3)) + x9) < 2112) : Res (d + 1) 191 73 [vr 12 i0, vi x1, vi x2, vi x3, vi x4, vi x5, vi x6, vi x7, vi x8, vi x9] [] (mk I L t) = (Cal d 189 [vi (I 48 i0 (w32 ((w32 (16 * x3)) + x9)).toNat), vi x8] (mk I L t)).bind fun v => Res (d + 1) 191 96 [vr 12 i0, vi x1, vi x2, vi x3, vi x4, vi x5, vi x6, vi x7, vi x8, vi x9] (psh 189 v.1 [vi x9, vr 76 i0]) v.2 :=
  Eq.trans (e_aload_n D191_73 rfl rfl) <| Eq.trans (e_getP (p := (76, i0)) D191_74 rfl o_191 f_12_99 (sh_12 _) (by decide) (pp_12_52 _ _)) <| Eq.trans (e_iload D191_77 rfl rfl) <| Eq.trans (e_aload_n D191_79 rfl rfl) <| Eq.trans (e_getP (p := (48, i0)) D191_80 rfl o_191 f_12_7 (sh_12 _) (by decide) (pp_12_5 _ _)) <| Eq.trans (e_bipush (x := 16) D191_83 rfl rfl) <| Eq.trans (e_iload_n D191_85 rfl rfl) <| Eq.trans (e_imul D191_86 rfl) <| Eq.trans (e_iload D191_87 rfl rfl) <| Eq.trans (e_iadd D191_89 rfl) <| Eq.trans (e_iald D191_90 rfl (al_48 _) g1) <| Eq.trans (e_iload D191_91 rfl rfl) <| e_callS D191_93 rfl o_191 m_12_435 (by decide) rfl rfl
theorem b191_96 {d : Nat} {i0 is0 : Nat} {x1 x2 x3 x4 x5 x6 x7 x8 x9 xs2 xs1 : Int} {I L : Nat → Nat → Nat → Int} {t : Nat → Nat} (g1 : 0 ≤ xs1 ∧ xs1 < 16) : Res d 191 96 [vr 12 i0, vi x1, vi x2, vi x3, vi x4, vi x5, vi x6, vi x7, vi x8, vi x9] [vi xs2, vi xs1, vr 76 is0] (mk I L t) = Res d 191 66 [vr 12 i0, vi x1, vi x2, vi x3, vi x4, vi x5, vi x6, vi x7, vi x8, vi (w32 (x9 + 1))] [] (mk (up3 I 76 is0 xs1.toNat xs2) L t) :=
  Eq.trans (e_iast D191_96 rfl (al_76 _) rfl g1) <| Eq.trans (e_iinc (ls1 := [vr 12 i0, vi x1, vi x2, vi x3, vi x4, vi x5, vi x6, vi x7, vi x8, vi (w32 (x9 + 1))]) D191_97 rfl rfl rfl) <| e_goto (q1 := 66) D191_100 rfl
theorem b191_103 {d : Nat} {i0 : Nat} {x1 x2 x3 x4 x5 x6 x7 x8 x9 : Int} {I L : Nat → Nat → Nat → Int} {t : Nat → Nat} : Res d 191 103 [vr 12 i0, vi x1, vi x2, vi x3, vi x4, vi x5, vi x6, vi x7, vi x8, vi x9] [] (mk I L t) = some (vx, (mk I L t)) :=
  e_vret D191_103 rfl
/-! m_aDay -/
theorem cc_192 : cod 192 = cX12_aDay := rfl
theorem D192_0 : decode (cod 192) 0 = .ok (.aload_n 0, 1) := by rw [cc_192]; decide +kernel
theorem D192_1 : decode (cod 192) 1 = .ok (.iconst 2, 1) := by rw [cc_192]; decide +kernel
theorem D192_2 : decode (cod 192) 2 = .ok (.invokevirtual 432, 3) := by rw [cc_192]; decide +kernel
theorem D192_5 : decode (cod 192) 5 = .ok (.istore_n 1, 1) := by rw [cc_192]; decide +kernel
theorem D192_6 : decode (cod 192) 6 = .ok (.iconst 0, 1) := by rw [cc_192]; decide +kernel
theorem D192_7 : decode (cod 192) 7 = .ok (.istore_n 2, 1) := by rw [cc_192]; decide +kernel
theorem D192_8 : decode (cod 192) 8 = .ok (.iload_n 2, 1) := by rw [cc_192]; decide +kernel
theorem D192_9 : decode (cod 192) 9 = .ok (.bipush 16, 2) := by rw [cc_192]; decide +kernel
theorem D192_11 : decode (cod 192) 11 = .ok (.if_icmp .ge 36, 3) := by rw [cc_192]; decide +kernel
theorem D192_14 : decode (cod 192) 14 = .ok (.aload_n 0, 1) := by rw [cc_192]; decide +kernel
theorem D192_15 : decode (cod 192) 15 = .ok (.getfield 99, 3) := by rw [cc_192]; decide +kernel
theorem D192_18 : decode (cod 192) 18 = .ok (.iload_n 2, 1) := by rw [cc_192]; decide +kernel
theorem D192_19 : decode (cod 192) 19 = .ok (.dup2, 1) := by rw [cc_192]; decide +kernel
theorem D192_20 : decode (cod 192) 20 = .ok (.iaload, 1) := by rw [cc_192]; decide +kernel
theorem D192_21 : decode (cod 192) 21 = .ok (.aload_n 0, 1) := by rw [cc_192]; decide +kernel
theorem D192_22 : decode (cod 192) 22 = .ok (.getfield 102, 3) := by rw [cc_192]; decide +kernel
theorem D192_25 : decode (cod 192) 25 = .ok (.iload_n 2, 1) := by rw [cc_192]; decide +kernel
theorem D192_26 : decode (cod 192) 26 = .ok (.iaload, 1) := by rw [cc_192]; decide +kernel
theorem D192_27 : decode (cod 192) 27 = .ok (.aload_n 0, 1) := by rw [cc_192]; decide +kernel
theorem D192_28 : decode (cod 192) 28 = .ok (.getfield 99, 3) := by rw [cc_192]; decide +kernel
theorem D192_31 : decode (cod 192) 31 = .ok (.iload_n 2, 1) := by rw [cc_192]; decide +kernel
theorem D192_32 : decode (cod 192) 32 = .ok (.iaload, 1) := by rw [cc_192]; decide +kernel
theorem D192_33 : decode (cod 192) 33 = .ok (.isub, 1) := by rw [cc_192]; decide +kernel
theorem D192_34 : decode (cod 192) 34 = .ok (.iload_n 1, 1) := by rw [cc_192]; decide +kernel
theorem D192_35 : decode (cod 192) 35 = .ok (.imul, 1) := by rw [cc_192]; decide +kernel
theorem D192_36 : decode (cod 192) 36 = .ok (.bipush 100, 2) := by rw [cc_192]; decide +kernel
theorem D192_38 : decode (cod 192) 38 = .ok (.idiv, 1) := by rw [cc_192]; decide +kernel
theorem D192_39 : decode (cod 192) 39 = .ok (.iadd, 1) := by rw [cc_192]; decide +kernel
theorem D192_40 : decode (cod 192) 40 = .ok (.iastore, 1) := by rw [cc_192]; decide +kernel
theorem D192_41 : decode (cod 192) 41 = .ok (.iinc 2 1, 3) := by rw [cc_192]; decide +kernel
theorem D192_44 : decode (cod 192) 44 = .ok (.goto (-36), 3) := by rw [cc_192]; decide +kernel
theorem D192_47 : decode (cod 192) 47 = .ok (.aload_n 0, 1) := by rw [cc_192]; decide +kernel
theorem D192_48 : decode (cod 192) 48 = .ok (.getfield 96, 3) := by rw [cc_192]; decide +kernel
theorem D192_51 : decode (cod 192) 51 = .ok (.bipush 7, 2) := by rw [cc_192]; decide +kernel
theorem D192_53 : decode (cod 192) 53 = .ok (.dup2, 1) := by rw [cc_192]; decide +kernel
theorem D192_54 : decode (cod 192) 54 = .ok (.iaload, 1) := by rw [cc_192]; decide +kernel
theorem D192_55 : decode (cod 192) 55 = .ok (.iconst 1, 1) := by rw [cc_192]; decide +kernel
theorem D192_56 : decode (cod 192) 56 = .ok (.iadd, 1) := by rw [cc_192]; decide +kernel
theorem D192_57 : decode (cod 192) 57 = .ok (.iastore, 1) := by rw [cc_192]; decide +kernel
theorem D192_58 : decode (cod 192) 58 = .ok (.return_, 1) := by rw [cc_192]; decide +kernel
theorem b192_0 {d : Nat} {i0 : Nat} {I L : Nat → Nat → Nat → Int} {t : Nat → Nat} : Res (d + 1) 192 0 [vr 12 i0, vx, vx] [] (mk I L t) = (Cal d 184 [vr 12 i0, vi 2] (mk I L t)).bind fun v => Res (d + 1) 192 5 [vr 12 i0, vx, vx] (psh 184 v.1 []) v.2 :=
  Eq.trans (e_aload_n D192_0 rfl rfl) <| Eq.trans (e_iconst (x := 2) D192_1 rfl rfl) <| e_callV D192_2 rfl o_192 m_12_432 (by decide) rfl rfl
theorem b192_5 {d : Nat} {i0 : Nat} {xs0 : Int} {I L : Nat → Nat → Nat → Int} {t : Nat → Nat} : Res d 192 5 [vr 12 i0, vx, vx] [vi xs0] (mk I L t) = Res d 192 8 [vr 12 i0, vi xs0, vi 0] [] (mk I L t) :=
  Eq.trans (e_istore_n (ls1 := [vr 12 i0, vi xs0, vx]) D192_5 rfl (show 1 < 3 by decide) rfl) <| Eq.trans (e_iconst (x := 0) D192_6 rfl rfl) <| e_istore_n (ls1 := [vr 12 i0, vi xs0, vi 0]) D192_7 rfl (show 2 < 3 by decide) rfl
theorem b192_8 {d : Nat} {i0 : Nat} {x1 x2 : Int} {I L : Nat → Nat → Nat → Int} {t : Nat → Nat} : Res d 192 8 [vr 12 i0, vi x1, vi x2] [] (mk I L t) = if 16 ≤ x2 then Res d 192 47 [vr 12 i0, vi x1, vi x2] [] (mk I L t) else Res d 192 14 [vr 12 i0, vi x1, vi x2] [] (mk I L t) :=
  Eq.trans (e_iload_n D192_8 rfl rfl) <| Eq.trans (e_bipush (x := 16) D192_9 rfl rfl) <| e_icge D192_11 rfl rfl
theorem b192_14 {d : Nat} {i0 : Nat} {x1 x2 : Int} {I L : Nat → Nat → Nat → Int} {t : Nat → Nat} (g1 : 0 ≤ x2 ∧ x2 < 16) : Res d 192 14 [vr 12 i0, vi x1, vi x2] [] (mk I L t) = Res d 192 8 [vr 12 i0, vi x1, vi (w32 (x2 + 1))] [] (mk (up3 I 76 i0 x2.toNat (w32 ((I 76 i0 x2.toNat) + (vIdiv (w32 ((w32 ((I 77 i0 x2.toNat) - (I 76 i0 x2.toNat))) * x1)) 100)))) L t) :=
  Eq.trans (e_aload_n D192_14 rfl rfl) <| Eq.trans (e_getP (p := (76, i0)) D192_15 rfl o_192 f_12_99 (sh_12 _) (by decide) (pp_12_52 _ _)) <| Eq.trans (e_iload_n D192_18 rfl rfl) <| Eq.trans (e_dup2 D192_19 rfl) <| Eq.trans (e_iald D192_20 rfl (al_76 _) g1) <| Eq.trans (e_aload_n D192_21 rfl rfl) <| Eq.trans (e_getP (p := (77, i0)) D192_22 rfl o_192 f_12_102 (sh_12 _) (by decide) (pp_12_53 _ _)) <| Eq.trans (e_iload_n D192_25 rfl rfl) <| Eq.trans (e_iald D192_26 rfl (al_77 _) g1) <| Eq.trans (e_aload_n D192_27 rfl rfl) <| Eq.trans (e_getP (p := (76, i0)) D192_28 rfl o_192 f_12_99 (sh_12 _) (by decide) (pp_12_52 _ _)) <| Eq.trans (e_iload_n D192_31 rfl rfl) <| Eq.trans (e_iald D192_32 rfl (al_76 _) g1) <| Eq.trans (e_isub D192_33 rfl) <| Eq.trans (e_iload_n D192_34 rfl rfl) <| Eq.trans (e_imul D192_35 rfl) <| Eq.trans (e_bipush (x := 100) D192_36 rfl rfl) <| Eq.trans (e_idiv D192_38 rfl (by decide)) <| Eq.trans (e_iadd D192_39 rfl) <| Eq.trans (e_iast D192_40 rfl (al_76 _) rfl g1) <| Eq.trans (e_iinc (ls1 := [vr 12 i0, vi x1, vi (w32 (x2 + 1))]) D192_41 rfl rfl rfl) <| e_goto (q1 := 8) D192_44 rfl
theorem b192_47 {d : Nat} {i0 : Nat} {x1 x2 : Int} {I L : Nat → Nat → Nat → Int} {t : Nat → Nat} : Res d 192 47 [vr 12 i0, vi x1, vi x2] [] (mk I L t) = some (vx, (mk (up3 I 75 i0 7 (w32 ((I 75 i0 7) + 1))) L t)) :=
  Eq.trans (e_aload_n D192_47 rfl rfl) <| Eq.trans (e_getP (p := (75, i0)) D192_48 rfl o_192 f_12_96 (sh_12 _) (by decide) (pp_12_51 _ _)) <| Eq.trans (e_bipush (x := 7) D192_51 rfl rfl) <| Eq.trans (e_dup2 D192_53 rfl) <| Eq.trans (e_iald D192_54 rfl (al_75 _) (by decide)) <| Eq.trans (e_iconst (x := 1) D192_55 rfl rfl) <| Eq.trans (e_iadd D192_56 rfl) <| Eq.trans (e_iast D192_57 rfl (al_75 _) rfl (by decide)) <| e_vret D192_58 rfl
/-! m_oddsOf -/
theorem cc_193 : cod 193 = cX12_oddsOf := rfl
theorem D193_0 : decode (cod 193) 0 = .ok (.aload_n 0, 1) := by rw [cc_193]; decide +kernel
theorem D193_1 : decode (cod 193) 1 = .ok (.invokevirtual 419, 3) := by rw [cc_193]; decide +kernel
theorem D193_4 : decode (cod 193) 4 = .ok (.aload_n 0, 1) := by rw [cc_193]; decide +kernel
theorem D193_5 : decode (cod 193) 5 = .ok (.iconst 4, 1) := by rw [cc_193]; decide +kernel
theorem D193_6 : decode (cod 193) 6 = .ok (.invokevirtual 432, 3) := by rw [cc_193]; decide +kernel
theorem D193_9 : decode (cod 193) 9 = .ok (.istore 4, 2) := by rw [cc_193]; decide +kernel
theorem D193_11 : decode (cod 193) 11 = .ok (.aload_n 0, 1) := by rw [cc_193]; decide +kernel
theorem D193_12 : decode (cod 193) 12 = .ok (.iconst 5, 1) := by rw [cc_193]; decide +kernel
theorem D193_13 : decode (cod 193) 13 = .ok (.invokevirtual 432, 3) := by rw [cc_193]; decide +kernel
theorem D193_16 : decode (cod 193) 16 = .ok (.istore 5, 2) := by rw [cc_193]; decide +kernel
theorem D193_18 : decode (cod 193) 18 = .ok (.iload 5, 2) := by rw [cc_193]; decide +kernel
theorem D193_20 : decode (cod 193) 20 = .ok (.i2l, 1) := by rw [cc_193]; decide +kernel
theorem D193_21 : decode (cod 193) 21 = .ok (.lstore 6, 2) := by rw [cc_193]; decide +kernel
theorem D193_23 : decode (cod 193) 23 = .ok (.iconst 0, 1) := by rw [cc_193]; decide +kernel
theorem D193_24 : decode (cod 193) 24 = .ok (.istore 8, 2) := by rw [cc_193]; decide +kernel
theorem D193_26 : decode (cod 193) 26 = .ok (.iload 8, 2) := by rw [cc_193]; decide +kernel
theorem D193_28 : decode (cod 193) 28 = .ok (.aload_n 0, 1) := by rw [cc_193]; decide +kernel
theorem D193_29 : decode (cod 193) 29 = .ok (.getfield 236, 3) := by rw [cc_193]; decide +kernel
theorem D193_32 : decode (cod 193) 32 = .ok (.if_icmp .ge 94, 3) := by rw [cc_193]; decide +kernel
theorem D193_35 : decode (cod 193) 35 = .ok (.aload_n 0, 1) := by rw [cc_193]; decide +kernel
theorem D193_36 : decode (cod 193) 36 = .ok (.getfield 28, 3) := by rw [cc_193]; decide +kernel
theorem D193_39 : decode (cod 193) 39 = .ok (.iload 8, 2) := by rw [cc_193]; decide +kernel
theorem D193_41 : decode (cod 193) 41 = .ok (.iaload, 1) := by rw [cc_193]; decide +kernel
theorem D193_42 : decode (cod 193) 42 = .ok (.iconst (-1), 1) := by rw [cc_193]; decide +kernel
theorem D193_43 : decode (cod 193) 43 = .ok (.if_icmp .ne 7, 3) := by rw [cc_193]; decide +kernel
theorem D193_46 : decode (cod 193) 46 = .ok (.iconst 0, 1) := by rw [cc_193]; decide +kernel
theorem D193_47 : decode (cod 193) 47 = .ok (.goto 17, 3) := by rw [cc_193]; decide +kernel
theorem D193_50 : decode (cod 193) 50 = .ok (.iload 4, 2) := by rw [cc_193]; decide +kernel
theorem D193_52 : decode (cod 193) 52 = .ok (.aload_n 0, 1) := by rw [cc_193]; decide +kernel
theorem D193_53 : decode (cod 193) 53 = .ok (.aload_n 0, 1) := by rw [cc_193]; decide +kernel
theorem D193_54 : decode (cod 193) 54 = .ok (.getfield 28, 3) := by rw [cc_193]; decide +kernel
theorem D193_57 : decode (cod 193) 57 = .ok (.iload 8, 2) := by rw [cc_193]; decide +kernel
theorem D193_59 : decode (cod 193) 59 = .ok (.iaload, 1) := by rw [cc_193]; decide +kernel
theorem D193_60 : decode (cod 193) 60 = .ok (.invokevirtual 438, 3) := by rw [cc_193]; decide +kernel
theorem D193_63 : decode (cod 193) 63 = .ok (.isub, 1) := by rw [cc_193]; decide +kernel
theorem D193_64 : decode (cod 193) 64 = .ok (.istore 9, 2) := by rw [cc_193]; decide +kernel
theorem D193_66 : decode (cod 193) 66 = .ok (.aload_n 0, 1) := by rw [cc_193]; decide +kernel
theorem D193_67 : decode (cod 193) 67 = .ok (.getfield 108, 3) := by rw [cc_193]; decide +kernel
theorem D193_70 : decode (cod 193) 70 = .ok (.iload 8, 2) := by rw [cc_193]; decide +kernel
theorem D193_72 : decode (cod 193) 72 = .ok (.iload 9, 2) := by rw [cc_193]; decide +kernel
theorem D193_74 : decode (cod 193) 74 = .ok (.ifCond .ge 7, 3) := by rw [cc_193]; decide +kernel
theorem D193_77 : decode (cod 193) 77 = .ok (.iconst 0, 1) := by rw [cc_193]; decide +kernel
theorem D193_78 : decode (cod 193) 78 = .ok (.goto 5, 3) := by rw [cc_193]; decide +kernel
theorem D193_81 : decode (cod 193) 81 = .ok (.iload 9, 2) := by rw [cc_193]; decide +kernel
theorem D193_83 : decode (cod 193) 83 = .ok (.aload_n 0, 1) := by rw [cc_193]; decide +kernel
theorem D193_84 : decode (cod 193) 84 = .ok (.getfield 28, 3) := by rw [cc_193]; decide +kernel
theorem D193_87 : decode (cod 193) 87 = .ok (.iload 8, 2) := by rw [cc_193]; decide +kernel
theorem D193_89 : decode (cod 193) 89 = .ok (.iaload, 1) := by rw [cc_193]; decide +kernel
theorem D193_90 : decode (cod 193) 90 = .ok (.iconst (-1), 1) := by rw [cc_193]; decide +kernel
theorem D193_91 : decode (cod 193) 91 = .ok (.if_icmp .eq 13, 3) := by rw [cc_193]; decide +kernel
theorem D193_94 : decode (cod 193) 94 = .ok (.iload 8, 2) := by rw [cc_193]; decide +kernel
theorem D193_96 : decode (cod 193) 96 = .ok (.iload_n 2, 1) := by rw [cc_193]; decide +kernel
theorem D193_97 : decode (cod 193) 97 = .ok (.if_icmp .ne 7, 3) := by rw [cc_193]; decide +kernel
theorem D193_100 : decode (cod 193) 100 = .ok (.iload_n 3, 1) := by rw [cc_193]; decide +kernel
theorem D193_101 : decode (cod 193) 101 = .ok (.goto 4, 3) := by rw [cc_193]; decide +kernel
theorem D193_104 : decode (cod 193) 104 = .ok (.iconst 0, 1) := by rw [cc_193]; decide +kernel
theorem D193_105 : decode (cod 193) 105 = .ok (.iadd, 1) := by rw [cc_193]; decide +kernel
theorem D193_106 : decode (cod 193) 106 = .ok (.iastore, 1) := by rw [cc_193]; decide +kernel
theorem D193_107 : decode (cod 193) 107 = .ok (.lload 6, 2) := by rw [cc_193]; decide +kernel
theorem D193_109 : decode (cod 193) 109 = .ok (.aload_n 0, 1) := by rw [cc_193]; decide +kernel
theorem D193_110 : decode (cod 193) 110 = .ok (.getfield 108, 3) := by rw [cc_193]; decide +kernel
theorem D193_113 : decode (cod 193) 113 = .ok (.iload 8, 2) := by rw [cc_193]; decide +kernel
theorem D193_115 : decode (cod 193) 115 = .ok (.iaload, 1) := by rw [cc_193]; decide +kernel
theorem D193_116 : decode (cod 193) 116 = .ok (.i2l, 1) := by rw [cc_193]; decide +kernel
theorem D193_117 : decode (cod 193) 117 = .ok (.ladd, 1) := by rw [cc_193]; decide +kernel
theorem D193_118 : decode (cod 193) 118 = .ok (.lstore 6, 2) := by rw [cc_193]; decide +kernel
theorem D193_120 : decode (cod 193) 120 = .ok (.iinc 8 1, 3) := by rw [cc_193]; decide +kernel
theorem D193_123 : decode (cod 193) 123 = .ok (.goto (-97), 3) := by rw [cc_193]; decide +kernel
theorem D193_126 : decode (cod 193) 126 = .ok (.ldc2_w 441, 3) := by rw [cc_193]; decide +kernel
theorem D193_129 : decode (cod 193) 129 = .ok (.lstore 8, 2) := by rw [cc_193]; decide +kernel
theorem D193_131 : decode (cod 193) 131 = .ok (.iconst 0, 1) := by rw [cc_193]; decide +kernel
theorem D193_132 : decode (cod 193) 132 = .ok (.istore 10, 2) := by rw [cc_193]; decide +kernel
theorem D193_134 : decode (cod 193) 134 = .ok (.iload 10, 2) := by rw [cc_193]; decide +kernel
theorem D193_136 : decode (cod 193) 136 = .ok (.bipush 9, 2) := by rw [cc_193]; decide +kernel
theorem D193_138 : decode (cod 193) 138 = .ok (.if_icmp .ge 95, 3) := by rw [cc_193]; decide +kernel
theorem D193_141 : decode (cod 193) 141 = .ok (.aload_n 0, 1) := by rw [cc_193]; decide +kernel
theorem D193_142 : decode (cod 193) 142 = .ok (.getfield 105, 3) := by rw [cc_193]; decide +kernel
theorem D193_145 : decode (cod 193) 145 = .ok (.iload 10, 2) := by rw [cc_193]; decide +kernel
theorem D193_147 : decode (cod 193) 147 = .ok (.iconst 0, 1) := by rw [cc_193]; decide +kernel
theorem D193_148 : decode (cod 193) 148 = .ok (.iastore, 1) := by rw [cc_193]; decide +kernel
theorem D193_149 : decode (cod 193) 149 = .ok (.iload 10, 2) := by rw [cc_193]; decide +kernel
theorem D193_151 : decode (cod 193) 151 = .ok (.aload_n 0, 1) := by rw [cc_193]; decide +kernel
theorem D193_152 : decode (cod 193) 152 = .ok (.getfield 236, 3) := by rw [cc_193]; decide +kernel
theorem D193_155 : decode (cod 193) 155 = .ok (.if_icmp .lt 6, 3) := by rw [cc_193]; decide +kernel
theorem D193_158 : decode (cod 193) 158 = .ok (.goto 69, 3) := by rw [cc_193]; decide +kernel
theorem D193_161 : decode (cod 193) 161 = .ok (.aload_n 0, 1) := by rw [cc_193]; decide +kernel
theorem D193_162 : decode (cod 193) 162 = .ok (.getfield 105, 3) := by rw [cc_193]; decide +kernel
theorem D193_165 : decode (cod 193) 165 = .ok (.iload 10, 2) := by rw [cc_193]; decide +kernel
theorem D193_167 : decode (cod 193) 167 = .ok (.iload_n 1, 1) := by rw [cc_193]; decide +kernel
theorem D193_168 : decode (cod 193) 168 = .ok (.ifCond .ne 21, 3) := by rw [cc_193]; decide +kernel
theorem D193_171 : decode (cod 193) 171 = .ok (.ldc2_w 441, 3) := by rw [cc_193]; decide +kernel
theorem D193_174 : decode (cod 193) 174 = .ok (.aload_n 0, 1) := by rw [cc_193]; decide +kernel
theorem D193_175 : decode (cod 193) 175 = .ok (.getfield 108, 3) := by rw [cc_193]; decide +kernel
theorem D193_178 : decode (cod 193) 178 = .ok (.iload 10, 2) := by rw [cc_193]; decide +kernel
theorem D193_180 : decode (cod 193) 180 = .ok (.iaload, 1) := by rw [cc_193]; decide +kernel
theorem D193_181 : decode (cod 193) 181 = .ok (.i2l, 1) := by rw [cc_193]; decide +kernel
theorem D193_182 : decode (cod 193) 182 = .ok (.lmul, 1) := by rw [cc_193]; decide +kernel
theorem D193_183 : decode (cod 193) 183 = .ok (.lload 6, 2) := by rw [cc_193]; decide +kernel
theorem D193_185 : decode (cod 193) 185 = .ok (.ldiv, 1) := by rw [cc_193]; decide +kernel
theorem D193_186 : decode (cod 193) 186 = .ok (.goto 26, 3) := by rw [cc_193]; decide +kernel
theorem D193_189 : decode (cod 193) 189 = .ok (.lload 8, 2) := by rw [cc_193]; decide +kernel
theorem D193_191 : decode (cod 193) 191 = .ok (.aload_n 0, 1) := by rw [cc_193]; decide +kernel
theorem D193_192 : decode (cod 193) 192 = .ok (.getfield 108, 3) := by rw [cc_193]; decide +kernel
theorem D193_195 : decode (cod 193) 195 = .ok (.iload 10, 2) := by rw [cc_193]; decide +kernel
theorem D193_197 : decode (cod 193) 197 = .ok (.iaload, 1) := by rw [cc_193]; decide +kernel
theorem D193_198 : decode (cod 193) 198 = .ok (.i2l, 1) := by rw [cc_193]; decide +kernel
theorem D193_199 : decode (cod 193) 199 = .ok (.lmul, 1) := by rw [cc_193]; decide +kernel
theorem D193_200 : decode (cod 193) 200 = .ok (.aload_n 0, 1) := by rw [cc_193]; decide +kernel
theorem D193_201 : decode (cod 193) 201 = .ok (.getfield 108, 3) := by rw [cc_193]; decide +kernel
theorem D193_204 : decode (cod 193) 204 = .ok (.iload 10, 2) := by rw [cc_193]; decide +kernel
theorem D193_206 : decode (cod 193) 206 = .ok (.iaload, 1) := by rw [cc_193]; decide +kernel
theorem D193_207 : decode (cod 193) 207 = .ok (.iload 5, 2) := by rw [cc_193]; decide +kernel
theorem D193_209 : decode (cod 193) 209 = .ok (.iadd, 1) := by rw [cc_193]; decide +kernel
theorem D193_210 : decode (cod 193) 210 = .ok (.i2l, 1) := by rw [cc_193]; decide +kernel
theorem D193_211 : decode (cod 193) 211 = .ok (.ldiv, 1) := by rw [cc_193]; decide +kernel
theorem D193_212 : decode (cod 193) 212 = .ok (.l2i, 1) := by rw [cc_193]; decide +kernel
theorem D193_213 : decode (cod 193) 213 = .ok (.iastore, 1) := by rw [cc_193]; decide +kernel
theorem D193_214 : decode (cod 193) 214 = .ok (.lload 8, 2) := by rw [cc_193]; decide +kernel
theorem D193_216 : decode (cod 193) 216 = .ok (.aload_n 0, 1) := by rw [cc_193]; decide +kernel
theorem D193_217 : decode (cod 193) 217 = .ok (.getfield 105, 3) := by rw [cc_193]; decide +kernel
theorem D193_220 : decode (cod 193) 220 = .ok (.iload 10, 2) := by rw [cc_193]; decide +kernel
theorem D193_222 : decode (cod 193) 222 = .ok (.iaload, 1) := by rw [cc_193]; decide +kernel
theorem D193_223 : decode (cod 193) 223 = .ok (.i2l, 1) := by rw [cc_193]; decide +kernel
theorem D193_224 : decode (cod 193) 224 = .ok (.lsub, 1) := by rw [cc_193]; decide +kernel
theorem D193_225 : decode (cod 193) 225 = .ok (.lstore 8, 2) := by rw [cc_193]; decide +kernel
theorem D193_227 : decode (cod 193) 227 = .ok (.iinc 10 1, 3) := by rw [cc_193]; decide +kernel
theorem D193_230 : decode (cod 193) 230 = .ok (.goto (-96), 3) := by rw [cc_193]; decide +kernel
theorem D193_233 : decode (cod 193) 233 = .ok (.aload_n 0, 1) := by rw [cc_193]; decide +kernel
theorem D193_234 : decode (cod 193) 234 = .ok (.getfield 105, 3) := by rw [cc_193]; decide +kernel
theorem D193_237 : decode (cod 193) 237 = .ok (.bipush 9, 2) := by rw [cc_193]; decide +kernel
theorem D193_239 : decode (cod 193) 239 = .ok (.lload 8, 2) := by rw [cc_193]; decide +kernel
theorem D193_241 : decode (cod 193) 241 = .ok (.l2i, 1) := by rw [cc_193]; decide +kernel
theorem D193_242 : decode (cod 193) 242 = .ok (.iastore, 1) := by rw [cc_193]; decide +kernel
theorem D193_243 : decode (cod 193) 243 = .ok (.return_, 1) := by rw [cc_193]; decide +kernel
theorem b193_0 {d : Nat} {i0 : Nat} {x1 x2 x3 : Int} {I L : Nat → Nat → Nat → Int} {t : Nat → Nat} : Res (d + 1) 193 0 [vr 12 i0, vi x1, vi x2, vi x3, vx, vx, vx, vx, vx, vx, vx] [] (mk I L t) = (Cal d 185 [vr 12 i0] (mk I L t)).bind fun v => Res (d + 1) 193 4 [vr 12 i0, vi x1, vi x2, vi x3, vx, vx, vx, vx, vx, vx, vx] (psh 185 v.1 []) v.2 :=
  Eq.trans (e_aload_n D193_0 rfl rfl) <| e_callV D193_1 rfl o_193 m_12_419 (by decide) rfl rfl
theorem b193_4 {d : Nat} {i0 : Nat} {x1 x2 x3 : Int} {I L : Nat → Nat → Nat → Int} {t : Nat → Nat} : Res (d + 1) 193 4 [vr 12 i0, vi x1, vi x2, vi x3, vx, vx, vx, vx, vx, vx, vx] [] (mk I L t) = (Cal d 184 [vr 12 i0, vi 4] (mk I L t)).bind fun v => Res (d + 1) 193 9 [vr 12 i0, vi x1, vi x2, vi x3, vx, vx, vx, vx, vx, vx, vx] (psh 184 v.1 []) v.2 :=
  Eq.trans (e_aload_n D193_4 rfl rfl) <| Eq.trans (e_iconst (x := 4) D193_5 rfl rfl) <| e_callV D193_6 rfl o_193 m_12_432 (by decide) rfl rfl
theorem b193_9 {d : Nat} {i0 : Nat} {x1 x2 x3 xs0 : Int} {I L : Nat → Nat → Nat → Int} {t : Nat → Nat} : Res (d + 1) 193 9 [vr 12 i0, vi x1, vi x2, vi x3, vx, vx, vx, vx, vx, vx, vx] [vi xs0] (mk I L t) = (Cal d 184 [vr 12 i0, vi 5] (mk I L t)).bind fun v => Res (d + 1) 193 16 [vr 12 i0, vi x1, vi x2, vi x3, vi xs0, vx, vx, vx, vx, vx, vx] (psh 184 v.1 []) v.2 :=
  Eq.trans (e_istore (ls1 := [vr 12 i0, vi x1, vi x2, vi x3, vi xs0, vx, vx, vx, vx, vx, vx]) D193_9 rfl (show 4 < 11 by decide) rfl) <| Eq.trans (e_aload_n D193_11 rfl rfl) <| Eq.trans (e_iconst (x := 5) D193_12 rfl rfl) <| e_callV D193_13 rfl o_193 m_12_432 (by decide) rfl rfl
theorem b193_16 {d : Nat} {i0 : Nat} {x1 x2 x3 x4 xs0 : Int} {I L : Nat → Nat → Nat → Int} {t : Nat → Nat} : Res d 193 16 [vr 12 i0, vi x1, vi x2, vi x3, vi x4, vx, vx, vx, vx, vx, vx] [vi xs0] (mk I L t) = Res d 193 26 [vr 12 i0, vi x1, vi x2, vi x3, vi x4, vi xs0, vl xs0, vx, vi 0, vx, vx] [] (mk I L t) :=
  Eq.trans (e_istore (ls1 := [vr 12 i0, vi x1, vi x2, vi x3, vi x4, vi xs0, vx, vx, vx, vx, vx]) D193_16 rfl (show 5 < 11 by decide) rfl) <| Eq.trans (e_iload D193_18 rfl rfl) <| Eq.trans (e_i2l D193_20 rfl) <| Eq.trans (e_lstore (ls1 := [vr 12 i0, vi x1, vi x2, vi x3, vi x4, vi xs0, vl xs0, vx, vx, vx, vx]) D193_21 rfl (show 7 < 11 by decide) rfl) <| Eq.trans (e_iconst (x := 0) D193_23 rfl rfl) <| e_istore (ls1 := [vr 12 i0, vi x1, vi x2, vi x3, vi x4, vi xs0, vl xs0, vx, vi 0, vx, vx]) D193_24 rfl (show 8 < 11 by decide) rfl
theorem b193_26 {d : Nat} {i0 : Nat} {x1 x2 x3 x4 x5 x6 x8 : Int} {u9 : MV} {I L : Nat → Nat → Nat → Int} {t : Nat → Nat} : Res d 193 26 [vr 12 i0, vi x1, vi x2, vi x3, vi x4, vi x5, vl x6, vx, vi x8, u9, vx] [] (mk I L t) = if I 12 i0 12 ≤ x8 then Res d 193 126 [vr 12 i0, vi x1, vi x2, vi x3, vi x4, vi x5, vl x6, vx, vi x8, u9, vx] [] (mk I L t) else Res d 193 35 [vr 12 i0, vi x1, vi x2, vi x3, vi x4, vi x5, vl x6, vx, vi x8, u9, vx] [] (mk I L t) :=
  Eq.trans (e_iload D193_26 rfl rfl) <| Eq.trans (e_aload_n D193_28 rfl rfl) <| Eq.trans (e_getI D193_29 rfl o_193 f_12_236 (sh_12 _) (by decide)) <| e_icge D193_32 rfl rfl
theorem b193_35 {d : Nat} {i0 : Nat} {x1 x2 x3 x4 x5 x6 x8 : Int} {u9 : MV} {I L : Nat → Nat → Nat → Int} {t : Nat → Nat} (g1 : 0 ≤ x8 ∧ x8 < 9) : Res d 193 35 [vr 12 i0, vi x1, vi x2, vi x3, vi x4, vi x5, vl x6, vx, vi x8, u9, vx] [] (mk I L t) = if ¬ I 54 i0 x8.toNat = -1 then Res d 193 50 [vr 12 i0, vi x1, vi x2, vi x3, vi x4, vi x5, vl x6, vx, vi x8, u9, vx] [] (mk I L t) else Res d 193 46 [vr 12 i0, vi x1, vi x2, vi x3, vi x4, vi x5, vl x6, vx, vi x8, u9, vx] [] (mk I L t) :=
  Eq.trans (e_aload_n D193_35 rfl rfl) <| Eq.trans (e_getP (p := (54, i0)) D193_36 rfl o_193 f_12_28 (sh_12 _) (by decide) (pp_12_11 _ _)) <| Eq.trans (e_iload D193_39 rfl rfl) <| Eq.trans (e_iald D193_41 rfl (al_54 _) g1) <| Eq.trans (e_iconst (x := -1) D193_42 rfl rfl) <| e_icne D193_43 rfl rfl
theorem b193_46 {d : Nat} {i0 : Nat} {x1 x2 x3 x4 x5 x6 x8 : Int} {u9 : MV} {I L : Nat → Nat → Nat → Int} {t : Nat → Nat} : Res d 193 46 [vr 12 i0, vi x1, vi x2, vi x3, vi x4, vi x5, vl x6, vx, vi x8, u9, vx] [] (mk I L t) = Res d 193 64 [vr 12 i0, vi x1, vi x2, vi x3, vi x4, vi x5, vl x6, vx, vi x8, u9, vx] [vi 0] (mk I L t) :=
  Eq.trans (e_iconst (x := 0) D193_46 rfl rfl) <| e_goto (q1 := 64) D193_47 rfl
theorem b193_50 {d : Nat} {i0 : Nat} {x1 x2 x3 x4 x5 x6 x8 : Int} {u9 : MV} {I L : Nat → Nat → Nat → Int} {t : Nat → Nat} (g1 : 0 ≤ x8 ∧ x8 < 9) : Res (d + 1) 193 50 [vr 12 i0, vi x1, vi x2, vi x3, vi x4, vi x5, vl x6, vx, vi x8, u9, vx] [] (mk I L t) = (Cal d 188 [vr 12 i0, vi (I 54 i0 x8.toNat)] (mk I L t)).bind fun v => Res (d + 1) 193 63 [vr 12 i0, vi x1, vi x2, vi x3, vi x4, vi x5, vl x6, vx, vi x8, u9, vx] (psh 188 v.1 [vi x4]) v.2 :=
  Eq.trans (e_iload D193_50 rfl rfl) <| Eq.trans (e_aload_n D193_52 rfl rfl) <| Eq.trans (e_aload_n D193_53 rfl rfl) <| Eq.trans (e_getP (p := (54, i0)) D193_54 rfl o_193 f_12_28 (sh_12 _) (by decide) (pp_12_11 _ _)) <| Eq.trans (e_iload D193_57 rfl rfl) <| Eq.trans (e_iald D193_59 rfl (al_54 _) g1) <| e_callV D193_60 rfl o_193 m_12_438 (by decide) rfl rfl
theorem b193_63 {d : Nat} {i0 : Nat} {x1 x2 x3 x4 x5 x6 x8 xs1 xs0 : Int} {u9 : MV} {I L : Nat → Nat → Nat → Int} {t : Nat → Nat} : Res d 193 63 [vr 12 i0, vi x1, vi x2, vi x3, vi x4, vi x5, vl x6, vx, vi x8, u9, vx] [vi xs1, vi xs0] (mk I L t) = Res d 193 64 [vr 12 i0, vi x1, vi x2, vi x3, vi x4, vi x5, vl x6, vx, vi x8, u9, vx] [vi (w32 (xs0 - xs1))] (mk I L t) :=
  e_isub D193_63 rfl
theorem b193_64 {d : Nat} {i0 : Nat} {x1 x2 x3 x4 x5 x6 x8 xs0 : Int} {u9 : MV} {I L : Nat → Nat → Nat → Int} {t : Nat → Nat} : Res d 193 64 [vr 12 i0, vi x1, vi x2, vi x3, vi x4, vi x5, vl x6, vx, vi x8, u9, vx] [vi xs0] (mk I L t) = if 0 ≤ xs0 then Res d 193 81 [vr 12 i0, vi x1, vi x2, vi x3, vi x4, vi x5, vl x6, vx, vi x8, vi xs0, vx] [vi x8, vr 79 i0] (mk I L t) else Res d 193 77 [vr 12 i0, vi x1, vi x2, vi x3, vi x4, vi x5, vl x6, vx, vi x8, vi xs0, vx] [vi x8, vr 79 i0] (mk I L t) :=
  Eq.trans (e_istore (ls1 := [vr 12 i0, vi x1, vi x2, vi x3, vi x4, vi x5, vl x6, vx, vi x8, vi xs0, vx]) D193_64 rfl (show 9 < 11 by decide) rfl) <| Eq.trans (e_aload_n D193_66 rfl rfl) <| Eq.trans (e_getP (p := (79, i0)) D193_67 rfl o_193 f_12_108 (sh_12 _) (by decide) (pp_12_57 _ _)) <| Eq.trans (e_iload D193_70 rfl rfl) <| Eq.trans (e_iload D193_72 rfl rfl) <| e_ifge D193_74 rfl rfl
theorem b193_77 {d : Nat} {i0 is0 : Nat} {x1 x2 x3 x4 x5 x6 x8 x9 xs1 : Int} {I L : Nat → Nat → Nat → Int} {t : Nat → Nat} : Res d 193 77 [vr 12 i0, vi x1, vi x2, vi x3, vi x4, vi x5, vl x6, vx, vi x8, vi x9, vx] [vi xs1, vr 79 is0] (mk I L t) = Res d 193 83 [vr 12 i0, vi x1, vi x2, vi x3, vi x4, vi x5, vl x6, vx, vi x8, vi x9, vx] [vi 0, vi xs1, vr 79 is0] (mk I L t) :=
  Eq.trans (e_iconst (x := 0) D193_77 rfl rfl) <| e_goto (q1 := 83) D193_78 rfl
theorem b193_81 {d : Nat} {i0 is0 : Nat} {x1 x2 x3 x4 x5 x6 x8 x9 xs1 : Int} {I L : Nat → Nat → Nat → Int} {t : Nat → Nat} : Res d 193 81 [vr 12 i0, vi x1, vi x2, vi x3, vi x4, vi x5, vl x6, vx, vi x8, vi x9, vx] [vi xs1, vr 79 is0] (mk I L t) = Res d 193 83 [vr 12 i0, vi x1, vi x2, vi x3, vi x4, vi x5, vl x6, vx, vi x8, vi x9, vx] [vi x9, vi xs1, vr 79 is0] (mk I L t) :=
  e_iload D193_81 rfl rfl
theorem b193_83 {d : Nat} {i0 is0 : Nat} {x1 x2 x3 x4 x5 x6 x8 x9 xs2 xs1 : Int} {I L : Nat → Nat → Nat → Int} {t : Nat → Nat} (g1 : 0 ≤ x8 ∧ x8 < 9) : Res d 193 83 [vr 12 i0, vi x1, vi x2, vi x3, vi x4, vi x5, vl x6, vx, vi x8, vi x9, vx] [vi xs2, vi xs1, vr 79 is0] (mk I L t) = if I 54 i0 x8.toNat = -1 then Res d 193 104 [vr 12 i0, vi x1, vi x2, vi x3, vi x4, vi x5, vl x6, vx, vi x8, vi x9, vx] [vi xs2, vi xs1, vr 79 is0] (mk I L t) else Res d 193 94 [vr 12 i0, vi x1, vi x2, vi x3, vi x4, vi x5, vl x6, vx, vi x8, vi x9, vx] [vi xs2, vi xs1, vr 79 is0] (mk I L t) :=
  Eq.trans (e_aload_n D193_83 rfl rfl) <| Eq.trans (e_getP (p := (54, i0)) D193_84 rfl o_193 f_12_28 (sh_12 _) (by decide) (pp_12_11 _ _)) <| Eq.trans (e_iload D193_87 rfl rfl) <| Eq.trans (e_iald D193_89 rfl (al_54 _) g1) <| Eq.trans (e_iconst (x := -1) D193_90 rfl rfl) <| e_iceq D193_91 rfl rfl
theorem b193_94 {d : Nat} {i0 is0 : Nat} {x1 x2 x3 x4 x5 x6 x8 x9 xs2 xs1 : Int} {I L : Nat → Nat → Nat → Int} {t : Nat → Nat} : Res d 193 94 [vr 12 i0, vi x1, vi x2, vi x3, vi x4, vi x5, vl x6, vx, vi x8, vi x9, vx] [vi xs2, vi xs1, vr 79 is0] (mk I L t) = if ¬ x8 = x2 then Res d 193 104 [vr 12 i0, vi x1, vi x2, vi x3, vi x4, vi x5, vl x6, vx, vi x8, vi x9, vx] [vi xs2, vi xs1, vr 79 is0] (mk I L t) else Res d 193 100 [vr 12 i0, vi x1, vi x2, vi x3, vi x4, vi x5, vl x6, vx, vi x8, vi x9, vx] [vi xs2, vi xs1, vr 79 is0] (mk I L t) :=
  Eq.trans (e_iload D193_94 rfl rfl) <| Eq.trans (e_iload_n D193_96 rfl rfl) <| e_icne D193_97 rfl rfl
theorem b193_100 {d : Nat} {i0 is0 : Nat} {x1 x2 x3 x4 x5 x6 x8 x9 xs2 xs1 : Int} {I L : Nat → Nat → Nat → Int} {t : Nat → Nat} : Res d 193 100 [vr 12 i0, vi x1, vi x2, vi x3, vi x4, vi x5, vl x6, vx, vi x8, vi x9, vx] [vi xs2, vi xs1, vr 79 is0] (mk I L t) = Res d 193 105 [vr 12 i0, vi x1, vi x2, vi x3, vi x4, vi x5, vl x6, vx, vi x8, vi x9, vx] [vi x3, vi xs2, vi xs1, vr 79 is0] (mk I L t) :=
  Eq.trans (e_iload_n D193_100 rfl rfl) <| e_goto (q1 := 105) D193_101 rfl
theorem b193_104 {d : Nat} {i0 is0 : Nat} {x1 x2 x3 x4 x5 x6 x8 x9 xs2 xs1 : Int} {I L : Nat → Nat → Nat → Int} {t : Nat → Nat} : Res d 193 104 [vr 12 i0, vi x1, vi x2, vi x3, vi x4, vi x5, vl x6, vx, vi x8, vi x9, vx] [vi xs2, vi xs1, vr 79 is0] (mk I L t) = Res d 193 105 [vr 12 i0, vi x1, vi x2, vi x3, vi x4, vi x5, vl x6, vx, vi x8, vi x9, vx] [vi 0, vi xs2, vi xs1, vr 79 is0] (mk I L t) :=
  e_iconst (x := 0) D193_104 rfl rfl
theorem b193_105 {d : Nat} {i0 is0 : Nat} {x1 x2 x3 x4 x5 x6 x8 x9 xs3 xs2 xs1 : Int} {I L : Nat → Nat → Nat → Int} {t : Nat → Nat} (g1 : 0 ≤ xs1 ∧ xs1 < 9) (g2 : 0 ≤ x8 ∧ x8 < 9) : Res d 193 105 [vr 12 i0, vi x1, vi x2, vi x3, vi x4, vi x5, vl x6, vx, vi x8, vi x9, vx] [vi xs3, vi xs2, vi xs1, vr 79 is0] (mk I L t) = Res d 193 26 [vr 12 i0, vi x1, vi x2, vi x3, vi x4, vi x5, vl (w64 (x6 + ((up3 I 79 is0 xs1.toNat (w32 (xs2 + xs3))) 79 i0 x8.toNat))), vx, vi (w32 (x8 + 1)), vi x9, vx] [] (mk (up3 I 79 is0 xs1.toNat (w32 (xs2 + xs3))) L t) :=
  Eq.trans (e_iadd D193_105 rfl) <| Eq.trans (e_iast D193_106 rfl (al_79 _) rfl g1) <| Eq.trans (e_lload D193_107 rfl rfl) <| Eq.trans (e_aload_n D193_109 rfl rfl) <| Eq.trans (e_getP (p := (79, i0)) D193_110 rfl o_193 f_12_108 (sh_12 _) (by decide) (pp_12_57 _ _)) <| Eq.trans (e_iload D193_113 rfl rfl) <| Eq.trans (e_iald D193_115 rfl (al_79 _) g2) <| Eq.trans (e_i2l D193_116 rfl) <| Eq.trans (e_ladd D193_117 rfl) <| Eq.trans (e_lstore (ls1 := [vr 12 i0, vi x1, vi x2, vi x3, vi x4, vi x5, vl (w64 (x6 + ((up3 I 79 is0 xs1.toNat (w32 (xs2 + xs3))) 79 i0 x8.toNat))), vx, vi x8, vi x9, vx]) D193_118 rfl (show 7 < 11 by decide) rfl) <| Eq.trans (e_iinc (ls1 := [vr 12 i0, vi x1, vi x2, vi x3, vi x4, vi x5, vl (w64 (x6 + ((up3 I 79 is0 xs1.toNat (w32 (xs2 + xs3))) 79 i0 x8.toNat))), vx, vi (w32 (x8 + 1)), vi x9, vx]) D193_120 rfl rfl rfl) <| e_goto (q1 := 26) D193_123 rfl
theorem b193_126 {d : Nat} {i0 : Nat} {x1 x2 x3 x4 x5 x6 x8 : Int} {u9 : MV} {I L : Nat → Nat → Nat → Int} {t : Nat → Nat} : Res d 193 126 [vr 12 i0, vi x1, vi x2, vi x3, vi x4, vi x5, vl x6, vx, vi x8, u9, vx] [] (mk I L t) = Res d 193 134 [vr 12 i0, vi x1, vi x2, vi x3, vi x4, vi x5, vl x6, vx, vl 1000000, vx, vi 0] [] (mk I L t) :=
  Eq.trans (e_ldc2 (x := 1000000) D193_126 rfl o_193 l_12_441 rfl) <| Eq.trans (e_lstore (ls1 := [vr 12 i0, vi x1, vi x2, vi x3, vi x4, vi x5, vl x6, vx, vl 1000000, vx, vx]) D193_129 rfl (show 9 < 11 by decide) rfl) <| Eq.trans (e_iconst (x := 0) D193_131 rfl rfl) <| e_istore (ls1 := [vr 12 i0, vi x1, vi x2, vi x3, vi x4, vi x5, vl x6, vx, vl 1000000, vx, vi 0]) D193_132 rfl (show 10 < 11 by decide) rfl
theorem b193_134 {d : Nat} {i0 : Nat} {x1 x2 x3 x4 x5 x6 x8 x10 : Int} {I L : Nat → Nat → Nat → Int} {t : Nat → Nat} : Res d 193 134 [vr 12 i0, vi x1, vi x2, vi x3, vi x4, vi x5, vl x6, vx, vl x8, vx, vi x10] [] (mk I L t) = if 9 ≤ x10 then Res d 193 233 [vr 12 i0, vi x1, vi x2, vi x3, vi x4, vi x5, vl x6, vx, vl x8, vx, vi x10] [] (mk I L t) else Res d 193 141 [vr 12 i0, vi x1, vi x2, vi x3, vi x4, vi x5, vl x6, vx, vl x8, vx, vi x10] [] (mk I L t) :=
  Eq.trans (e_iload D193_134 rfl rfl) <| Eq.trans (e_bipush (x := 9) D193_136 rfl rfl) <| e_icge D193_138 rfl rfl
theorem b193_141 {d : Nat} {i0 : Nat} {x1 x2 x3 x4 x5 x6 x8 x10 : Int} {I L : Nat → Nat → Nat → Int} {t : Nat → Nat} (g1 : 0 ≤ x10 ∧ x10 < 10) : Res d 193 141 [vr 12 i0, vi x1, vi x2, vi x3, vi x4, vi x5, vl x6, vx, vl x8, vx, vi x10] [] (mk I L t) = if x10 < (up3 I 78 i0 x10.toNat 0) 12 i0 12 then Res d 193 161 [vr 12 i0, vi x1, vi x2, vi x3, vi x4, vi x5, vl x6, vx, vl x8, vx, vi x10] [] (mk (up3 I 78 i0 x10.toNat 0) L t) else Res d 193 158 [vr 12 i0, vi x1, vi x2, vi x3, vi x4, vi x5, vl x6, vx, vl x8, vx, vi x10] [] (mk (up3 I 78 i0 x10.toNat 0) L t) :=
  Eq.trans (e_aload_n D193_141 rfl rfl) <| Eq.trans (e_getP (p := (78, i0)) D193_142 rfl o_193 f_12_105 (sh_12 _) (by decide) (pp_12_56 _ _)) <| Eq.trans (e_iload D193_145 rfl rfl) <| Eq.trans (e_iconst (x := 0) D193_147 rfl rfl) <| Eq.trans (e_iast D193_148 rfl (al_78 _) rfl g1) <| Eq.trans (e_iload D193_149 rfl rfl) <| Eq.trans (e_aload_n D193_151 rfl rfl) <| Eq.trans (e_getI D193_152 rfl o_193 f_12_236 (sh_12 _) (by decide)) <| e_iclt D193_155 rfl rfl
theorem b193_158 {d : Nat} {i0 : Nat} {x1 x2 x3 x4 x5 x6 x8 x10 : Int} {I L : Nat → Nat → Nat → Int} {t : Nat → Nat} : Res d 193 158 [vr 12 i0, vi x1, vi x2, vi x3, vi x4, vi x5, vl x6, vx, vl x8, vx, vi x10] [] (mk I L t) = Res d 193 227 [vr 12 i0, vi x1, vi x2, vi x3, vi x4, vi x5, vl x6, vx, vl x8, vx, vi x10] [] (mk I L t) :=
  e_goto (q1 := 227) D193_158 rfl
theorem b193_161 {d : Nat} {i0 : Nat} {x1 x2 x3 x4 x5 x6 x8 x10 : Int} {I L : Nat → Nat → Nat → Int} {t : Nat → Nat} : Res d 193 161 [vr 12 i0, vi x1, vi x2, vi x3, vi x4, vi x5, vl x6, vx, vl x8, vx, vi x10] [] (mk I L t) = if ¬ x1 = 0 then Res d 193 189 [vr 12 i0, vi x1, vi x2, vi x3, vi x4, vi x5, vl x6, vx, vl x8, vx, vi x10] [vi x10, vr 78 i0] (mk I L t) else Res d 193 171 [vr 12 i0, vi x1, vi x2, vi x3, vi x4, vi x5, vl x6, vx, vl x8, vx, vi x10] [vi x10, vr 78 i0] (mk I L t) :=
  Eq.trans (e_aload_n D193_161 rfl rfl) <| Eq.trans (e_getP (p := (78, i0)) D193_162 rfl o_193 f_12_105 (sh_12 _) (by decide) (pp_12_56 _ _)) <| Eq.trans (e_iload D193_165 rfl rfl) <| Eq.trans (e_iload_n D193_167 rfl rfl) <| e_ifne D193_168 rfl rfl
theorem b193_171 {d : Nat} {i0 is0 : Nat} {x1 x2 x3 x4 x5 x6 x8 x10 xs1 : Int} {I L : Nat → Nat → Nat → Int} {t : Nat → Nat} (g1 : 0 ≤ x10 ∧ x10 < 9) (g2 : x6 ≠ 0) : Res d 193 171 [vr 12 i0, vi x1, vi x2, vi x3, vi x4, vi x5, vl x6, vx, vl x8, vx, vi x10] [vi xs1, vr 78 is0] (mk I L t) = Res d 193 212 [vr 12 i0, vi x1, vi x2, vi x3, vi x4, vi x5, vl x6, vx, vl x8, vx, vi x10] [vl (vLdiv (w64 (1000000 * (I 79 i0 x10.toNat))) x6), vi xs1, vr 78 is0] (mk I L t) :=
  Eq.trans (e_ldc2 (x := 1000000) D193_171 rfl o_193 l_12_441 rfl) <| Eq.trans (e_aload_n D193_174 rfl rfl) <| Eq.trans (e_getP (p := (79, i0)) D193_175 rfl o_193 f_12_108 (sh_12 _) (by decide) (pp_12_57 _ _)) <| Eq.trans (e_iload D193_178 rfl rfl) <| Eq.trans (e_iald D193_180 rfl (al_79 _) g1) <| Eq.trans (e_i2l D193_181 rfl) <| Eq.trans (e_lmul D193_182 rfl) <| Eq.trans (e_lload D193_183 rfl rfl) <| Eq.trans (e_ldiv D193_185 rfl g2) <| e_goto (q1 := 212) D193_186 rfl
theorem b193_189 {d : Nat} {i0 is0 : Nat} {x1 x2 x3 x4 x5 x6 x8 x10 xs1 : Int} {I L : Nat → Nat → Nat → Int} {t : Nat → Nat} (g1 : 0 ≤ x10 ∧ x10 < 9) (g2 : w32 ((I 79 i0 x10.toNat) + x5) ≠ 0) : Res d 193 189 [vr 12 i0, vi x1, vi x2, vi x3, vi x4, vi x5, vl x6, vx, vl x8, vx, vi x10] [vi xs1, vr 78 is0] (mk I L t) = Res d 193 212 [vr 12 i0, vi x1, vi x2, vi x3, vi x4, vi x5, vl x6, vx, vl x8, vx, vi x10] [vl (vLdiv (w64 (x8 * (I 79 i0 x10.toNat))) (w32 ((I 79 i0 x10.toNat) + x5))), vi xs1, vr 78 is0] (mk I L t) :=
  Eq.trans (e_lload D193_189 rfl rfl) <| Eq.trans (e_aload_n D193_191 rfl rfl) <| Eq.trans (e_getP (p := (79, i0)) D193_192 rfl o_193 f_12_108 (sh_12 _) (by decide) (pp_12_57 _ _)) <| Eq.trans (e_iload D193_195 rfl rfl) <| Eq.trans (e_iald D193_197 rfl (al_79 _) g1) <| Eq.trans (e_i2l D193_198 rfl) <| Eq.trans (e_lmul D193_199 rfl) <| Eq.trans (e_aload_n D193_200 rfl rfl) <| Eq.trans (e_getP (p := (79, i0)) D193_201 rfl o_193 f_12_108 (sh_12 _) (by decide) (pp_12_57 _ _)) <| Eq.trans (e_iload D193_204 rfl rfl) <| Eq.trans (e_iald D193_206 rfl (al_79 _) g1) <| Eq.trans (e_iload D193_207 rfl rfl) <| Eq.trans (e_iadd D193_209 rfl) <| Eq.trans (e_i2l D193_210 rfl) <| e_ldiv D193_211 rfl g2
theorem b193_212 {d : Nat} {i0 is0 : Nat} {x1 x2 x3 x4 x5 x6 x8 x10 xs2 xs1 : Int} {I L : Nat → Nat → Nat → Int} {t : Nat → Nat} (g1 : 0 ≤ xs1 ∧ xs1 < 10) (g2 : 0 ≤ x10 ∧ x10 < 10) : Res d 193 212 [vr 12 i0, vi x1, vi x2, vi x3, vi x4, vi x5, vl x6, vx, vl x8, vx, vi x10] [vl xs2, vi xs1, vr 78 is0] (mk I L t) = Res d 193 227 [vr 12 i0, vi x1, vi x2, vi x3, vi x4, vi x5, vl x6, vx, vl (w64 (x8 - ((up3 I 78 is0 xs1.toNat (w32 xs2)) 78 i0 x10.toNat))), vx, vi x10] [] (mk (up3 I 78 is0 xs1.toNat (w32 xs2)) L t) :=
  Eq.trans (e_l2i D193_212 rfl) <| Eq.trans (e_iast D193_213 rfl (al_78 _) rfl g1) <| Eq.trans (e_lload D193_214 rfl rfl) <| Eq.trans (e_aload_n D193_216 rfl rfl) <| Eq.trans (e_getP (p := (78, i0)) D193_217 rfl o_193 f_12_105 (sh_12 _) (by decide) (pp_12_56 _ _)) <| Eq.trans (e_iload D193_220 rfl rfl) <| Eq.trans (e_iald D193_222 rfl (al_78 _) g2) <| Eq.trans (e_i2l D193_223 rfl) <| Eq.trans (e_lsub D193_224 rfl) <| e_lstore (ls1 := [vr 12 i0, vi x1, vi x2, vi x3, vi x4, vi x5, vl x6, vx, vl (w64 (x8 - ((up3 I 78 is0 xs1.toNat (w32 xs2)) 78 i0 x10.toNat))), vx, vi x10]) D193_225 rfl (show 9 < 11 by decide) rfl
theorem b193_227 {d : Nat} {i0 : Nat} {x1 x2 x3 x4 x5 x6 x8 x10 : Int} {I L : Nat → Nat → Nat → Int} {t : Nat → Nat} : Res d 193 227 [vr 12 i0, vi x1, vi x2, vi x3, vi x4, vi x5, vl x6, vx, vl x8, vx, vi x10] [] (mk I L t) = Res d 193 134 [vr 12 i0, vi x1, vi x2, vi x3, vi x4, vi x5, vl x6, vx, vl x8, vx, vi (w32 (x10 + 1))] [] (mk I L t) :=
  Eq.trans (e_iinc (ls1 := [vr 12 i0, vi x1, vi x2, vi x3, vi x4, vi x5, vl x6, vx, vl x8, vx, vi (w32 (x10 + 1))]) D193_227 rfl rfl rfl) <| e_goto (q1 := 134) D193_230 rfl
theorem b193_233 {d : Nat} {i0 : Nat} {x1 x2 x3 x4 x5 x6 x8 x10 : Int} {I L : Nat → Nat → Nat → Int} {t : Nat → Nat} : Res d 193 233 [vr 12 i0, vi x1, vi x2, vi x3, vi x4, vi x5, vl x6, vx, vl x8, vx, vi x10] [] (mk I L t) = some (vx, (mk (up3 I 78 i0 9 (w32 x8)) L t)) :=
  Eq.trans (e_aload_n D193_233 rfl rfl) <| Eq.trans (e_getP (p := (78, i0)) D193_234 rfl o_193 f_12_105 (sh_12 _) (by decide) (pp_12_56 _ _)) <| Eq.trans (e_bipush (x := 9) D193_237 rfl rfl) <| Eq.trans (e_lload D193_239 rfl rfl) <| Eq.trans (e_l2i D193_241 rfl) <| Eq.trans (e_iast D193_242 rfl (al_78 _) rfl (by decide)) <| e_vret D193_243 rfl
/-! m_sureOf -/
theorem cc_194 : cod 194 = cX12_sureOf := rfl
theorem D194_0 : decode (cod 194) 0 = .ok (.aload_n 0, 1) := by rw [cc_194]; decide +kernel
theorem D194_1 : decode (cod 194) 1 = .ok (.aload_n 0, 1) := by rw [cc_194]; decide +kernel
theorem D194_2 : decode (cod 194) 2 = .ok (.getfield 28, 3) := by rw [cc_194]; decide +kernel
theorem D194_5 : decode (cod 194) 5 = .ok (.iload_n 1, 1) := by rw [cc_194]; decide +kernel
theorem D194_6 : decode (cod 194) 6 = .ok (.iaload, 1) := by rw [cc_194]; decide +kernel
theorem D194_7 : decode (cod 194) 7 = .ok (.invokevirtual 438, 3) := by rw [cc_194]; decide +kernel
theorem D194_10 : decode (cod 194) 10 = .ok (.istore_n 2, 1) := by rw [cc_194]; decide +kernel
theorem D194_11 : decode (cod 194) 11 = .ok (.iconst (-1), 1) := by rw [cc_194]; decide +kernel
theorem D194_12 : decode (cod 194) 12 = .ok (.istore_n 3, 1) := by rw [cc_194]; decide +kernel
theorem D194_13 : decode (cod 194) 13 = .ok (.iconst 0, 1) := by rw [cc_194]; decide +kernel
theorem D194_14 : decode (cod 194) 14 = .ok (.istore 4, 2) := by rw [cc_194]; decide +kernel
theorem D194_16 : decode (cod 194) 16 = .ok (.iload 4, 2) := by rw [cc_194]; decide +kernel
theorem D194_18 : decode (cod 194) 18 = .ok (.aload_n 0, 1) := by rw [cc_194]; decide +kernel
theorem D194_19 : decode (cod 194) 19 = .ok (.getfield 236, 3) := by rw [cc_194]; decide +kernel
theorem D194_22 : decode (cod 194) 22 = .ok (.if_icmp .ge 56, 3) := by rw [cc_194]; decide +kernel
theorem D194_25 : decode (cod 194) 25 = .ok (.iload 4, 2) := by rw [cc_194]; decide +kernel
theorem D194_27 : decode (cod 194) 27 = .ok (.iload_n 1, 1) := by rw [cc_194]; decide +kernel
theorem D194_28 : decode (cod 194) 28 = .ok (.if_icmp .eq 44, 3) := by rw [cc_194]; decide +kernel
theorem D194_31 : decode (cod 194) 31 = .ok (.aload_n 0, 1) := by rw [cc_194]; decide +kernel
theorem D194_32 : decode (cod 194) 32 = .ok (.getfield 28, 3) := by rw [cc_194]; decide +kernel
theorem D194_35 : decode (cod 194) 35 = .ok (.iload 4, 2) := by rw [cc_194]; decide +kernel
theorem D194_37 : decode (cod 194) 37 = .ok (.iaload, 1) := by rw [cc_194]; decide +kernel
theorem D194_38 : decode (cod 194) 38 = .ok (.iconst (-1), 1) := by rw [cc_194]; decide +kernel
theorem D194_39 : decode (cod 194) 39 = .ok (.if_icmp .ne 6, 3) := by rw [cc_194]; decide +kernel
theorem D194_42 : decode (cod 194) 42 = .ok (.goto 30, 3) := by rw [cc_194]; decide +kernel
theorem D194_45 : decode (cod 194) 45 = .ok (.aload_n 0, 1) := by rw [cc_194]; decide +kernel
theorem D194_46 : decode (cod 194) 46 = .ok (.aload_n 0, 1) := by rw [cc_194]; decide +kernel
theorem D194_47 : decode (cod 194) 47 = .ok (.getfield 28, 3) := by rw [cc_194]; decide +kernel
theorem D194_50 : decode (cod 194) 50 = .ok (.iload 4, 2) := by rw [cc_194]; decide +kernel
theorem D194_52 : decode (cod 194) 52 = .ok (.iaload, 1) := by rw [cc_194]; decide +kernel
theorem D194_53 : decode (cod 194) 53 = .ok (.invokevirtual 438, 3) := by rw [cc_194]; decide +kernel
theorem D194_56 : decode (cod 194) 56 = .ok (.istore 5, 2) := by rw [cc_194]; decide +kernel
theorem D194_58 : decode (cod 194) 58 = .ok (.iload_n 3, 1) := by rw [cc_194]; decide +kernel
theorem D194_59 : decode (cod 194) 59 = .ok (.iconst (-1), 1) := by rw [cc_194]; decide +kernel
theorem D194_60 : decode (cod 194) 60 = .ok (.if_icmp .eq 9, 3) := by rw [cc_194]; decide +kernel
theorem D194_63 : decode (cod 194) 63 = .ok (.iload 5, 2) := by rw [cc_194]; decide +kernel
theorem D194_65 : decode (cod 194) 65 = .ok (.iload_n 3, 1) := by rw [cc_194]; decide +kernel
theorem D194_66 : decode (cod 194) 66 = .ok (.if_icmp .ge 6, 3) := by rw [cc_194]; decide +kernel
theorem D194_69 : decode (cod 194) 69 = .ok (.iload 5, 2) := by rw [cc_194]; decide +kernel
theorem D194_71 : decode (cod 194) 71 = .ok (.istore_n 3, 1) := by rw [cc_194]; decide +kernel
theorem D194_72 : decode (cod 194) 72 = .ok (.iinc 4 1, 3) := by rw [cc_194]; decide +kernel
theorem D194_75 : decode (cod 194) 75 = .ok (.goto (-59), 3) := by rw [cc_194]; decide +kernel
theorem D194_78 : decode (cod 194) 78 = .ok (.aload_n 0, 1) := by rw [cc_194]; decide +kernel
theorem D194_79 : decode (cod 194) 79 = .ok (.aload_n 0, 1) := by rw [cc_194]; decide +kernel
theorem D194_80 : decode (cod 194) 80 = .ok (.getfield 28, 3) := by rw [cc_194]; decide +kernel
theorem D194_83 : decode (cod 194) 83 = .ok (.iload_n 1, 1) := by rw [cc_194]; decide +kernel
theorem D194_84 : decode (cod 194) 84 = .ok (.iaload, 1) := by rw [cc_194]; decide +kernel
theorem D194_85 : decode (cod 194) 85 = .ok (.invokevirtual 429, 3) := by rw [cc_194]; decide +kernel
theorem D194_88 : decode (cod 194) 88 = .ok (.aload_n 0, 1) := by rw [cc_194]; decide +kernel
theorem D194_89 : decode (cod 194) 89 = .ok (.getfield 96, 3) := by rw [cc_194]; decide +kernel
theorem D194_92 : decode (cod 194) 92 = .ok (.bipush 9, 2) := by rw [cc_194]; decide +kernel
theorem D194_94 : decode (cod 194) 94 = .ok (.iload_n 2, 1) := by rw [cc_194]; decide +kernel
theorem D194_95 : decode (cod 194) 95 = .ok (.iastore, 1) := by rw [cc_194]; decide +kernel
theorem D194_96 : decode (cod 194) 96 = .ok (.aload_n 0, 1) := by rw [cc_194]; decide +kernel
theorem D194_97 : decode (cod 194) 97 = .ok (.getfield 96, 3) := by rw [cc_194]; decide +kernel
theorem D194_100 : decode (cod 194) 100 = .ok (.bipush 8, 2) := by rw [cc_194]; decide +kernel
theorem D194_102 : decode (cod 194) 102 = .ok (.iload_n 3, 1) := by rw [cc_194]; decide +kernel
theorem D194_103 : decode (cod 194) 103 = .ok (.iconst (-1), 1) := by rw [cc_194]; decide +kernel
theorem D194_104 : decode (cod 194) 104 = .ok (.if_icmp .eq 8, 3) := by rw [cc_194]; decide +kernel
theorem D194_107 : decode (cod 194) 107 = .ok (.iload_n 3, 1) := by rw [cc_194]; decide +kernel
theorem D194_108 : decode (cod 194) 108 = .ok (.iload_n 2, 1) := by rw [cc_194]; decide +kernel
theorem D194_109 : decode (cod 194) 109 = .ok (.if_icmp .ge 7, 3) := by rw [cc_194]; decide +kernel
theorem D194_112 : decode (cod 194) 112 = .ok (.iconst 0, 1) := by rw [cc_194]; decide +kernel
theorem D194_113 : decode (cod 194) 113 = .ok (.goto 6, 3) := by rw [cc_194]; decide +kernel
theorem D194_116 : decode (cod 194) 116 = .ok (.iload_n 3, 1) := by rw [cc_194]; decide +kernel
theorem D194_117 : decode (cod 194) 117 = .ok (.iload_n 2, 1) := by rw [cc_194]; decide +kernel
theorem D194_118 : decode (cod 194) 118 = .ok (.isub, 1) := by rw [cc_194]; decide +kernel
theorem D194_119 : decode (cod 194) 119 = .ok (.iastore, 1) := by rw [cc_194]; decide +kernel
theorem D194_120 : decode (cod 194) 120 = .ok (.aload_n 0, 1) := by rw [cc_194]; decide +kernel
theorem D194_121 : decode (cod 194) 121 = .ok (.bipush 6, 2) := by rw [cc_194]; decide +kernel
theorem D194_123 : decode (cod 194) 123 = .ok (.invokevirtual 432, 3) := by rw [cc_194]; decide +kernel
theorem D194_126 : decode (cod 194) 126 = .ok (.istore 4, 2) := by rw [cc_194]; decide +kernel
theorem D194_128 : decode (cod 194) 128 = .ok (.aload_n 0, 1) := by rw [cc_194]; decide +kernel
theorem D194_129 : decode (cod 194) 129 = .ok (.invokevirtual 419, 3) := by rw [cc_194]; decide +kernel
theorem D194_132 : decode (cod 194) 132 = .ok (.iload 4, 2) := by rw [cc_194]; decide +kernel
theorem D194_134 : decode (cod 194) 134 = .ok (.ireturn, 1) := by rw [cc_194]; decide +kernel
theorem b194_0 {d : Nat} {i0 : Nat} {x1 : Int} {I L : Nat → Nat → Nat → Int} {t : Nat → Nat} (g1 : 0 ≤ x1 ∧ x1 < 9) : Res (d + 1) 194 0 [vr 12 i0, vi x1, vx, vx, vx, vx] [] (mk I L t) = (Cal d 188 [vr 12 i0, vi (I 54 i0 x1.toNat)] (mk I L t)).bind fun v => Res (d + 1) 194 10 [vr 12 i0, vi x1, vx, vx, vx, vx] (psh 188 v.1 []) v.2 :=
  Eq.trans (e_aload_n D194_0 rfl rfl) <| Eq.trans (e_aload_n D194_1 rfl rfl) <| Eq.trans (e_getP (p := (54, i0)) D194_2 rfl o_194 f_12_28 (sh_12 _) (by decide) (pp_12_11 _ _)) <| Eq.trans (e_iload_n D194_5 rfl rfl) <| Eq.trans (e_iald D194_6 rfl (al_54 _) g1) <| e_callV D194_7 rfl o_194 m_12_438 (by decide) rfl rfl
theorem b194_10 {d : Nat} {i0 : Nat} {x1 xs0 : Int} {I L : Nat → Nat → Nat → Int} {t : Nat → Nat} : Res d 194 10 [vr 12 i0, vi x1, vx, vx, vx, vx] [vi xs0] (mk I L t) = Res d 194 16 [vr 12 i0, vi x1, vi xs0, vi (-1), vi 0, vx] [] (mk I L t) :=
  Eq.trans (e_istore_n (ls1 := [vr 12 i0, vi x1, vi xs0, vx, vx, vx]) D194_10 rfl (show 2 < 6 by decide) rfl) <| Eq.trans (e_iconst (x := -1) D194_11 rfl rfl) <| Eq.trans (e_istore_n (ls1 := [vr 12 i0, vi x1, vi xs0, vi (-1), vx, vx]) D194_12 rfl (show 3 < 6 by decide) rfl) <| Eq.trans (e_iconst (x := 0) D194_13 rfl rfl) <| e_istore (ls1 := [vr 12 i0, vi x1, vi xs0, vi (-1), vi 0, vx]) D194_14 rfl (show 4 < 6 by decide) rfl
theorem b194_16 {d : Nat} {i0 : Nat} {x1 x2 x3 x4 : Int} {u5 : MV} {I L : Nat → Nat → Nat → Int} {t : Nat → Nat} : Res d 194 16 [vr 12 i0, vi x1, vi x2, vi x3, vi x4, u5] [] (mk I L t) = if I 12 i0 12 ≤ x4 then Res d 194 78 [vr 12 i0, vi x1, vi x2, vi x3, vi x4, u5] [] (mk I L t) else Res d 194 25 [vr 12 i0, vi x1, vi x2, vi x3, vi x4, u5] [] (mk I L t) :=
  Eq.trans (e_iload D194_16 rfl rfl) <| Eq.trans (e_aload_n D194_18 rfl rfl) <| Eq.trans (e_getI D194_19 rfl o_194 f_12_236 (sh_12 _) (by decide)) <| e_icge D194_22 rfl rfl
theorem b194_25 {d : Nat} {i0 : Nat} {x1 x2 x3 x4 : Int} {u5 : MV} {I L : Nat → Nat → Nat → Int} {t : Nat → Nat} : Res d 194 25 [vr 12 i0, vi x1, vi x2, vi x3, vi x4, u5] [] (mk I L t) = if x4 = x1 then Res d 194 72 [vr 12 i0, vi x1, vi x2, vi x3, vi x4, u5] [] (mk I L t) else Res d 194 31 [vr 12 i0, vi x1, vi x2, vi x3, vi x4, u5] [] (mk I L t) :=
  Eq.trans (e_iload D194_25 rfl rfl) <| Eq.trans (e_iload_n D194_27 rfl rfl) <| e_iceq D194_28 rfl rfl
theorem b194_31 {d : Nat} {i0 : Nat} {x1 x2 x3 x4 : Int} {u5 : MV} {I L : Nat → Nat → Nat → Int} {t : Nat → Nat} (g1 : 0 ≤ x4 ∧ x4 < 9) : Res d 194 31 [vr 12 i0, vi x1, vi x2, vi x3, vi x4, u5] [] (mk I L t) = if ¬ I 54 i0 x4.toNat = -1 then Res d 194 45 [vr 12 i0, vi x1, vi x2, vi x3, vi x4, u5] [] (mk I L t) else Res d 194 42 [vr 12 i0, vi x1, vi x2, vi x3, vi x4, u5] [] (mk I L t) :=
  Eq.trans (e_aload_n D194_31 rfl rfl) <| Eq.trans (e_getP (p := (54, i0)) D194_32 rfl o_194 f_12_28 (sh_12 _) (by decide) (pp_12_11 _ _)) <| Eq.trans (e_iload D194_35 rfl rfl) <| Eq.trans (e_iald D194_37 rfl (al_54 _) g1) <| Eq.trans (e_iconst (x := -1) D194_38 rfl rfl) <| e_icne D194_39 rfl rfl
theorem b194_42 {d : Nat} {i0 : Nat} {x1 x2 x3 x4 : Int} {u5 : MV} {I L : Nat → Nat → Nat → Int} {t : Nat → Nat} : Res d 194 42 [vr 12 i0, vi x1, vi x2, vi x3, vi x4, u5] [] (mk I L t) = Res d 194 72 [vr 12 i0, vi x1, vi x2, vi x3, vi x4, u5] [] (mk I L t) :=
  e_goto (q1 := 72) D194_42 rfl
theorem b194_45 {d : Nat} {i0 : Nat} {x1 x2 x3 x4 : Int} {u5 : MV} {I L : Nat → Nat → Nat → Int} {t : Nat → Nat} (g1 : 0 ≤ x4 ∧ x4 < 9) : Res (d + 1) 194 45 [vr 12 i0, vi x1, vi x2, vi x3, vi x4, u5] [] (mk I L t) = (Cal d 188 [vr 12 i0, vi (I 54 i0 x4.toNat)] (mk I L t)).bind fun v => Res (d + 1) 194 56 [vr 12 i0, vi x1, vi x2, vi x3, vi x4, u5] (psh 188 v.1 []) v.2 :=
  Eq.trans (e_aload_n D194_45 rfl rfl) <| Eq.trans (e_aload_n D194_46 rfl rfl) <| Eq.trans (e_getP (p := (54, i0)) D194_47 rfl o_194 f_12_28 (sh_12 _) (by decide) (pp_12_11 _ _)) <| Eq.trans (e_iload D194_50 rfl rfl) <| Eq.trans (e_iald D194_52 rfl (al_54 _) g1) <| e_callV D194_53 rfl o_194 m_12_438 (by decide) rfl rfl
theorem b194_56 {d : Nat} {i0 : Nat} {x1 x2 x3 x4 xs0 : Int} {u5 : MV} {I L : Nat → Nat → Nat → Int} {t : Nat → Nat} : Res d 194 56 [vr 12 i0, vi x1, vi x2, vi x3, vi x4, u5] [vi xs0] (mk I L t) = if x3 = -1 then Res d 194 69 [vr 12 i0, vi x1, vi x2, vi x3, vi x4, vi xs0] [] (mk I L t) else Res d 194 63 [vr 12 i0, vi x1, vi x2, vi x3, vi x4, vi xs0] [] (mk I L t) :=
  Eq.trans (e_istore (ls1 := [vr 12 i0, vi x1, vi x2, vi x3, vi x4, vi xs0]) D194_56 rfl (show 5 < 6 by decide) rfl) <| Eq.trans (e_iload_n D194_58 rfl rfl) <| Eq.trans (e_iconst (x := -1) D194_59 rfl rfl) <| e_iceq D194_60 rfl rfl
theorem b194_63 {d : Nat} {i0 : Nat} {x1 x2 x3 x4 x5 : Int} {I L : Nat → Nat → Nat → Int} {t : Nat → Nat} : Res d 194 63 [vr 12 i0, vi x1, vi x2, vi x3, vi x4, vi x5] [] (mk I L t) = if x3 ≤ x5 then Res d 194 72 [vr 12 i0, vi x1, vi x2, vi x3, vi x4, vi x5] [] (mk I L t) else Res d 194 69 [vr 12 i0, vi x1, vi x2, vi x3, vi x4, vi x5] [] (mk I L t) :=
  Eq.trans (e_iload D194_63 rfl rfl) <| Eq.trans (e_iload_n D194_65 rfl rfl) <| e_icge D194_66 rfl rfl
theorem b194_69 {d : Nat} {i0 : Nat} {x1 x2 x3 x4 x5 : Int} {I L : Nat → Nat → Nat → Int} {t : Nat → Nat} : Res d 194 69 [vr 12 i0, vi x1, vi x2, vi x3, vi x4, vi x5] [] (mk I L t) = Res d 194 72 [vr 12 i0, vi x1, vi x2, vi x5, vi x4, vi x5] [] (mk I L t) :=
  Eq.trans (e_iload D194_69 rfl rfl) <| e_istore_n (ls1 := [vr 12 i0, vi x1, vi x2, vi x5, vi x4, vi x5]) D194_71 rfl (show 3 < 6 by decide) rfl
theorem b194_72 {d : Nat} {i0 : Nat} {x1 x2 x3 x4 : Int} {u5 : MV} {I L : Nat → Nat → Nat → Int} {t : Nat → Nat} : Res d 194 72 [vr 12 i0, vi x1, vi x2, vi x3, vi x4, u5] [] (mk I L t) = Res d 194 16 [vr 12 i0, vi x1, vi x2, vi x3, vi (w32 (x4 + 1)), u5] [] (mk I L t) :=
  Eq.trans (e_iinc (ls1 := [vr 12 i0, vi x1, vi x2, vi x3, vi (w32 (x4 + 1)), u5]) D194_72 rfl rfl rfl) <| e_goto (q1 := 16) D194_75 rfl
theorem b194_78 {d : Nat} {i0 : Nat} {x1 x2 x3 x4 : Int} {u5 : MV} {I L : Nat → Nat → Nat → Int} {t : Nat → Nat} (g1 : 0 ≤ x1 ∧ x1 < 9) : Res (d + 1) 194 78 [vr 12 i0, vi x1, vi x2, vi x3, vi x4, u5] [] (mk I L t) = (Cal d 187 [vr 12 i0, vi (I 54 i0 x1.toNat)] (mk I L t)).bind fun v => Res (d + 1) 194 88 [vr 12 i0, vi x1, vi x2, vi x3, vi x4, u5] (psh 187 v.1 []) v.2 :=
  Eq.trans (e_aload_n D194_78 rfl rfl) <| Eq.trans (e_aload_n D194_79 rfl rfl) <| Eq.trans (e_getP (p := (54, i0)) D194_80 rfl o_194 f_12_28 (sh_12 _) (by decide) (pp_12_11 _ _)) <| Eq.trans (e_iload_n D194_83 rfl rfl) <| Eq.trans (e_iald D194_84 rfl (al_54 _) g1) <| e_callV D194_85 rfl o_194 m_12_429 (by decide) rfl rfl
theorem b194_88 {d : Nat} {i0 : Nat} {x1 x2 x3 x4 : Int} {u5 : MV} {I L : Nat → Nat → Nat → Int} {t : Nat → Nat} : Res d 194 88 [vr 12 i0, vi x1, vi x2, vi x3, vi x4, u5] [] (mk I L t) = if x3 = -1 then Res d 194 112 [vr 12 i0, vi x1, vi x2, vi x3, vi x4, u5] [vi 8, vr 75 i0] (mk (up3 I 75 i0 9 x2) L t) else Res d 194 107 [vr 12 i0, vi x1, vi x2, vi x3, vi x4, u5] [vi 8, vr 75 i0] (mk (up3 I 75 i0 9 x2) L t) :=
  Eq.trans (e_aload_n D194_88 rfl rfl) <| Eq.trans (e_getP (p := (75, i0)) D194_89 rfl o_194 f_12_96 (sh_12 _) (by decide) (pp_12_51 _ _)) <| Eq.trans (e_bipush (x := 9) D194_92 rfl rfl) <| Eq.trans (e_iload_n D194_94 rfl rfl) <| Eq.trans (e_iast D194_95 rfl (al_75 _) rfl (by decide)) <| Eq.trans (e_aload_n D194_96 rfl rfl) <| Eq.trans (e_getP (p := (75, i0)) D194_97 rfl o_194 f_12_96 (sh_12 _) (by decide) (pp_12_51 _ _)) <| Eq.trans (e_bipush (x := 8) D194_100 rfl rfl) <| Eq.trans (e_iload_n D194_102 rfl rfl) <| Eq.trans (e_iconst (x := -1) D194_103 rfl rfl) <| e_iceq D194_104 rfl rfl
theorem b194_107 {d : Nat} {i0 is0 : Nat} {x1 x2 x3 x4 xs1 : Int} {u5 : MV} {I L : Nat → Nat → Nat → Int} {t : Nat → Nat} : Res d 194 107 [vr 12 i0, vi x1, vi x2, vi x3, vi x4, u5] [vi xs1, vr 75 is0] (mk I L t) = if x2 ≤ x3 then Res d 194 116 [vr 12 i0, vi x1, vi x2, vi x3, vi x4, u5] [vi xs1, vr 75 is0] (mk I L t) else Res d 194 112 [vr 12 i0, vi x1, vi x2, vi x3, vi x4, u5] [vi xs1, vr 75 is0] (mk I L t) :=
  Eq.trans (e_iload_n D194_107 rfl rfl) <| Eq.trans (e_iload_n D194_108 rfl rfl) <| e_icge D194_109 rfl rfl
theorem b194_112 {d : Nat} {i0 is0 : Nat} {x1 x2 x3 x4 xs1 : Int} {u5 : MV} {I L : Nat → Nat → Nat → Int} {t : Nat → Nat} : Res d 194 112 [vr 12 i0, vi x1, vi x2, vi x3, vi x4, u5] [vi xs1, vr 75 is0] (mk I L t) = Res d 194 119 [vr 12 i0, vi x1, vi x2, vi x3, vi x4, u5] [vi 0, vi xs1, vr 75 is0] (mk I L t) :=
  Eq.trans (e_iconst (x := 0) D194_112 rfl rfl) <| e_goto (q1 := 119) D194_113 rfl
theorem b194_116 {d : Nat} {i0 is0 : Nat} {x1 x2 x3 x4 xs1 : Int} {u5 : MV} {I L : Nat → Nat → Nat → Int} {t : Nat → Nat} : Res d 194 116 [vr 12 i0, vi x1, vi x2, vi x3, vi x4, u5] [vi xs1, vr 75 is0] (mk I L t) = Res d 194 119 [vr 12 i0, vi x1, vi x2, vi x3, vi x4, u5] [vi (w32 (x3 - x2)), vi xs1, vr 75 is0] (mk I L t) :=
  Eq.trans (e_iload_n D194_116 rfl rfl) <| Eq.trans (e_iload_n D194_117 rfl rfl) <| e_isub D194_118 rfl
theorem b194_119 {d : Nat} {i0 is0 : Nat} {x1 x2 x3 x4 xs2 xs1 : Int} {u5 : MV} {I L : Nat → Nat → Nat → Int} {t : Nat → Nat} (g1 : 0 ≤ xs1 ∧ xs1 < 11) : Res (d + 1) 194 119 [vr 12 i0, vi x1, vi x2, vi x3, vi x4, u5] [vi xs2, vi xs1, vr 75 is0] (mk I L t) = (Cal d 184 [vr 12 i0, vi 6] (mk (up3 I 75 is0 xs1.toNat xs2) L t)).bind fun v => Res (d + 1) 194 126 [vr 12 i0, vi x1, vi x2, vi x3, vi x4, u5] (psh 184 v.1 []) v.2 :=
  Eq.trans (e_iast D194_119 rfl (al_75 _) rfl g1) <| Eq.trans (e_aload_n D194_120 rfl rfl) <| Eq.trans (e_bipush (x := 6) D194_121 rfl rfl) <| e_callV D194_123 rfl o_194 m_12_432 (by decide) rfl rfl
theorem b194_126 {d : Nat} {i0 : Nat} {x1 x2 x3 x4 xs0 : Int} {u5 : MV} {I L : Nat → Nat → Nat → Int} {t : Nat → Nat} : Res (d + 1) 194 126 [vr 12 i0, vi x1, vi x2, vi x3, vi x4, u5] [vi xs0] (mk I L t) = (Cal d 185 [vr 12 i0] (mk I L t)).bind fun v => Res (d + 1) 194 132 [vr 12 i0, vi x1, vi x2, vi x3, vi xs0, u5] (psh 185 v.1 []) v.2 :=
  Eq.trans (e_istore (ls1 := [vr 12 i0, vi x1, vi x2, vi x3, vi xs0, u5]) D194_126 rfl (show 4 < 6 by decide) rfl) <| Eq.trans (e_aload_n D194_128 rfl rfl) <| e_callV D194_129 rfl o_194 m_12_419 (by decide) rfl rfl
theorem b194_132 {d : Nat} {i0 : Nat} {x1 x2 x3 x4 : Int} {u5 : MV} {I L : Nat → Nat → Nat → Int} {t : Nat → Nat} : Res d 194 132 [vr 12 i0, vi x1, vi x2, vi x3, vi x4, u5] [] (mk I L t) = some (vi x4, (mk I L t)) :=
  Eq.trans (e_iload D194_132 rfl rfl) <| e_iret D194_134 rfl
/-! m_logs -/
theorem cc_195 : cod 195 = cX12_logs := rfl
theorem D195_0 : decode (cod 195) 0 = .ok (.aload_n 0, 1) := by rw [cc_195]; decide +kernel
theorem D195_1 : decode (cod 195) 1 = .ok (.getfield 141, 3) := by rw [cc_195]; decide +kernel
theorem D195_4 : decode (cod 195) 4 = .ok (.aload_n 0, 1) := by rw [cc_195]; decide +kernel
theorem D195_5 : decode (cod 195) 5 = .ok (.getfield 443, 3) := by rw [cc_195]; decide +kernel
theorem D195_8 : decode (cod 195) 8 = .ok (.iload_n 1, 1) := by rw [cc_195]; decide +kernel
theorem D195_9 : decode (cod 195) 9 = .ok (.iastore, 1) := by rw [cc_195]; decide +kernel
theorem D195_10 : decode (cod 195) 10 = .ok (.aload_n 0, 1) := by rw [cc_195]; decide +kernel
theorem D195_11 : decode (cod 195) 11 = .ok (.getfield 144, 3) := by rw [cc_195]; decide +kernel
theorem D195_14 : decode (cod 195) 14 = .ok (.aload_n 0, 1) := by rw [cc_195]; decide +kernel
theorem D195_15 : decode (cod 195) 15 = .ok (.getfield 443, 3) := by rw [cc_195]; decide +kernel
theorem D195_18 : decode (cod 195) 18 = .ok (.iload_n 2, 1) := by rw [cc_195]; decide +kernel
theorem D195_19 : decode (cod 195) 19 = .ok (.iastore, 1) := by rw [cc_195]; decide +kernel
theorem D195_20 : decode (cod 195) 20 = .ok (.aload_n 0, 1) := by rw [cc_195]; decide +kernel
theorem D195_21 : decode (cod 195) 21 = .ok (.getfield 147, 3) := by rw [cc_195]; decide +kernel
theorem D195_24 : decode (cod 195) 24 = .ok (.aload_n 0, 1) := by rw [cc_195]; decide +kernel
theorem D195_25 : decode (cod 195) 25 = .ok (.getfield 443, 3) := by rw [cc_195]; decide +kernel
theorem D195_28 : decode (cod 195) 28 = .ok (.iload_n 3, 1) := by rw [cc_195]; decide +kernel
theorem D195_29 : decode (cod 195) 29 = .ok (.iastore, 1) := by rw [cc_195]; decide +kernel
theorem D195_30 : decode (cod 195) 30 = .ok (.aload_n 0, 1) := by rw [cc_195]; decide +kernel
theorem D195_31 : decode (cod 195) 31 = .ok (.dup, 1) := by rw [cc_195]; decide +kernel
theorem D195_32 : decode (cod 195) 32 = .ok (.getfield 443, 3) := by rw [cc_195]; decide +kernel
theorem D195_35 : decode (cod 195) 35 = .ok (.iconst 1, 1) := by rw [cc_195]; decide +kernel
theorem D195_36 : decode (cod 195) 36 = .ok (.iadd, 1) := by rw [cc_195]; decide +kernel
theorem D195_37 : decode (cod 195) 37 = .ok (.putfield 443, 3) := by rw [cc_195]; decide +kernel
theorem D195_40 : decode (cod 195) 40 = .ok (.return_, 1) := by rw [cc_195]; decide +kernel
theorem b195_0 {d : Nat} {i0 : Nat} {x1 x2 x3 : Int} {I L : Nat → Nat → Nat → Int} {t : Nat → Nat} (g1 : 0 ≤ I 12 i0 72 ∧ I 12 i0 72 < 1900) (g2 : 0 ≤ (up3 I 90 i0 (I 12 i0 72).toNat x1) 12 i0 72 ∧ (up3 I 90 i0 (I 12 i0 72).toNat x1) 12 i0 72 < 1900) (g3 : 0 ≤ (up3 (up3 I 90 i0 (I 12 i0 72).toNat x1) 91 i0 ((up3 I 90 i0 (I 12 i0 72).toNat x1) 12 i0 72).toNat x2) 12 i0 72 ∧ (up3 (up3 I 90 i0 (I 12 i0 72).toNat x1) 91 i0 ((up3 I 90 i0 (I 12 i0 72).toNat x1) 12 i0 72).toNat x2) 12 i0 72 < 1900) : Res d 195 0 [vr 12 i0, vi x1, vi x2, vi x3] [] (mk I L t) = some (vx, (mk (up3 (up3 (up3 (up3 I 90 i0 (I 12 i0 72).toNat x1) 91 i0 ((up3 I 90 i0 (I 12 i0 72).toNat x1) 12 i0 72).toNat x2) 92 i0 ((up3 (up3 I 90 i0 (I 12 i0 72).toNat x1) 91 i0 ((up3 I 90 i0 (I 12 i0 72).toNat x1) 12 i0 72).toNat x2) 12 i0 72).toNat x3) 12 i0 72 (w32 (((up3 (up3 (up3 I 90 i0 (I 12 i0 72).toNat x1) 91 i0 ((up3 I 90 i0 (I 12 i0 72).toNat x1) 12 i0 72).toNat x2) 92 i0 ((up3 (up3 I 90 i0 (I 12 i0 72).toNat x1) 91 i0 ((up3 I 90 i0 (I 12 i0 72).toNat x1) 12 i0 72).toNat x2) 12 i0 72).toNat x3) 12 i0 72) + 1))) L t)) :=
  Eq.trans (e_aload_n D195_0 rfl rfl) <| Eq.trans (e_getP (p := (90, i0)) D195_1 rfl o_195 f_12_141 (sh_12 _) (by decide) (pp_12_68 _ _)) <| Eq.trans (e_aload_n D195_4 rfl rfl) <| Eq.trans (e_getI D195_5 rfl o_195 f_12_443 (sh_12 _) (by decide)) <| Eq.trans (e_iload_n D195_8 rfl rfl) <| Eq.trans (e_iast D195_9 rfl (al_90 _) rfl g1) <| Eq.trans (e_aload_n D195_10 rfl rfl) <| Eq.trans (e_getP (p := (91, i0)) D195_11 rfl o_195 f_12_144 (sh_12 _) (by decide) (pp_12_69 _ _)) <| Eq.trans (e_aload_n D195_14 rfl rfl) <| Eq.trans (e_getI D195_15 rfl o_195 f_12_443 (sh_12 _) (by decide)) <| Eq.trans (e_iload_n D195_18 rfl rfl) <| Eq.trans (e_iast D195_19 rfl (al_91 _) rfl g2) <| Eq.trans (e_aload_n D195_20 rfl rfl) <| Eq.trans (e_getP (p := (92, i0)) D195_21 rfl o_195 f_12_147 (sh_12 _) (by decide) (pp_12_70 _ _)) <| Eq.trans (e_aload_n D195_24 rfl rfl) <| Eq.trans (e_getI D195_25 rfl o_195 f_12_443 (sh_12 _) (by decide)) <| Eq.trans (e_iload_n D195_28 rfl rfl) <| Eq.trans (e_iast D195_29 rfl (al_92 _) rfl g3) <| Eq.trans (e_aload_n D195_30 rfl rfl) <| Eq.trans (e_dup D195_31 rfl) <| Eq.trans (e_getI D195_32 rfl o_195 f_12_443 (sh_12 _) (by decide)) <| Eq.trans (e_iconst (x := 1) D195_35 rfl rfl) <| Eq.trans (e_iadd D195_36 rfl) <| Eq.trans (e_putI D195_37 rfl o_195 f_12_443 (sh_12 _) rfl (by decide) (Or.inl (by decide))) <| e_vret D195_40 rfl
