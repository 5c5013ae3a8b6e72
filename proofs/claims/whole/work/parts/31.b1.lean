/-! block equations (printed by wip/whole/genall.py) -/
/-! Texts_readSum -/
theorem cc_54 : cod 54 = cX8_readSum := rfl
theorem D54_0 : decode (cod 54) 0 = .ok (.aload_n 0, 1) := by rw [cc_54]; decide +kernel
theorem D54_1 : decode (cod 54) 1 = .ok (.iload_n 1, 1) := by rw [cc_54]; decide +kernel
theorem D54_2 : decode (cod 54) 2 = .ok (.invokevirtual 119, 3) := by rw [cc_54]; decide +kernel
theorem D54_5 : decode (cod 54) 5 = .ok (.istore_n 2, 1) := by rw [cc_54]; decide +kernel
theorem D54_6 : decode (cod 54) 6 = .ok (.iconst 0, 1) := by rw [cc_54]; decide +kernel
theorem D54_7 : decode (cod 54) 7 = .ok (.istore_n 3, 1) := by rw [cc_54]; decide +kernel
theorem D54_8 : decode (cod 54) 8 = .ok (.iload_n 3, 1) := by rw [cc_54]; decide +kernel
theorem D54_9 : decode (cod 54) 9 = .ok (.sipush 400, 3) := by rw [cc_54]; decide +kernel
theorem D54_12 : decode (cod 54) 12 = .ok (.if_icmp .gt 71, 3) := by rw [cc_54]; decide +kernel
theorem D54_15 : decode (cod 54) 15 = .ok (.iload_n 2, 1) := by rw [cc_54]; decide +kernel
theorem D54_16 : decode (cod 54) 16 = .ok (.ifCond .eq 67, 3) := by rw [cc_54]; decide +kernel
theorem D54_19 : decode (cod 54) 19 = .ok (.aload_n 0, 1) := by rw [cc_54]; decide +kernel
theorem D54_20 : decode (cod 54) 20 = .ok (.getfield 12, 3) := by rw [cc_54]; decide +kernel
theorem D54_23 : decode (cod 54) 23 = .ok (.getfield 93, 3) := by rw [cc_54]; decide +kernel
theorem D54_26 : decode (cod 54) 26 = .ok (.istore 4, 2) := by rw [cc_54]; decide +kernel
theorem D54_28 : decode (cod 54) 28 = .ok (.iload 4, 2) := by rw [cc_54]; decide +kernel
theorem D54_30 : decode (cod 54) 30 = .ok (.bipush 43, 2) := by rw [cc_54]; decide +kernel
theorem D54_32 : decode (cod 54) 32 = .ok (.if_icmp .eq 12, 3) := by rw [cc_54]; decide +kernel
theorem D54_35 : decode (cod 54) 35 = .ok (.iload 4, 2) := by rw [cc_54]; decide +kernel
theorem D54_37 : decode (cod 54) 37 = .ok (.bipush 45, 2) := by rw [cc_54]; decide +kernel
theorem D54_39 : decode (cod 54) 39 = .ok (.if_icmp .eq 5, 3) := by rw [cc_54]; decide +kernel
theorem D54_42 : decode (cod 54) 42 = .ok (.iconst 1, 1) := by rw [cc_54]; decide +kernel
theorem D54_43 : decode (cod 54) 43 = .ok (.ireturn, 1) := by rw [cc_54]; decide +kernel
theorem D54_44 : decode (cod 54) 44 = .ok (.aload_n 0, 1) := by rw [cc_54]; decide +kernel
theorem D54_45 : decode (cod 54) 45 = .ok (.getfield 12, 3) := by rw [cc_54]; decide +kernel
theorem D54_48 : decode (cod 54) 48 = .ok (.invokevirtual 107, 3) := by rw [cc_54]; decide +kernel
theorem D54_51 : decode (cod 54) 51 = .ok (.aload_n 0, 1) := by rw [cc_54]; decide +kernel
theorem D54_52 : decode (cod 54) 52 = .ok (.iload_n 1, 1) := by rw [cc_54]; decide +kernel
theorem D54_53 : decode (cod 54) 53 = .ok (.invokevirtual 119, 3) := by rw [cc_54]; decide +kernel
theorem D54_56 : decode (cod 54) 56 = .ok (.istore_n 2, 1) := by rw [cc_54]; decide +kernel
theorem D54_57 : decode (cod 54) 57 = .ok (.aload_n 0, 1) := by rw [cc_54]; decide +kernel
theorem D54_58 : decode (cod 54) 58 = .ok (.getfield 38, 3) := by rw [cc_54]; decide +kernel
theorem D54_61 : decode (cod 54) 61 = .ok (.iload 4, 2) := by rw [cc_54]; decide +kernel
theorem D54_63 : decode (cod 54) 63 = .ok (.bipush 43, 2) := by rw [cc_54]; decide +kernel
theorem D54_65 : decode (cod 54) 65 = .ok (.if_icmp .ne 7, 3) := by rw [cc_54]; decide +kernel
theorem D54_68 : decode (cod 54) 68 = .ok (.iconst 2, 1) := by rw [cc_54]; decide +kernel
theorem D54_69 : decode (cod 54) 69 = .ok (.goto 4, 3) := by rw [cc_54]; decide +kernel
theorem D54_72 : decode (cod 54) 72 = .ok (.iconst 3, 1) := by rw [cc_54]; decide +kernel
theorem D54_73 : decode (cod 54) 73 = .ok (.iconst 0, 1) := by rw [cc_54]; decide +kernel
theorem D54_74 : decode (cod 54) 74 = .ok (.invokevirtual 122, 3) := by rw [cc_54]; decide +kernel
theorem D54_77 : decode (cod 54) 77 = .ok (.iinc 3 1, 3) := by rw [cc_54]; decide +kernel
theorem D54_80 : decode (cod 54) 80 = .ok (.goto (-72), 3) := by rw [cc_54]; decide +kernel
theorem D54_83 : decode (cod 54) 83 = .ok (.iload_n 2, 1) := by rw [cc_54]; decide +kernel
theorem D54_84 : decode (cod 54) 84 = .ok (.ireturn, 1) := by rw [cc_54]; decide +kernel
theorem b54_0 {d : Nat} {x1 : Int} {I L : Nat → Nat → Nat → Int} {t : Nat → Nat} : Res (d + 1) 54 0 [vr 8 0, vi x1, vx, vx, vx] [] (mk I L t) = (Cal d 55 [vr 8 0, vi x1] (mk I L t)).bind fun v => Res (d + 1) 54 5 [vr 8 0, vi x1, vx, vx, vx] (psh 55 v.1 []) v.2 :=
  Eq.trans (e_aload_n D54_0 rfl rfl) <| Eq.trans (e_iload_n D54_1 rfl rfl) <| e_callV D54_2 rfl o_54 m_8_119 (by decide) rfl rfl
theorem b54_5 {d : Nat} {x1 xs0 : Int} {I L : Nat → Nat → Nat → Int} {t : Nat → Nat} : Res d 54 5 [vr 8 0, vi x1, vx, vx, vx] [vi xs0] (mk I L t) = Res d 54 8 [vr 8 0, vi x1, vi xs0, vi 0, vx] [] (mk I L t) :=
  Eq.trans (e_istore_n (ls1 := [vr 8 0, vi x1, vi xs0, vx, vx]) D54_5 rfl (show 2 < 5 by decide) rfl) <| Eq.trans (e_iconst (x := 0) D54_6 rfl rfl) <| e_istore_n (ls1 := [vr 8 0, vi x1, vi xs0, vi 0, vx]) D54_7 rfl (show 3 < 5 by decide) rfl
theorem b54_8 {d : Nat} {x1 x2 x3 : Int} {u4 : MV} {I L : Nat → Nat → Nat → Int} {t : Nat → Nat} : Res d 54 8 [vr 8 0, vi x1, vi x2, vi x3, u4] [] (mk I L t) = if 400 < x3 then Res d 54 83 [vr 8 0, vi x1, vi x2, vi x3, u4] [] (mk I L t) else Res d 54 15 [vr 8 0, vi x1, vi x2, vi x3, u4] [] (mk I L t) :=
  Eq.trans (e_iload_n D54_8 rfl rfl) <| Eq.trans (e_sipush (x := 400) D54_9 rfl rfl) <| e_icgt D54_12 rfl rfl
theorem b54_15 {d : Nat} {x1 x2 x3 : Int} {u4 : MV} {I L : Nat → Nat → Nat → Int} {t : Nat → Nat} : Res d 54 15 [vr 8 0, vi x1, vi x2, vi x3, u4] [] (mk I L t) = if x2 = 0 then Res d 54 83 [vr 8 0, vi x1, vi x2, vi x3, u4] [] (mk I L t) else Res d 54 19 [vr 8 0, vi x1, vi x2, vi x3, u4] [] (mk I L t) :=
  Eq.trans (e_iload_n D54_15 rfl rfl) <| e_ifeq D54_16 rfl rfl
theorem b54_19 {d : Nat} {x1 x2 x3 : Int} {u4 : MV} {I L : Nat → Nat → Nat → Int} {t : Nat → Nat} : Res d 54 19 [vr 8 0, vi x1, vi x2, vi x3, u4] [] (mk I L t) = if I 7 0 8 = 43 then Res d 54 44 [vr 8 0, vi x1, vi x2, vi x3, vi (I 7 0 8)] [] (mk I L t) else Res d 54 35 [vr 8 0, vi x1, vi x2, vi x3, vi (I 7 0 8)] [] (mk I L t) :=
  Eq.trans (e_aload_n D54_19 rfl rfl) <| Eq.trans (e_getP (p := (7, 0)) D54_20 rfl o_54 f_8_12 (sh_8 _) (by decide) (pp_8_0 _)) <| Eq.trans (e_getI D54_23 rfl o_54 f_8_93 (sh_7 _) (by decide)) <| Eq.trans (e_istore (ls1 := [vr 8 0, vi x1, vi x2, vi x3, vi (I 7 0 8)]) D54_26 rfl (show 4 < 5 by decide) rfl) <| Eq.trans (e_iload D54_28 rfl rfl) <| Eq.trans (e_bipush (x := 43) D54_30 rfl rfl) <| e_iceq D54_32 rfl rfl
theorem b54_35 {d : Nat} {x1 x2 x3 x4 : Int} {I L : Nat → Nat → Nat → Int} {t : Nat → Nat} : Res d 54 35 [vr 8 0, vi x1, vi x2, vi x3, vi x4] [] (mk I L t) = if x4 = 45 then Res d 54 44 [vr 8 0, vi x1, vi x2, vi x3, vi x4] [] (mk I L t) else Res d 54 42 [vr 8 0, vi x1, vi x2, vi x3, vi x4] [] (mk I L t) :=
  Eq.trans (e_iload D54_35 rfl rfl) <| Eq.trans (e_bipush (x := 45) D54_37 rfl rfl) <| e_iceq D54_39 rfl rfl
theorem b54_42 {d : Nat} {x1 x2 x3 x4 : Int} {I L : Nat → Nat → Nat → Int} {t : Nat → Nat} : Res d 54 42 [vr 8 0, vi x1, vi x2, vi x3, vi x4] [] (mk I L t) = some (vi 1, (mk I L t)) :=
  Eq.trans (e_iconst (x := 1) D54_42 rfl rfl) <| e_iret D54_43 rfl
theorem b54_44 {d : Nat} {x1 x2 x3 x4 : Int} {I L : Nat → Nat → Nat → Int} {t : Nat → Nat} : Res (d + 1) 54 44 [vr 8 0, vi x1, vi x2, vi x3, vi x4] [] (mk I L t) = (Cal d 38 [vr 7 0] (mk I L t)).bind fun v => Res (d + 1) 54 51 [vr 8 0, vi x1, vi x2, vi x3, vi x4] (psh 38 v.1 []) v.2 :=
  Eq.trans (e_aload_n D54_44 rfl rfl) <| Eq.trans (e_getP (p := (7, 0)) D54_45 rfl o_54 f_8_12 (sh_8 _) (by decide) (pp_8_0 _)) <| e_callV D54_48 rfl o_54 m_8_107 (by decide) rfl rfl
theorem b54_51 {d : Nat} {x1 x2 x3 x4 : Int} {I L : Nat → Nat → Nat → Int} {t : Nat → Nat} : Res (d + 1) 54 51 [vr 8 0, vi x1, vi x2, vi x3, vi x4] [] (mk I L t) = (Cal d 55 [vr 8 0, vi x1] (mk I L t)).bind fun v => Res (d + 1) 54 56 [vr 8 0, vi x1, vi x2, vi x3, vi x4] (psh 55 v.1 []) v.2 :=
  Eq.trans (e_aload_n D54_51 rfl rfl) <| Eq.trans (e_iload_n D54_52 rfl rfl) <| e_callV D54_53 rfl o_54 m_8_119 (by decide) rfl rfl
theorem b54_56 {d : Nat} {x1 x2 x3 x4 xs0 : Int} {I L : Nat → Nat → Nat → Int} {t : Nat → Nat} : Res d 54 56 [vr 8 0, vi x1, vi x2, vi x3, vi x4] [vi xs0] (mk I L t) = if ¬ x4 = 43 then Res d 54 72 [vr 8 0, vi x1, vi xs0, vi x3, vi x4] [vr 2 (t 4)] (mk I L t) else Res d 54 68 [vr 8 0, vi x1, vi xs0, vi x3, vi x4] [vr 2 (t 4)] (mk I L t) :=
  Eq.trans (e_istore_n (ls1 := [vr 8 0, vi x1, vi xs0, vi x3, vi x4]) D54_56 rfl (show 2 < 5 by decide) rfl) <| Eq.trans (e_aload_n D54_57 rfl rfl) <| Eq.trans (e_getP (p := (2, t 4)) D54_58 rfl o_54 f_8_38 (sh_8 _) (by decide) (pp_8_4 _)) <| Eq.trans (e_iload D54_61 rfl rfl) <| Eq.trans (e_bipush (x := 43) D54_63 rfl rfl) <| e_icne D54_65 rfl rfl
theorem b54_68 {d : Nat} {x1 x2 x3 x4 : Int} {is0 : Nat} {I L : Nat → Nat → Nat → Int} {t : Nat → Nat} : Res d 54 68 [vr 8 0, vi x1, vi x2, vi x3, vi x4] [vr 2 is0] (mk I L t) = Res d 54 73 [vr 8 0, vi x1, vi x2, vi x3, vi x4] [vi 2, vr 2 is0] (mk I L t) :=
  Eq.trans (e_iconst (x := 2) D54_68 rfl rfl) <| e_goto (q1 := 73) D54_69 rfl
theorem b54_72 {d : Nat} {x1 x2 x3 x4 : Int} {is0 : Nat} {I L : Nat → Nat → Nat → Int} {t : Nat → Nat} : Res d 54 72 [vr 8 0, vi x1, vi x2, vi x3, vi x4] [vr 2 is0] (mk I L t) = Res d 54 73 [vr 8 0, vi x1, vi x2, vi x3, vi x4] [vi 3, vr 2 is0] (mk I L t) :=
  e_iconst (x := 3) D54_72 rfl rfl
theorem b54_73 {d : Nat} {x1 x2 x3 x4 xs1 : Int} {is0 : Nat} {I L : Nat → Nat → Nat → Int} {t : Nat → Nat} : Res (d + 1) 54 73 [vr 8 0, vi x1, vi x2, vi x3, vi x4] [vi xs1, vr 2 is0] (mk I L t) = (Cal d 17 [vr 2 is0, vi xs1, vi 0] (mk I L t)).bind fun v => Res (d + 1) 54 77 [vr 8 0, vi x1, vi x2, vi x3, vi x4] (psh 17 v.1 []) v.2 :=
  Eq.trans (e_iconst (x := 0) D54_73 rfl rfl) <| e_callV D54_74 rfl o_54 m_8_122 (by decide) rfl rfl
theorem b54_77 {d : Nat} {x1 x2 x3 x4 : Int} {I L : Nat → Nat → Nat → Int} {t : Nat → Nat} : Res d 54 77 [vr 8 0, vi x1, vi x2, vi x3, vi x4] [] (mk I L t) = Res d 54 8 [vr 8 0, vi x1, vi x2, vi (w32 (x3 + 1)), vi x4] [] (mk I L t) :=
  Eq.trans (e_iinc (ls1 := [vr 8 0, vi x1, vi x2, vi (w32 (x3 + 1)), vi x4]) D54_77 rfl rfl rfl) <| e_goto (q1 := 8) D54_80 rfl
theorem b54_83 {d : Nat} {x1 x2 x3 : Int} {u4 : MV} {I L : Nat → Nat → Nat → Int} {t : Nat → Nat} (g1 : x2 = 0 ∨ x2 = 1) : Res d 54 83 [vr 8 0, vi x1, vi x2, vi x3, u4] [] (mk I L t) = some (vi x2, (mk I L t)) :=
  Eq.trans (e_iload_n D54_83 rfl rfl) <| e_iret D54_84 (nrz rfl g1)
/-! Texts_readProduct -/
theorem cc_55 : cod 55 = cX8_readProduct := rfl
theorem D55_0 : decode (cod 55) 0 = .ok (.aload_n 0, 1) := by rw [cc_55]; decide +kernel
theorem D55_1 : decode (cod 55) 1 = .ok (.iload_n 1, 1) := by rw [cc_55]; decide +kernel
theorem D55_2 : decode (cod 55) 2 = .ok (.invokevirtual 126, 3) := by rw [cc_55]; decide +kernel
theorem D55_5 : decode (cod 55) 5 = .ok (.istore_n 2, 1) := by rw [cc_55]; decide +kernel
theorem D55_6 : decode (cod 55) 6 = .ok (.iconst 0, 1) := by rw [cc_55]; decide +kernel
theorem D55_7 : decode (cod 55) 7 = .ok (.istore_n 3, 1) := by rw [cc_55]; decide +kernel
theorem D55_8 : decode (cod 55) 8 = .ok (.iload_n 3, 1) := by rw [cc_55]; decide +kernel
theorem D55_9 : decode (cod 55) 9 = .ok (.sipush 400, 3) := by rw [cc_55]; decide +kernel
theorem D55_12 : decode (cod 55) 12 = .ok (.if_icmp .gt 75, 3) := by rw [cc_55]; decide +kernel
theorem D55_15 : decode (cod 55) 15 = .ok (.iload_n 2, 1) := by rw [cc_55]; decide +kernel
theorem D55_16 : decode (cod 55) 16 = .ok (.ifCond .eq 71, 3) := by rw [cc_55]; decide +kernel
theorem D55_19 : decode (cod 55) 19 = .ok (.aload_n 0, 1) := by rw [cc_55]; decide +kernel
theorem D55_20 : decode (cod 55) 20 = .ok (.getfield 12, 3) := by rw [cc_55]; decide +kernel
theorem D55_23 : decode (cod 55) 23 = .ok (.getfield 93, 3) := by rw [cc_55]; decide +kernel
theorem D55_26 : decode (cod 55) 26 = .ok (.istore 4, 2) := by rw [cc_55]; decide +kernel
theorem D55_28 : decode (cod 55) 28 = .ok (.iload 4, 2) := by rw [cc_55]; decide +kernel
theorem D55_30 : decode (cod 55) 30 = .ok (.bipush 42, 2) := by rw [cc_55]; decide +kernel
theorem D55_32 : decode (cod 55) 32 = .ok (.if_icmp .eq 12, 3) := by rw [cc_55]; decide +kernel
theorem D55_35 : decode (cod 55) 35 = .ok (.iload 4, 2) := by rw [cc_55]; decide +kernel
theorem D55_37 : decode (cod 55) 37 = .ok (.bipush 47, 2) := by rw [cc_55]; decide +kernel
theorem D55_39 : decode (cod 55) 39 = .ok (.if_icmp .eq 5, 3) := by rw [cc_55]; decide +kernel
theorem D55_42 : decode (cod 55) 42 = .ok (.iconst 1, 1) := by rw [cc_55]; decide +kernel
theorem D55_43 : decode (cod 55) 43 = .ok (.ireturn, 1) := by rw [cc_55]; decide +kernel
theorem D55_44 : decode (cod 55) 44 = .ok (.aload_n 0, 1) := by rw [cc_55]; decide +kernel
theorem D55_45 : decode (cod 55) 45 = .ok (.getfield 12, 3) := by rw [cc_55]; decide +kernel
theorem D55_48 : decode (cod 55) 48 = .ok (.invokevirtual 107, 3) := by rw [cc_55]; decide +kernel
theorem D55_51 : decode (cod 55) 51 = .ok (.iload 4, 2) := by rw [cc_55]; decide +kernel
theorem D55_53 : decode (cod 55) 53 = .ok (.bipush 47, 2) := by rw [cc_55]; decide +kernel
theorem D55_55 : decode (cod 55) 55 = .ok (.if_icmp .ne 11, 3) := by rw [cc_55]; decide +kernel
theorem D55_58 : decode (cod 55) 58 = .ok (.aload_n 0, 1) := by rw [cc_55]; decide +kernel
theorem D55_59 : decode (cod 55) 59 = .ok (.invokevirtual 129, 3) := by rw [cc_55]; decide +kernel
theorem D55_62 : decode (cod 55) 62 = .ok (.istore_n 2, 1) := by rw [cc_55]; decide +kernel
theorem D55_63 : decode (cod 55) 63 = .ok (.goto 18, 3) := by rw [cc_55]; decide +kernel
theorem D55_66 : decode (cod 55) 66 = .ok (.aload_n 0, 1) := by rw [cc_55]; decide +kernel
theorem D55_67 : decode (cod 55) 67 = .ok (.iload_n 1, 1) := by rw [cc_55]; decide +kernel
theorem D55_68 : decode (cod 55) 68 = .ok (.invokevirtual 126, 3) := by rw [cc_55]; decide +kernel
theorem D55_71 : decode (cod 55) 71 = .ok (.istore_n 2, 1) := by rw [cc_55]; decide +kernel
theorem D55_72 : decode (cod 55) 72 = .ok (.aload_n 0, 1) := by rw [cc_55]; decide +kernel
theorem D55_73 : decode (cod 55) 73 = .ok (.getfield 38, 3) := by rw [cc_55]; decide +kernel
theorem D55_76 : decode (cod 55) 76 = .ok (.iconst 4, 1) := by rw [cc_55]; decide +kernel
theorem D55_77 : decode (cod 55) 77 = .ok (.iconst 0, 1) := by rw [cc_55]; decide +kernel
theorem D55_78 : decode (cod 55) 78 = .ok (.invokevirtual 122, 3) := by rw [cc_55]; decide +kernel
theorem D55_81 : decode (cod 55) 81 = .ok (.iinc 3 1, 3) := by rw [cc_55]; decide +kernel
theorem D55_84 : decode (cod 55) 84 = .ok (.goto (-76), 3) := by rw [cc_55]; decide +kernel
theorem D55_87 : decode (cod 55) 87 = .ok (.iload_n 2, 1) := by rw [cc_55]; decide +kernel
theorem D55_88 : decode (cod 55) 88 = .ok (.ireturn, 1) := by rw [cc_55]; decide +kernel
theorem b55_0 {d : Nat} {x1 : Int} {I L : Nat → Nat → Nat → Int} {t : Nat → Nat} : Res (d + 1) 55 0 [vr 8 0, vi x1, vx, vx, vx] [] (mk I L t) = (Cal d 57 [vr 8 0, vi x1] (mk I L t)).bind fun v => Res (d + 1) 55 5 [vr 8 0, vi x1, vx, vx, vx] (psh 57 v.1 []) v.2 :=
  Eq.trans (e_aload_n D55_0 rfl rfl) <| Eq.trans (e_iload_n D55_1 rfl rfl) <| e_callV D55_2 rfl o_55 m_8_126 (by decide) rfl rfl
theorem b55_5 {d : Nat} {x1 xs0 : Int} {I L : Nat → Nat → Nat → Int} {t : Nat → Nat} : Res d 55 5 [vr 8 0, vi x1, vx, vx, vx] [vi xs0] (mk I L t) = Res d 55 8 [vr 8 0, vi x1, vi xs0, vi 0, vx] [] (mk I L t) :=
  Eq.trans (e_istore_n (ls1 := [vr 8 0, vi x1, vi xs0, vx, vx]) D55_5 rfl (show 2 < 5 by decide) rfl) <| Eq.trans (e_iconst (x := 0) D55_6 rfl rfl) <| e_istore_n (ls1 := [vr 8 0, vi x1, vi xs0, vi 0, vx]) D55_7 rfl (show 3 < 5 by decide) rfl
theorem b55_8 {d : Nat} {x1 x2 x3 : Int} {u4 : MV} {I L : Nat → Nat → Nat → Int} {t : Nat → Nat} : Res d 55 8 [vr 8 0, vi x1, vi x2, vi x3, u4] [] (mk I L t) = if 400 < x3 then Res d 55 87 [vr 8 0, vi x1, vi x2, vi x3, u4] [] (mk I L t) else Res d 55 15 [vr 8 0, vi x1, vi x2, vi x3, u4] [] (mk I L t) :=
  Eq.trans (e_iload_n D55_8 rfl rfl) <| Eq.trans (e_sipush (x := 400) D55_9 rfl rfl) <| e_icgt D55_12 rfl rfl
theorem b55_15 {d : Nat} {x1 x2 x3 : Int} {u4 : MV} {I L : Nat → Nat → Nat → Int} {t : Nat → Nat} : Res d 55 15 [vr 8 0, vi x1, vi x2, vi x3, u4] [] (mk I L t) = if x2 = 0 then Res d 55 87 [vr 8 0, vi x1, vi x2, vi x3, u4] [] (mk I L t) else Res d 55 19 [vr 8 0, vi x1, vi x2, vi x3, u4] [] (mk I L t) :=
  Eq.trans (e_iload_n D55_15 rfl rfl) <| e_ifeq D55_16 rfl rfl
theorem b55_19 {d : Nat} {x1 x2 x3 : Int} {u4 : MV} {I L : Nat → Nat → Nat → Int} {t : Nat → Nat} : Res d 55 19 [vr 8 0, vi x1, vi x2, vi x3, u4] [] (mk I L t) = if I 7 0 8 = 42 then Res d 55 44 [vr 8 0, vi x1, vi x2, vi x3, vi (I 7 0 8)] [] (mk I L t) else Res d 55 35 [vr 8 0, vi x1, vi x2, vi x3, vi (I 7 0 8)] [] (mk I L t) :=
  Eq.trans (e_aload_n D55_19 rfl rfl) <| Eq.trans (e_getP (p := (7, 0)) D55_20 rfl o_55 f_8_12 (sh_8 _) (by decide) (pp_8_0 _)) <| Eq.trans (e_getI D55_23 rfl o_55 f_8_93 (sh_7 _) (by decide)) <| Eq.trans (e_istore (ls1 := [vr 8 0, vi x1, vi x2, vi x3, vi (I 7 0 8)]) D55_26 rfl (show 4 < 5 by decide) rfl) <| Eq.trans (e_iload D55_28 rfl rfl) <| Eq.trans (e_bipush (x := 42) D55_30 rfl rfl) <| e_iceq D55_32 rfl rfl
theorem b55_35 {d : Nat} {x1 x2 x3 x4 : Int} {I L : Nat → Nat → Nat → Int} {t : Nat → Nat} : Res d 55 35 [vr 8 0, vi x1, vi x2, vi x3, vi x4] [] (mk I L t) = if x4 = 47 then Res d 55 44 [vr 8 0, vi x1, vi x2, vi x3, vi x4] [] (mk I L t) else Res d 55 42 [vr 8 0, vi x1, vi x2, vi x3, vi x4] [] (mk I L t) :=
  Eq.trans (e_iload D55_35 rfl rfl) <| Eq.trans (e_bipush (x := 47) D55_37 rfl rfl) <| e_iceq D55_39 rfl rfl
theorem b55_42 {d : Nat} {x1 x2 x3 x4 : Int} {I L : Nat → Nat → Nat → Int} {t : Nat → Nat} : Res d 55 42 [vr 8 0, vi x1, vi x2, vi x3, vi x4] [] (mk I L t) = some (vi 1, (mk I L t)) :=
  Eq.trans (e_iconst (x := 1) D55_42 rfl rfl) <| e_iret D55_43 rfl
theorem b55_44 {d : Nat} {x1 x2 x3 x4 : Int} {I L : Nat → Nat → Nat → Int} {t : Nat → Nat} : Res (d + 1) 55 44 [vr 8 0, vi x1, vi x2, vi x3, vi x4] [] (mk I L t) = (Cal d 38 [vr 7 0] (mk I L t)).bind fun v => Res (d + 1) 55 51 [vr 8 0, vi x1, vi x2, vi x3, vi x4] (psh 38 v.1 []) v.2 :=
  Eq.trans (e_aload_n D55_44 rfl rfl) <| Eq.trans (e_getP (p := (7, 0)) D55_45 rfl o_55 f_8_12 (sh_8 _) (by decide) (pp_8_0 _)) <| e_callV D55_48 rfl o_55 m_8_107 (by decide) rfl rfl
theorem b55_51 {d : Nat} {x1 x2 x3 x4 : Int} {I L : Nat → Nat → Nat → Int} {t : Nat → Nat} : Res d 55 51 [vr 8 0, vi x1, vi x2, vi x3, vi x4] [] (mk I L t) = if ¬ x4 = 47 then Res d 55 66 [vr 8 0, vi x1, vi x2, vi x3, vi x4] [] (mk I L t) else Res d 55 58 [vr 8 0, vi x1, vi x2, vi x3, vi x4] [] (mk I L t) :=
  Eq.trans (e_iload D55_51 rfl rfl) <| Eq.trans (e_bipush (x := 47) D55_53 rfl rfl) <| e_icne D55_55 rfl rfl
theorem b55_58 {d : Nat} {x1 x2 x3 x4 : Int} {I L : Nat → Nat → Nat → Int} {t : Nat → Nat} : Res (d + 1) 55 58 [vr 8 0, vi x1, vi x2, vi x3, vi x4] [] (mk I L t) = (Cal d 56 [vr 8 0] (mk I L t)).bind fun v => Res (d + 1) 55 62 [vr 8 0, vi x1, vi x2, vi x3, vi x4] (psh 56 v.1 []) v.2 :=
  Eq.trans (e_aload_n D55_58 rfl rfl) <| e_callV D55_59 rfl o_55 m_8_129 (by decide) rfl rfl
theorem b55_62 {d : Nat} {x1 x2 x3 x4 xs0 : Int} {I L : Nat → Nat → Nat → Int} {t : Nat → Nat} : Res d 55 62 [vr 8 0, vi x1, vi x2, vi x3, vi x4] [vi xs0] (mk I L t) = Res d 55 81 [vr 8 0, vi x1, vi xs0, vi x3, vi x4] [] (mk I L t) :=
  Eq.trans (e_istore_n (ls1 := [vr 8 0, vi x1, vi xs0, vi x3, vi x4]) D55_62 rfl (show 2 < 5 by decide) rfl) <| e_goto (q1 := 81) D55_63 rfl
theorem b55_66 {d : Nat} {x1 x2 x3 x4 : Int} {I L : Nat → Nat → Nat → Int} {t : Nat → Nat} : Res (d + 1) 55 66 [vr 8 0, vi x1, vi x2, vi x3, vi x4] [] (mk I L t) = (Cal d 57 [vr 8 0, vi x1] (mk I L t)).bind fun v => Res (d + 1) 55 71 [vr 8 0, vi x1, vi x2, vi x3, vi x4] (psh 57 v.1 []) v.2 :=
  Eq.trans (e_aload_n D55_66 rfl rfl) <| Eq.trans (e_iload_n D55_67 rfl rfl) <| e_callV D55_68 rfl o_55 m_8_126 (by decide) rfl rfl
theorem b55_71 {d : Nat} {x1 x2 x3 x4 xs0 : Int} {I L : Nat → Nat → Nat → Int} {t : Nat → Nat} : Res (d + 1) 55 71 [vr 8 0, vi x1, vi x2, vi x3, vi x4] [vi xs0] (mk I L t) = (Cal d 17 [vr 2 (t 4), vi 4, vi 0] (mk I L t)).bind fun v => Res (d + 1) 55 81 [vr 8 0, vi x1, vi xs0, vi x3, vi x4] (psh 17 v.1 []) v.2 :=
  Eq.trans (e_istore_n (ls1 := [vr 8 0, vi x1, vi xs0, vi x3, vi x4]) D55_71 rfl (show 2 < 5 by decide) rfl) <| Eq.trans (e_aload_n D55_72 rfl rfl) <| Eq.trans (e_getP (p := (2, t 4)) D55_73 rfl o_55 f_8_38 (sh_8 _) (by decide) (pp_8_4 _)) <| Eq.trans (e_iconst (x := 4) D55_76 rfl rfl) <| Eq.trans (e_iconst (x := 0) D55_77 rfl rfl) <| e_callV D55_78 rfl o_55 m_8_122 (by decide) rfl rfl
theorem b55_81 {d : Nat} {x1 x2 x3 x4 : Int} {I L : Nat → Nat → Nat → Int} {t : Nat → Nat} : Res d 55 81 [vr 8 0, vi x1, vi x2, vi x3, vi x4] [] (mk I L t) = Res d 55 8 [vr 8 0, vi x1, vi x2, vi (w32 (x3 + 1)), vi x4] [] (mk I L t) :=
  Eq.trans (e_iinc (ls1 := [vr 8 0, vi x1, vi x2, vi (w32 (x3 + 1)), vi x4]) D55_81 rfl rfl rfl) <| e_goto (q1 := 8) D55_84 rfl
theorem b55_87 {d : Nat} {x1 x2 x3 : Int} {u4 : MV} {I L : Nat → Nat → Nat → Int} {t : Nat → Nat} (g1 : x2 = 0 ∨ x2 = 1) : Res d 55 87 [vr 8 0, vi x1, vi x2, vi x3, u4] [] (mk I L t) = some (vi x2, (mk I L t)) :=
  Eq.trans (e_iload_n D55_87 rfl rfl) <| e_iret D55_88 (nrz rfl g1)
/-! Texts_readDivisor -/
theorem cc_56 : cod 56 = cX8_readDivisor := rfl
theorem D56_0 : decode (cod 56) 0 = .ok (.aload_n 0, 1) := by rw [cc_56]; decide +kernel
theorem D56_1 : decode (cod 56) 1 = .ok (.getfield 12, 3) := by rw [cc_56]; decide +kernel
theorem D56_4 : decode (cod 56) 4 = .ok (.getfield 93, 3) := by rw [cc_56]; decide +kernel
theorem D56_7 : decode (cod 56) 7 = .ok (.bipush 23, 2) := by rw [cc_56]; decide +kernel
theorem D56_9 : decode (cod 56) 9 = .ok (.if_icmp .eq 12, 3) := by rw [cc_56]; decide +kernel
theorem D56_12 : decode (cod 56) 12 = .ok (.aload_n 0, 1) := by rw [cc_56]; decide +kernel
theorem D56_13 : decode (cod 56) 13 = .ok (.getfield 12, 3) := by rw [cc_56]; decide +kernel
theorem D56_16 : decode (cod 56) 16 = .ok (.iconst 1, 1) := by rw [cc_56]; decide +kernel
theorem D56_17 : decode (cod 56) 17 = .ok (.invokevirtual 96, 3) := by rw [cc_56]; decide +kernel
theorem D56_20 : decode (cod 56) 20 = .ok (.ireturn, 1) := by rw [cc_56]; decide +kernel
theorem D56_21 : decode (cod 56) 21 = .ok (.aload_n 0, 1) := by rw [cc_56]; decide +kernel
theorem D56_22 : decode (cod 56) 22 = .ok (.getfield 12, 3) := by rw [cc_56]; decide +kernel
theorem D56_25 : decode (cod 56) 25 = .ok (.getfield 132, 3) := by rw [cc_56]; decide +kernel
theorem D56_28 : decode (cod 56) 28 = .ok (.ifCond .ne 12, 3) := by rw [cc_56]; decide +kernel
theorem D56_31 : decode (cod 56) 31 = .ok (.aload_n 0, 1) := by rw [cc_56]; decide +kernel
theorem D56_32 : decode (cod 56) 32 = .ok (.getfield 12, 3) := by rw [cc_56]; decide +kernel
theorem D56_35 : decode (cod 56) 35 = .ok (.iconst 2, 1) := by rw [cc_56]; decide +kernel
theorem D56_36 : decode (cod 56) 36 = .ok (.invokevirtual 96, 3) := by rw [cc_56]; decide +kernel
theorem D56_39 : decode (cod 56) 39 = .ok (.ireturn, 1) := by rw [cc_56]; decide +kernel
theorem D56_40 : decode (cod 56) 40 = .ok (.aload_n 0, 1) := by rw [cc_56]; decide +kernel
theorem D56_41 : decode (cod 56) 41 = .ok (.getfield 38, 3) := by rw [cc_56]; decide +kernel
theorem D56_44 : decode (cod 56) 44 = .ok (.iconst 5, 1) := by rw [cc_56]; decide +kernel
theorem D56_45 : decode (cod 56) 45 = .ok (.aload_n 0, 1) := by rw [cc_56]; decide +kernel
theorem D56_46 : decode (cod 56) 46 = .ok (.getfield 12, 3) := by rw [cc_56]; decide +kernel
theorem D56_49 : decode (cod 56) 49 = .ok (.getfield 132, 3) := by rw [cc_56]; decide +kernel
theorem D56_52 : decode (cod 56) 52 = .ok (.invokevirtual 122, 3) := by rw [cc_56]; decide +kernel
theorem D56_55 : decode (cod 56) 55 = .ok (.aload_n 0, 1) := by rw [cc_56]; decide +kernel
theorem D56_56 : decode (cod 56) 56 = .ok (.getfield 12, 3) := by rw [cc_56]; decide +kernel
theorem D56_59 : decode (cod 56) 59 = .ok (.invokevirtual 107, 3) := by rw [cc_56]; decide +kernel
theorem D56_62 : decode (cod 56) 62 = .ok (.iconst 1, 1) := by rw [cc_56]; decide +kernel
theorem D56_63 : decode (cod 56) 63 = .ok (.ireturn, 1) := by rw [cc_56]; decide +kernel
theorem b56_0 {d : Nat}  {I L : Nat → Nat → Nat → Int} {t : Nat → Nat} : Res d 56 0 [vr 8 0] [] (mk I L t) = if I 7 0 8 = 23 then Res d 56 21 [vr 8 0] [] (mk I L t) else Res d 56 12 [vr 8 0] [] (mk I L t) :=
  Eq.trans (e_aload_n D56_0 rfl rfl) <| Eq.trans (e_getP (p := (7, 0)) D56_1 rfl o_56 f_8_12 (sh_8 _) (by decide) (pp_8_0 _)) <| Eq.trans (e_getI D56_4 rfl o_56 f_8_93 (sh_7 _) (by decide)) <| Eq.trans (e_bipush (x := 23) D56_7 rfl rfl) <| e_iceq D56_9 rfl rfl
theorem b56_12 {d : Nat}  {I L : Nat → Nat → Nat → Int} {t : Nat → Nat} : Res (d + 1) 56 12 [vr 8 0] [] (mk I L t) = (Cal d 37 [vr 7 0, vi 1] (mk I L t)).bind fun v => Res (d + 1) 56 20 [vr 8 0] (psh 37 v.1 []) v.2 :=
  Eq.trans (e_aload_n D56_12 rfl rfl) <| Eq.trans (e_getP (p := (7, 0)) D56_13 rfl o_56 f_8_12 (sh_8 _) (by decide) (pp_8_0 _)) <| Eq.trans (e_iconst (x := 1) D56_16 rfl rfl) <| e_callV D56_17 rfl o_56 m_8_96 (by decide) rfl rfl
theorem b56_20 {d : Nat} {xs0 : Int} {I L : Nat → Nat → Nat → Int} {t : Nat → Nat} (g1 : xs0 = 0 ∨ xs0 = 1) : Res d 56 20 [vr 8 0] [vi xs0] (mk I L t) = some (vi xs0, (mk I L t)) :=
  e_iret D56_20 (nrz rfl g1)
theorem b56_21 {d : Nat}  {I L : Nat → Nat → Nat → Int} {t : Nat → Nat} : Res d 56 21 [vr 8 0] [] (mk I L t) = if ¬ I 7 0 10 = 0 then Res d 56 40 [vr 8 0] [] (mk I L t) else Res d 56 31 [vr 8 0] [] (mk I L t) :=
  Eq.trans (e_aload_n D56_21 rfl rfl) <| Eq.trans (e_getP (p := (7, 0)) D56_22 rfl o_56 f_8_12 (sh_8 _) (by decide) (pp_8_0 _)) <| Eq.trans (e_getI D56_25 rfl o_56 f_8_132 (sh_7 _) (by decide)) <| e_ifne D56_28 rfl rfl
theorem b56_31 {d : Nat}  {I L : Nat → Nat → Nat → Int} {t : Nat → Nat} : Res (d + 1) 56 31 [vr 8 0] [] (mk I L t) = (Cal d 37 [vr 7 0, vi 2] (mk I L t)).bind fun v => Res (d + 1) 56 39 [vr 8 0] (psh 37 v.1 []) v.2 :=
  Eq.trans (e_aload_n D56_31 rfl rfl) <| Eq.trans (e_getP (p := (7, 0)) D56_32 rfl o_56 f_8_12 (sh_8 _) (by decide) (pp_8_0 _)) <| Eq.trans (e_iconst (x := 2) D56_35 rfl rfl) <| e_callV D56_36 rfl o_56 m_8_96 (by decide) rfl rfl
theorem b56_39 {d : Nat} {xs0 : Int} {I L : Nat → Nat → Nat → Int} {t : Nat → Nat} (g1 : xs0 = 0 ∨ xs0 = 1) : Res d 56 39 [vr 8 0] [vi xs0] (mk I L t) = some (vi xs0, (mk I L t)) :=
  e_iret D56_39 (nrz rfl g1)
theorem b56_40 {d : Nat}  {I L : Nat → Nat → Nat → Int} {t : Nat → Nat} : Res (d + 1) 56 40 [vr 8 0] [] (mk I L t) = (Cal d 17 [vr 2 (t 4), vi 5, vi (I 7 0 10)] (mk I L t)).bind fun v => Res (d + 1) 56 55 [vr 8 0] (psh 17 v.1 []) v.2 :=
  Eq.trans (e_aload_n D56_40 rfl rfl) <| Eq.trans (e_getP (p := (2, t 4)) D56_41 rfl o_56 f_8_38 (sh_8 _) (by decide) (pp_8_4 _)) <| Eq.trans (e_iconst (x := 5) D56_44 rfl rfl) <| Eq.trans (e_aload_n D56_45 rfl rfl) <| Eq.trans (e_getP (p := (7, 0)) D56_46 rfl o_56 f_8_12 (sh_8 _) (by decide) (pp_8_0 _)) <| Eq.trans (e_getI D56_49 rfl o_56 f_8_132 (sh_7 _) (by decide)) <| e_callV D56_52 rfl o_56 m_8_122 (by decide) rfl rfl
theorem b56_55 {d : Nat}  {I L : Nat → Nat → Nat → Int} {t : Nat → Nat} : Res (d + 1) 56 55 [vr 8 0] [] (mk I L t) = (Cal d 38 [vr 7 0] (mk I L t)).bind fun v => Res (d + 1) 56 62 [vr 8 0] (psh 38 v.1 []) v.2 :=
  Eq.trans (e_aload_n D56_55 rfl rfl) <| Eq.trans (e_getP (p := (7, 0)) D56_56 rfl o_56 f_8_12 (sh_8 _) (by decide) (pp_8_0 _)) <| e_callV D56_59 rfl o_56 m_8_107 (by decide) rfl rfl
theorem b56_62 {d : Nat}  {I L : Nat → Nat → Nat → Int} {t : Nat → Nat} : Res d 56 62 [vr 8 0] [] (mk I L t) = some (vi 1, (mk I L t)) :=
  Eq.trans (e_iconst (x := 1) D56_62 rfl rfl) <| e_iret D56_63 rfl
/-! Texts_readUnit -/
theorem cc_57 : cod 57 = cX8_readUnit := rfl
theorem D57_0 : decode (cod 57) 0 = .ok (.aload_n 0, 1) := by rw [cc_57]; decide +kernel
theorem D57_1 : decode (cod 57) 1 = .ok (.getfield 12, 3) := by rw [cc_57]; decide +kernel
theorem D57_4 : decode (cod 57) 4 = .ok (.getfield 93, 3) := by rw [cc_57]; decide +kernel
theorem D57_7 : decode (cod 57) 7 = .ok (.istore_n 2, 1) := by rw [cc_57]; decide +kernel
theorem D57_8 : decode (cod 57) 8 = .ok (.iload_n 2, 1) := by rw [cc_57]; decide +kernel
theorem D57_9 : decode (cod 57) 9 = .ok (.bipush 40, 2) := by rw [cc_57]; decide +kernel
theorem D57_11 : decode (cod 57) 11 = .ok (.if_icmp .ne 50, 3) := by rw [cc_57]; decide +kernel
theorem D57_14 : decode (cod 57) 14 = .ok (.iload_n 1, 1) := by rw [cc_57]; decide +kernel
theorem D57_15 : decode (cod 57) 15 = .ok (.bipush 8, 2) := by rw [cc_57]; decide +kernel
theorem D57_17 : decode (cod 57) 17 = .ok (.if_icmp .lt 12, 3) := by rw [cc_57]; decide +kernel
theorem D57_20 : decode (cod 57) 20 = .ok (.aload_n 0, 1) := by rw [cc_57]; decide +kernel
theorem D57_21 : decode (cod 57) 21 = .ok (.getfield 12, 3) := by rw [cc_57]; decide +kernel
theorem D57_24 : decode (cod 57) 24 = .ok (.iconst 3, 1) := by rw [cc_57]; decide +kernel
theorem D57_25 : decode (cod 57) 25 = .ok (.invokevirtual 96, 3) := by rw [cc_57]; decide +kernel
theorem D57_28 : decode (cod 57) 28 = .ok (.ireturn, 1) := by rw [cc_57]; decide +kernel
theorem D57_29 : decode (cod 57) 29 = .ok (.aload_n 0, 1) := by rw [cc_57]; decide +kernel
theorem D57_30 : decode (cod 57) 30 = .ok (.getfield 12, 3) := by rw [cc_57]; decide +kernel
theorem D57_33 : decode (cod 57) 33 = .ok (.invokevirtual 107, 3) := by rw [cc_57]; decide +kernel
theorem D57_36 : decode (cod 57) 36 = .ok (.aload_n 0, 1) := by rw [cc_57]; decide +kernel
theorem D57_37 : decode (cod 57) 37 = .ok (.iload_n 1, 1) := by rw [cc_57]; decide +kernel
theorem D57_38 : decode (cod 57) 38 = .ok (.iconst 1, 1) := by rw [cc_57]; decide +kernel
theorem D57_39 : decode (cod 57) 39 = .ok (.iadd, 1) := by rw [cc_57]; decide +kernel
theorem D57_40 : decode (cod 57) 40 = .ok (.invokevirtual 110, 3) := by rw [cc_57]; decide +kernel
theorem D57_43 : decode (cod 57) 43 = .ok (.ifCond .eq 16, 3) := by rw [cc_57]; decide +kernel
theorem D57_46 : decode (cod 57) 46 = .ok (.aload_n 0, 1) := by rw [cc_57]; decide +kernel
theorem D57_47 : decode (cod 57) 47 = .ok (.bipush 41, 2) := by rw [cc_57]; decide +kernel
theorem D57_49 : decode (cod 57) 49 = .ok (.invokevirtual 113, 3) := by rw [cc_57]; decide +kernel
theorem D57_52 : decode (cod 57) 52 = .ok (.ifCond .eq 7, 3) := by rw [cc_57]; decide +kernel
theorem D57_55 : decode (cod 57) 55 = .ok (.iconst 1, 1) := by rw [cc_57]; decide +kernel
theorem D57_56 : decode (cod 57) 56 = .ok (.goto 4, 3) := by rw [cc_57]; decide +kernel
theorem D57_59 : decode (cod 57) 59 = .ok (.iconst 0, 1) := by rw [cc_57]; decide +kernel
theorem D57_60 : decode (cod 57) 60 = .ok (.ireturn, 1) := by rw [cc_57]; decide +kernel
theorem D57_61 : decode (cod 57) 61 = .ok (.iload_n 2, 1) := by rw [cc_57]; decide +kernel
theorem D57_62 : decode (cod 57) 62 = .ok (.bipush 23, 2) := by rw [cc_57]; decide +kernel
theorem D57_64 : decode (cod 57) 64 = .ok (.if_icmp .eq 23, 3) := by rw [cc_57]; decide +kernel
theorem D57_67 : decode (cod 57) 67 = .ok (.iload_n 2, 1) := by rw [cc_57]; decide +kernel
theorem D57_68 : decode (cod 57) 68 = .ok (.bipush 8, 2) := by rw [cc_57]; decide +kernel
theorem D57_70 : decode (cod 57) 70 = .ok (.bipush 17, 2) := by rw [cc_57]; decide +kernel
theorem D57_72 : decode (cod 57) 72 = .ok (.invokestatic 56, 3) := by rw [cc_57]; decide +kernel
theorem D57_75 : decode (cod 57) 75 = .ok (.ifCond .ne 12, 3) := by rw [cc_57]; decide +kernel
theorem D57_78 : decode (cod 57) 78 = .ok (.aload_n 0, 1) := by rw [cc_57]; decide +kernel
theorem D57_79 : decode (cod 57) 79 = .ok (.getfield 12, 3) := by rw [cc_57]; decide +kernel
theorem D57_82 : decode (cod 57) 82 = .ok (.iconst 1, 1) := by rw [cc_57]; decide +kernel
theorem D57_83 : decode (cod 57) 83 = .ok (.invokevirtual 96, 3) := by rw [cc_57]; decide +kernel
theorem D57_86 : decode (cod 57) 86 = .ok (.ireturn, 1) := by rw [cc_57]; decide +kernel
theorem D57_87 : decode (cod 57) 87 = .ok (.iload_n 2, 1) := by rw [cc_57]; decide +kernel
theorem D57_88 : decode (cod 57) 88 = .ok (.bipush 23, 2) := by rw [cc_57]; decide +kernel
theorem D57_90 : decode (cod 57) 90 = .ok (.if_icmp .ne 21, 3) := by rw [cc_57]; decide +kernel
theorem D57_93 : decode (cod 57) 93 = .ok (.aload_n 0, 1) := by rw [cc_57]; decide +kernel
theorem D57_94 : decode (cod 57) 94 = .ok (.getfield 38, 3) := by rw [cc_57]; decide +kernel
theorem D57_97 : decode (cod 57) 97 = .ok (.iconst 0, 1) := by rw [cc_57]; decide +kernel
theorem D57_98 : decode (cod 57) 98 = .ok (.aload_n 0, 1) := by rw [cc_57]; decide +kernel
theorem D57_99 : decode (cod 57) 99 = .ok (.getfield 12, 3) := by rw [cc_57]; decide +kernel
theorem D57_102 : decode (cod 57) 102 = .ok (.getfield 132, 3) := by rw [cc_57]; decide +kernel
theorem D57_105 : decode (cod 57) 105 = .ok (.invokevirtual 122, 3) := by rw [cc_57]; decide +kernel
theorem D57_108 : decode (cod 57) 108 = .ok (.goto 15, 3) := by rw [cc_57]; decide +kernel
theorem D57_111 : decode (cod 57) 111 = .ok (.aload_n 0, 1) := by rw [cc_57]; decide +kernel
theorem D57_112 : decode (cod 57) 112 = .ok (.getfield 38, 3) := by rw [cc_57]; decide +kernel
theorem D57_115 : decode (cod 57) 115 = .ok (.iconst 1, 1) := by rw [cc_57]; decide +kernel
theorem D57_116 : decode (cod 57) 116 = .ok (.iload_n 2, 1) := by rw [cc_57]; decide +kernel
theorem D57_117 : decode (cod 57) 117 = .ok (.bipush 8, 2) := by rw [cc_57]; decide +kernel
theorem D57_119 : decode (cod 57) 119 = .ok (.isub, 1) := by rw [cc_57]; decide +kernel
theorem D57_120 : decode (cod 57) 120 = .ok (.invokevirtual 122, 3) := by rw [cc_57]; decide +kernel
theorem D57_123 : decode (cod 57) 123 = .ok (.aload_n 0, 1) := by rw [cc_57]; decide +kernel
theorem D57_124 : decode (cod 57) 124 = .ok (.getfield 12, 3) := by rw [cc_57]; decide +kernel
theorem D57_127 : decode (cod 57) 127 = .ok (.invokevirtual 107, 3) := by rw [cc_57]; decide +kernel
theorem D57_130 : decode (cod 57) 130 = .ok (.iconst 1, 1) := by rw [cc_57]; decide +kernel
theorem D57_131 : decode (cod 57) 131 = .ok (.ireturn, 1) := by rw [cc_57]; decide +kernel
theorem b57_0 {d : Nat} {x1 : Int} {I L : Nat → Nat → Nat → Int} {t : Nat → Nat} : Res d 57 0 [vr 8 0, vi x1, vx] [] (mk I L t) = if ¬ I 7 0 8 = 40 then Res d 57 61 [vr 8 0, vi x1, vi (I 7 0 8)] [] (mk I L t) else Res d 57 14 [vr 8 0, vi x1, vi (I 7 0 8)] [] (mk I L t) :=
  Eq.trans (e_aload_n D57_0 rfl rfl) <| Eq.trans (e_getP (p := (7, 0)) D57_1 rfl o_57 f_8_12 (sh_8 _) (by decide) (pp_8_0 _)) <| Eq.trans (e_getI D57_4 rfl o_57 f_8_93 (sh_7 _) (by decide)) <| Eq.trans (e_istore_n (ls1 := [vr 8 0, vi x1, vi (I 7 0 8)]) D57_7 rfl (show 2 < 3 by decide) rfl) <| Eq.trans (e_iload_n D57_8 rfl rfl) <| Eq.trans (e_bipush (x := 40) D57_9 rfl rfl) <| e_icne D57_11 rfl rfl
theorem b57_14 {d : Nat} {x1 x2 : Int} {I L : Nat → Nat → Nat → Int} {t : Nat → Nat} : Res d 57 14 [vr 8 0, vi x1, vi x2] [] (mk I L t) = if x1 < 8 then Res d 57 29 [vr 8 0, vi x1, vi x2] [] (mk I L t) else Res d 57 20 [vr 8 0, vi x1, vi x2] [] (mk I L t) :=
  Eq.trans (e_iload_n D57_14 rfl rfl) <| Eq.trans (e_bipush (x := 8) D57_15 rfl rfl) <| e_iclt D57_17 rfl rfl
theorem b57_20 {d : Nat} {x1 x2 : Int} {I L : Nat → Nat → Nat → Int} {t : Nat → Nat} : Res (d + 1) 57 20 [vr 8 0, vi x1, vi x2] [] (mk I L t) = (Cal d 37 [vr 7 0, vi 3] (mk I L t)).bind fun v => Res (d + 1) 57 28 [vr 8 0, vi x1, vi x2] (psh 37 v.1 []) v.2 :=
  Eq.trans (e_aload_n D57_20 rfl rfl) <| Eq.trans (e_getP (p := (7, 0)) D57_21 rfl o_57 f_8_12 (sh_8 _) (by decide) (pp_8_0 _)) <| Eq.trans (e_iconst (x := 3) D57_24 rfl rfl) <| e_callV D57_25 rfl o_57 m_8_96 (by decide) rfl rfl
theorem b57_28 {d : Nat} {x1 x2 xs0 : Int} {I L : Nat → Nat → Nat → Int} {t : Nat → Nat} (g1 : xs0 = 0 ∨ xs0 = 1) : Res d 57 28 [vr 8 0, vi x1, vi x2] [vi xs0] (mk I L t) = some (vi xs0, (mk I L t)) :=
  e_iret D57_28 (nrz rfl g1)
theorem b57_29 {d : Nat} {x1 x2 : Int} {I L : Nat → Nat → Nat → Int} {t : Nat → Nat} : Res (d + 1) 57 29 [vr 8 0, vi x1, vi x2] [] (mk I L t) = (Cal d 38 [vr 7 0] (mk I L t)).bind fun v => Res (d + 1) 57 36 [vr 8 0, vi x1, vi x2] (psh 38 v.1 []) v.2 :=
  Eq.trans (e_aload_n D57_29 rfl rfl) <| Eq.trans (e_getP (p := (7, 0)) D57_30 rfl o_57 f_8_12 (sh_8 _) (by decide) (pp_8_0 _)) <| e_callV D57_33 rfl o_57 m_8_107 (by decide) rfl rfl
theorem b57_36 {d : Nat} {x1 x2 : Int} {I L : Nat → Nat → Nat → Int} {t : Nat → Nat} : Res (d + 1) 57 36 [vr 8 0, vi x1, vi x2] [] (mk I L t) = (Cal d 54 [vr 8 0, vi (w32 (x1 + 1))] (mk I L t)).bind fun v => Res (d + 1) 57 43 [vr 8 0, vi x1, vi x2] (psh 54 v.1 []) v.2 :=
  Eq.trans (e_aload_n D57_36 rfl rfl) <| Eq.trans (e_iload_n D57_37 rfl rfl) <| Eq.trans (e_iconst (x := 1) D57_38 rfl rfl) <| Eq.trans (e_iadd D57_39 rfl) <| e_callV D57_40 rfl o_57 m_8_110 (by decide) rfl rfl
theorem b57_43 {d : Nat} {x1 x2 xs0 : Int} {I L : Nat → Nat → Nat → Int} {t : Nat → Nat} : Res d 57 43 [vr 8 0, vi x1, vi x2] [vi xs0] (mk I L t) = if xs0 = 0 then Res d 57 59 [vr 8 0, vi x1, vi x2] [] (mk I L t) else Res d 57 46 [vr 8 0, vi x1, vi x2] [] (mk I L t) :=
  e_ifeq D57_43 rfl rfl
theorem b57_46 {d : Nat} {x1 x2 : Int} {I L : Nat → Nat → Nat → Int} {t : Nat → Nat} : Res (d + 1) 57 46 [vr 8 0, vi x1, vi x2] [] (mk I L t) = (Cal d 58 [vr 8 0, vi 41] (mk I L t)).bind fun v => Res (d + 1) 57 52 [vr 8 0, vi x1, vi x2] (psh 58 v.1 []) v.2 :=
  Eq.trans (e_aload_n D57_46 rfl rfl) <| Eq.trans (e_bipush (x := 41) D57_47 rfl rfl) <| e_callV D57_49 rfl o_57 m_8_113 (by decide) rfl rfl
theorem b57_52 {d : Nat} {x1 x2 xs0 : Int} {I L : Nat → Nat → Nat → Int} {t : Nat → Nat} : Res d 57 52 [vr 8 0, vi x1, vi x2] [vi xs0] (mk I L t) = if xs0 = 0 then Res d 57 59 [vr 8 0, vi x1, vi x2] [] (mk I L t) else Res d 57 55 [vr 8 0, vi x1, vi x2] [] (mk I L t) :=
  e_ifeq D57_52 rfl rfl
theorem b57_55 {d : Nat} {x1 x2 : Int} {I L : Nat → Nat → Nat → Int} {t : Nat → Nat} : Res d 57 55 [vr 8 0, vi x1, vi x2] [] (mk I L t) = Res d 57 60 [vr 8 0, vi x1, vi x2] [vi 1] (mk I L t) :=
  Eq.trans (e_iconst (x := 1) D57_55 rfl rfl) <| e_goto (q1 := 60) D57_56 rfl
theorem b57_59 {d : Nat} {x1 x2 : Int} {I L : Nat → Nat → Nat → Int} {t : Nat → Nat} : Res d 57 59 [vr 8 0, vi x1, vi x2] [] (mk I L t) = Res d 57 60 [vr 8 0, vi x1, vi x2] [vi 0] (mk I L t) :=
  e_iconst (x := 0) D57_59 rfl rfl
theorem b57_60 {d : Nat} {x1 x2 xs0 : Int} {I L : Nat → Nat → Nat → Int} {t : Nat → Nat} (g1 : xs0 = 0 ∨ xs0 = 1) : Res d 57 60 [vr 8 0, vi x1, vi x2] [vi xs0] (mk I L t) = some (vi xs0, (mk I L t)) :=
  e_iret D57_60 (nrz rfl g1)
theorem b57_61 {d : Nat} {x1 x2 : Int} {I L : Nat → Nat → Nat → Int} {t : Nat → Nat} : Res d 57 61 [vr 8 0, vi x1, vi x2] [] (mk I L t) = if x2 = 23 then Res d 57 87 [vr 8 0, vi x1, vi x2] [] (mk I L t) else Res d 57 67 [vr 8 0, vi x1, vi x2] [] (mk I L t) :=
  Eq.trans (e_iload_n D57_61 rfl rfl) <| Eq.trans (e_bipush (x := 23) D57_62 rfl rfl) <| e_iceq D57_64 rfl rfl
theorem b57_67 {d : Nat} {x1 x2 : Int} {I L : Nat → Nat → Nat → Int} {t : Nat → Nat} : Res (d + 1) 57 67 [vr 8 0, vi x1, vi x2] [] (mk I L t) = (Cal d 102 [vi x2, vi 8, vi 17] (mk I L t)).bind fun v => Res (d + 1) 57 75 [vr 8 0, vi x1, vi x2] (psh 102 v.1 []) v.2 :=
  Eq.trans (e_iload_n D57_67 rfl rfl) <| Eq.trans (e_bipush (x := 8) D57_68 rfl rfl) <| Eq.trans (e_bipush (x := 17) D57_70 rfl rfl) <| e_callS D57_72 rfl o_57 m_8_56 (by decide) rfl rfl
theorem b57_75 {d : Nat} {x1 x2 xs0 : Int} {I L : Nat → Nat → Nat → Int} {t : Nat → Nat} : Res d 57 75 [vr 8 0, vi x1, vi x2] [vi xs0] (mk I L t) = if ¬ xs0 = 0 then Res d 57 87 [vr 8 0, vi x1, vi x2] [] (mk I L t) else Res d 57 78 [vr 8 0, vi x1, vi x2] [] (mk I L t) :=
  e_ifne D57_75 rfl rfl
theorem b57_78 {d : Nat} {x1 x2 : Int} {I L : Nat → Nat → Nat → Int} {t : Nat → Nat} : Res (d + 1) 57 78 [vr 8 0, vi x1, vi x2] [] (mk I L t) = (Cal d 37 [vr 7 0, vi 1] (mk I L t)).bind fun v => Res (d + 1) 57 86 [vr 8 0, vi x1, vi x2] (psh 37 v.1 []) v.2 :=
  Eq.trans (e_aload_n D57_78 rfl rfl) <| Eq.trans (e_getP (p := (7, 0)) D57_79 rfl o_57 f_8_12 (sh_8 _) (by decide) (pp_8_0 _)) <| Eq.trans (e_iconst (x := 1) D57_82 rfl rfl) <| e_callV D57_83 rfl o_57 m_8_96 (by decide) rfl rfl
theorem b57_86 {d : Nat} {x1 x2 xs0 : Int} {I L : Nat → Nat → Nat → Int} {t : Nat → Nat} (g1 : xs0 = 0 ∨ xs0 = 1) : Res d 57 86 [vr 8 0, vi x1, vi x2] [vi xs0] (mk I L t) = some (vi xs0, (mk I L t)) :=
  e_iret D57_86 (nrz rfl g1)
theorem b57_87 {d : Nat} {x1 x2 : Int} {I L : Nat → Nat → Nat → Int} {t : Nat → Nat} : Res d 57 87 [vr 8 0, vi x1, vi x2] [] (mk I L t) = if ¬ x2 = 23 then Res d 57 111 [vr 8 0, vi x1, vi x2] [] (mk I L t) else Res d 57 93 [vr 8 0, vi x1, vi x2] [] (mk I L t) :=
  Eq.trans (e_iload_n D57_87 rfl rfl) <| Eq.trans (e_bipush (x := 23) D57_88 rfl rfl) <| e_icne D57_90 rfl rfl
theorem b57_93 {d : Nat} {x1 x2 : Int} {I L : Nat → Nat → Nat → Int} {t : Nat → Nat} : Res (d + 1) 57 93 [vr 8 0, vi x1, vi x2] [] (mk I L t) = (Cal d 17 [vr 2 (t 4), vi 0, vi (I 7 0 10)] (mk I L t)).bind fun v => Res (d + 1) 57 108 [vr 8 0, vi x1, vi x2] (psh 17 v.1 []) v.2 :=
  Eq.trans (e_aload_n D57_93 rfl rfl) <| Eq.trans (e_getP (p := (2, t 4)) D57_94 rfl o_57 f_8_38 (sh_8 _) (by decide) (pp_8_4 _)) <| Eq.trans (e_iconst (x := 0) D57_97 rfl rfl) <| Eq.trans (e_aload_n D57_98 rfl rfl) <| Eq.trans (e_getP (p := (7, 0)) D57_99 rfl o_57 f_8_12 (sh_8 _) (by decide) (pp_8_0 _)) <| Eq.trans (e_getI D57_102 rfl o_57 f_8_132 (sh_7 _) (by decide)) <| e_callV D57_105 rfl o_57 m_8_122 (by decide) rfl rfl
theorem b57_108 {d : Nat} {x1 x2 : Int} {I L : Nat → Nat → Nat → Int} {t : Nat → Nat} : Res d 57 108 [vr 8 0, vi x1, vi x2] [] (mk I L t) = Res d 57 123 [vr 8 0, vi x1, vi x2] [] (mk I L t) :=
  e_goto (q1 := 123) D57_108 rfl
theorem b57_111 {d : Nat} {x1 x2 : Int} {I L : Nat → Nat → Nat → Int} {t : Nat → Nat} : Res (d + 1) 57 111 [vr 8 0, vi x1, vi x2] [] (mk I L t) = (Cal d 17 [vr 2 (t 4), vi 1, vi (w32 (x2 - 8))] (mk I L t)).bind fun v => Res (d + 1) 57 123 [vr 8 0, vi x1, vi x2] (psh 17 v.1 []) v.2 :=
  Eq.trans (e_aload_n D57_111 rfl rfl) <| Eq.trans (e_getP (p := (2, t 4)) D57_112 rfl o_57 f_8_38 (sh_8 _) (by decide) (pp_8_4 _)) <| Eq.trans (e_iconst (x := 1) D57_115 rfl rfl) <| Eq.trans (e_iload_n D57_116 rfl rfl) <| Eq.trans (e_bipush (x := 8) D57_117 rfl rfl) <| Eq.trans (e_isub D57_119 rfl) <| e_callV D57_120 rfl o_57 m_8_122 (by decide) rfl rfl
theorem b57_123 {d : Nat} {x1 x2 : Int} {I L : Nat → Nat → Nat → Int} {t : Nat → Nat} : Res (d + 1) 57 123 [vr 8 0, vi x1, vi x2] [] (mk I L t) = (Cal d 38 [vr 7 0] (mk I L t)).bind fun v => Res (d + 1) 57 130 [vr 8 0, vi x1, vi x2] (psh 38 v.1 []) v.2 :=
  Eq.trans (e_aload_n D57_123 rfl rfl) <| Eq.trans (e_getP (p := (7, 0)) D57_124 rfl o_57 f_8_12 (sh_8 _) (by decide) (pp_8_0 _)) <| e_callV D57_127 rfl o_57 m_8_107 (by decide) rfl rfl
theorem b57_130 {d : Nat} {x1 x2 : Int} {I L : Nat → Nat → Nat → Int} {t : Nat → Nat} : Res d 57 130 [vr 8 0, vi x1, vi x2] [] (mk I L t) = some (vi 1, (mk I L t)) :=
  Eq.trans (e_iconst (x := 1) D57_130 rfl rfl) <| e_iret D57_131 rfl
/-! Texts_readSign -/
theorem cc_58 : cod 58 = cX8_readSign := rfl
theorem D58_0 : decode (cod 58) 0 = .ok (.aload_n 0, 1) := by rw [cc_58]; decide +kernel
theorem D58_1 : decode (cod 58) 1 = .ok (.getfield 12, 3) := by rw [cc_58]; decide +kernel
theorem D58_4 : decode (cod 58) 4 = .ok (.getfield 93, 3) := by rw [cc_58]; decide +kernel
theorem D58_7 : decode (cod 58) 7 = .ok (.iload_n 1, 1) := by rw [cc_58]; decide +kernel
theorem D58_8 : decode (cod 58) 8 = .ok (.if_icmp .eq 12, 3) := by rw [cc_58]; decide +kernel
theorem D58_11 : decode (cod 58) 11 = .ok (.aload_n 0, 1) := by rw [cc_58]; decide +kernel
theorem D58_12 : decode (cod 58) 12 = .ok (.getfield 12, 3) := by rw [cc_58]; decide +kernel
theorem D58_15 : decode (cod 58) 15 = .ok (.iconst 1, 1) := by rw [cc_58]; decide +kernel
theorem D58_16 : decode (cod 58) 16 = .ok (.invokevirtual 96, 3) := by rw [cc_58]; decide +kernel
theorem D58_19 : decode (cod 58) 19 = .ok (.ireturn, 1) := by rw [cc_58]; decide +kernel
theorem D58_20 : decode (cod 58) 20 = .ok (.aload_n 0, 1) := by rw [cc_58]; decide +kernel
theorem D58_21 : decode (cod 58) 21 = .ok (.getfield 12, 3) := by rw [cc_58]; decide +kernel
theorem D58_24 : decode (cod 58) 24 = .ok (.invokevirtual 107, 3) := by rw [cc_58]; decide +kernel
theorem D58_27 : decode (cod 58) 27 = .ok (.iconst 1, 1) := by rw [cc_58]; decide +kernel
theorem D58_28 : decode (cod 58) 28 = .ok (.ireturn, 1) := by rw [cc_58]; decide +kernel
theorem b58_0 {d : Nat} {x1 : Int} {I L : Nat → Nat → Nat → Int} {t : Nat → Nat} : Res d 58 0 [vr 8 0, vi x1] [] (mk I L t) = if I 7 0 8 = x1 then Res d 58 20 [vr 8 0, vi x1] [] (mk I L t) else Res d 58 11 [vr 8 0, vi x1] [] (mk I L t) :=
  Eq.trans (e_aload_n D58_0 rfl rfl) <| Eq.trans (e_getP (p := (7, 0)) D58_1 rfl o_58 f_8_12 (sh_8 _) (by decide) (pp_8_0 _)) <| Eq.trans (e_getI D58_4 rfl o_58 f_8_93 (sh_7 _) (by decide)) <| Eq.trans (e_iload_n D58_7 rfl rfl) <| e_iceq D58_8 rfl rfl
theorem b58_11 {d : Nat} {x1 : Int} {I L : Nat → Nat → Nat → Int} {t : Nat → Nat} : Res (d + 1) 58 11 [vr 8 0, vi x1] [] (mk I L t) = (Cal d 37 [vr 7 0, vi 1] (mk I L t)).bind fun v => Res (d + 1) 58 19 [vr 8 0, vi x1] (psh 37 v.1 []) v.2 :=
  Eq.trans (e_aload_n D58_11 rfl rfl) <| Eq.trans (e_getP (p := (7, 0)) D58_12 rfl o_58 f_8_12 (sh_8 _) (by decide) (pp_8_0 _)) <| Eq.trans (e_iconst (x := 1) D58_15 rfl rfl) <| e_callV D58_16 rfl o_58 m_8_96 (by decide) rfl rfl
theorem b58_19 {d : Nat} {x1 xs0 : Int} {I L : Nat → Nat → Nat → Int} {t : Nat → Nat} (g1 : xs0 = 0 ∨ xs0 = 1) : Res d 58 19 [vr 8 0, vi x1] [vi xs0] (mk I L t) = some (vi xs0, (mk I L t)) :=
  e_iret D58_19 (nrz rfl g1)
theorem b58_20 {d : Nat} {x1 : Int} {I L : Nat → Nat → Nat → Int} {t : Nat → Nat} : Res (d + 1) 58 20 [vr 8 0, vi x1] [] (mk I L t) = (Cal d 38 [vr 7 0] (mk I L t)).bind fun v => Res (d + 1) 58 27 [vr 8 0, vi x1] (psh 38 v.1 []) v.2 :=
  Eq.trans (e_aload_n D58_20 rfl rfl) <| Eq.trans (e_getP (p := (7, 0)) D58_21 rfl o_58 f_8_12 (sh_8 _) (by decide) (pp_8_0 _)) <| e_callV D58_24 rfl o_58 m_8_107 (by decide) rfl rfl
theorem b58_27 {d : Nat} {x1 : Int} {I L : Nat → Nat → Nat → Int} {t : Nat → Nat} : Res d 58 27 [vr 8 0, vi x1] [] (mk I L t) = some (vi 1, (mk I L t)) :=
  Eq.trans (e_iconst (x := 1) D58_27 rfl rfl) <| e_iret D58_28 rfl
/-! Texts_readNumber -/
theorem cc_59 : cod 59 = cX8_readNumber := rfl
theorem D59_0 : decode (cod 59) 0 = .ok (.aload_n 0, 1) := by rw [cc_59]; decide +kernel
theorem D59_1 : decode (cod 59) 1 = .ok (.getfield 12, 3) := by rw [cc_59]; decide +kernel
theorem D59_4 : decode (cod 59) 4 = .ok (.getfield 93, 3) := by rw [cc_59]; decide +kernel
theorem D59_7 : decode (cod 59) 7 = .ok (.bipush 23, 2) := by rw [cc_59]; decide +kernel
theorem D59_9 : decode (cod 59) 9 = .ok (.if_icmp .eq 12, 3) := by rw [cc_59]; decide +kernel
theorem D59_12 : decode (cod 59) 12 = .ok (.aload_n 0, 1) := by rw [cc_59]; decide +kernel
theorem D59_13 : decode (cod 59) 13 = .ok (.getfield 12, 3) := by rw [cc_59]; decide +kernel
theorem D59_16 : decode (cod 59) 16 = .ok (.iconst 1, 1) := by rw [cc_59]; decide +kernel
theorem D59_17 : decode (cod 59) 17 = .ok (.invokevirtual 96, 3) := by rw [cc_59]; decide +kernel
theorem D59_20 : decode (cod 59) 20 = .ok (.ireturn, 1) := by rw [cc_59]; decide +kernel
theorem D59_21 : decode (cod 59) 21 = .ok (.aload_n 0, 1) := by rw [cc_59]; decide +kernel
theorem D59_22 : decode (cod 59) 22 = .ok (.getfield 12, 3) := by rw [cc_59]; decide +kernel
theorem D59_25 : decode (cod 59) 25 = .ok (.getfield 132, 3) := by rw [cc_59]; decide +kernel
theorem D59_28 : decode (cod 59) 28 = .ok (.iload_n 1, 1) := by rw [cc_59]; decide +kernel
theorem D59_29 : decode (cod 59) 29 = .ok (.if_icmp .le 12, 3) := by rw [cc_59]; decide +kernel
theorem D59_32 : decode (cod 59) 32 = .ok (.aload_n 0, 1) := by rw [cc_59]; decide +kernel
theorem D59_33 : decode (cod 59) 33 = .ok (.getfield 12, 3) := by rw [cc_59]; decide +kernel
theorem D59_36 : decode (cod 59) 36 = .ok (.iconst 2, 1) := by rw [cc_59]; decide +kernel
theorem D59_37 : decode (cod 59) 37 = .ok (.invokevirtual 96, 3) := by rw [cc_59]; decide +kernel
theorem D59_40 : decode (cod 59) 40 = .ok (.ireturn, 1) := by rw [cc_59]; decide +kernel
theorem D59_41 : decode (cod 59) 41 = .ok (.aload_n 0, 1) := by rw [cc_59]; decide +kernel
theorem D59_42 : decode (cod 59) 42 = .ok (.getfield 12, 3) := by rw [cc_59]; decide +kernel
theorem D59_45 : decode (cod 59) 45 = .ok (.invokevirtual 107, 3) := by rw [cc_59]; decide +kernel
theorem D59_48 : decode (cod 59) 48 = .ok (.iconst 1, 1) := by rw [cc_59]; decide +kernel
theorem D59_49 : decode (cod 59) 49 = .ok (.ireturn, 1) := by rw [cc_59]; decide +kernel
theorem b59_0 {d : Nat} {x1 : Int} {I L : Nat → Nat → Nat → Int} {t : Nat → Nat} : Res d 59 0 [vr 8 0, vi x1] [] (mk I L t) = if I 7 0 8 = 23 then Res d 59 21 [vr 8 0, vi x1] [] (mk I L t) else Res d 59 12 [vr 8 0, vi x1] [] (mk I L t) :=
  Eq.trans (e_aload_n D59_0 rfl rfl) <| Eq.trans (e_getP (p := (7, 0)) D59_1 rfl o_59 f_8_12 (sh_8 _) (by decide) (pp_8_0 _)) <| Eq.trans (e_getI D59_4 rfl o_59 f_8_93 (sh_7 _) (by decide)) <| Eq.trans (e_bipush (x := 23) D59_7 rfl rfl) <| e_iceq D59_9 rfl rfl
theorem b59_12 {d : Nat} {x1 : Int} {I L : Nat → Nat → Nat → Int} {t : Nat → Nat} : Res (d + 1) 59 12 [vr 8 0, vi x1] [] (mk I L t) = (Cal d 37 [vr 7 0, vi 1] (mk I L t)).bind fun v => Res (d + 1) 59 20 [vr 8 0, vi x1] (psh 37 v.1 []) v.2 :=
  Eq.trans (e_aload_n D59_12 rfl rfl) <| Eq.trans (e_getP (p := (7, 0)) D59_13 rfl o_59 f_8_12 (sh_8 _) (by decide) (pp_8_0 _)) <| Eq.trans (e_iconst (x := 1) D59_16 rfl rfl) <| e_callV D59_17 rfl o_59 m_8_96 (by decide) rfl rfl
theorem b59_20 {d : Nat} {x1 xs0 : Int} {I L : Nat → Nat → Nat → Int} {t : Nat → Nat} (g1 : xs0 = 0 ∨ xs0 = 1) : Res d 59 20 [vr 8 0, vi x1] [vi xs0] (mk I L t) = some (vi xs0, (mk I L t)) :=
  e_iret D59_20 (nrz rfl g1)
theorem b59_21 {d : Nat} {x1 : Int} {I L : Nat → Nat → Nat → Int} {t : Nat → Nat} : Res d 59 21 [vr 8 0, vi x1] [] (mk I L t) = if I 7 0 10 ≤ x1 then Res d 59 41 [vr 8 0, vi x1] [] (mk I L t) else Res d 59 32 [vr 8 0, vi x1] [] (mk I L t) :=
  Eq.trans (e_aload_n D59_21 rfl rfl) <| Eq.trans (e_getP (p := (7, 0)) D59_22 rfl o_59 f_8_12 (sh_8 _) (by decide) (pp_8_0 _)) <| Eq.trans (e_getI D59_25 rfl o_59 f_8_132 (sh_7 _) (by decide)) <| Eq.trans (e_iload_n D59_28 rfl rfl) <| e_icle D59_29 rfl rfl
theorem b59_32 {d : Nat} {x1 : Int} {I L : Nat → Nat → Nat → Int} {t : Nat → Nat} : Res (d + 1) 59 32 [vr 8 0, vi x1] [] (mk I L t) = (Cal d 37 [vr 7 0, vi 2] (mk I L t)).bind fun v => Res (d + 1) 59 40 [vr 8 0, vi x1] (psh 37 v.1 []) v.2 :=
  Eq.trans (e_aload_n D59_32 rfl rfl) <| Eq.trans (e_getP (p := (7, 0)) D59_33 rfl o_59 f_8_12 (sh_8 _) (by decide) (pp_8_0 _)) <| Eq.trans (e_iconst (x := 2) D59_36 rfl rfl) <| e_callV D59_37 rfl o_59 m_8_96 (by decide) rfl rfl
theorem b59_40 {d : Nat} {x1 xs0 : Int} {I L : Nat → Nat → Nat → Int} {t : Nat → Nat} (g1 : xs0 = 0 ∨ xs0 = 1) : Res d 59 40 [vr 8 0, vi x1] [vi xs0] (mk I L t) = some (vi xs0, (mk I L t)) :=
  e_iret D59_40 (nrz rfl g1)
theorem b59_41 {d : Nat} {x1 : Int} {I L : Nat → Nat → Nat → Int} {t : Nat → Nat} : Res (d + 1) 59 41 [vr 8 0, vi x1] [] (mk I L t) = (Cal d 38 [vr 7 0] (mk I L t)).bind fun v => Res (d + 1) 59 48 [vr 8 0, vi x1] (psh 38 v.1 []) v.2 :=
  Eq.trans (e_aload_n D59_41 rfl rfl) <| Eq.trans (e_getP (p := (7, 0)) D59_42 rfl o_59 f_8_12 (sh_8 _) (by decide) (pp_8_0 _)) <| e_callV D59_45 rfl o_59 m_8_107 (by decide) rfl rfl
theorem b59_48 {d : Nat} {x1 : Int} {I L : Nat → Nat → Nat → Int} {t : Nat → Nat} : Res d 59 48 [vr 8 0, vi x1] [] (mk I L t) = some (vi 1, (mk I L t)) :=
  Eq.trans (e_iconst (x := 1) D59_48 rfl rfl) <| e_iret D59_49 rfl
/-! Texts_readSaid -/
theorem cc_60 : cod 60 = cX8_readSaid := rfl
theorem D60_0 : decode (cod 60) 0 = .ok (.aload_n 0, 1) := by rw [cc_60]; decide +kernel
theorem D60_1 : decode (cod 60) 1 = .ok (.getfield 47, 3) := by rw [cc_60]; decide +kernel
theorem D60_4 : decode (cod 60) 4 = .ok (.iconst 0, 1) := by rw [cc_60]; decide +kernel
theorem D60_5 : decode (cod 60) 5 = .ok (.putfield 88, 3) := by rw [cc_60]; decide +kernel
theorem D60_8 : decode (cod 60) 8 = .ok (.iconst 0, 1) := by rw [cc_60]; decide +kernel
theorem D60_9 : decode (cod 60) 9 = .ok (.istore_n 1, 1) := by rw [cc_60]; decide +kernel
theorem D60_10 : decode (cod 60) 10 = .ok (.iload_n 1, 1) := by rw [cc_60]; decide +kernel
theorem D60_11 : decode (cod 60) 11 = .ok (.sipush 400, 3) := by rw [cc_60]; decide +kernel
theorem D60_14 : decode (cod 60) 14 = .ok (.if_icmp .gt 110, 3) := by rw [cc_60]; decide +kernel
theorem D60_17 : decode (cod 60) 17 = .ok (.aload_n 0, 1) := by rw [cc_60]; decide +kernel
theorem D60_18 : decode (cod 60) 18 = .ok (.getfield 12, 3) := by rw [cc_60]; decide +kernel
theorem D60_21 : decode (cod 60) 21 = .ok (.getfield 93, 3) := by rw [cc_60]; decide +kernel
theorem D60_24 : decode (cod 60) 24 = .ok (.bipush 24, 2) := by rw [cc_60]; decide +kernel
theorem D60_26 : decode (cod 60) 26 = .ok (.if_icmp .ne 5, 3) := by rw [cc_60]; decide +kernel
theorem D60_29 : decode (cod 60) 29 = .ok (.iconst 1, 1) := by rw [cc_60]; decide +kernel
theorem D60_30 : decode (cod 60) 30 = .ok (.ireturn, 1) := by rw [cc_60]; decide +kernel
theorem D60_31 : decode (cod 60) 31 = .ok (.aload_n 0, 1) := by rw [cc_60]; decide +kernel
theorem D60_32 : decode (cod 60) 32 = .ok (.getfield 12, 3) := by rw [cc_60]; decide +kernel
theorem D60_35 : decode (cod 60) 35 = .ok (.getfield 93, 3) := by rw [cc_60]; decide +kernel
theorem D60_38 : decode (cod 60) 38 = .ok (.bipush 18, 2) := by rw [cc_60]; decide +kernel
theorem D60_40 : decode (cod 60) 40 = .ok (.if_icmp .eq 12, 3) := by rw [cc_60]; decide +kernel
theorem D60_43 : decode (cod 60) 43 = .ok (.aload_n 0, 1) := by rw [cc_60]; decide +kernel
theorem D60_44 : decode (cod 60) 44 = .ok (.getfield 12, 3) := by rw [cc_60]; decide +kernel
theorem D60_47 : decode (cod 60) 47 = .ok (.iconst 1, 1) := by rw [cc_60]; decide +kernel
theorem D60_48 : decode (cod 60) 48 = .ok (.invokevirtual 96, 3) := by rw [cc_60]; decide +kernel
theorem D60_51 : decode (cod 60) 51 = .ok (.ireturn, 1) := by rw [cc_60]; decide +kernel
theorem D60_52 : decode (cod 60) 52 = .ok (.aload_n 0, 1) := by rw [cc_60]; decide +kernel
theorem D60_53 : decode (cod 60) 53 = .ok (.getfield 47, 3) := by rw [cc_60]; decide +kernel
theorem D60_56 : decode (cod 60) 56 = .ok (.getfield 88, 3) := by rw [cc_60]; decide +kernel
theorem D60_59 : decode (cod 60) 59 = .ok (.bipush 12, 2) := by rw [cc_60]; decide +kernel
theorem D60_61 : decode (cod 60) 61 = .ok (.if_icmp .lt 12, 3) := by rw [cc_60]; decide +kernel
theorem D60_64 : decode (cod 60) 64 = .ok (.aload_n 0, 1) := by rw [cc_60]; decide +kernel
theorem D60_65 : decode (cod 60) 65 = .ok (.getfield 12, 3) := by rw [cc_60]; decide +kernel
theorem D60_68 : decode (cod 60) 68 = .ok (.iconst 3, 1) := by rw [cc_60]; decide +kernel
theorem D60_69 : decode (cod 60) 69 = .ok (.invokevirtual 96, 3) := by rw [cc_60]; decide +kernel
theorem D60_72 : decode (cod 60) 72 = .ok (.ireturn, 1) := by rw [cc_60]; decide +kernel
theorem D60_73 : decode (cod 60) 73 = .ok (.aload_n 0, 1) := by rw [cc_60]; decide +kernel
theorem D60_74 : decode (cod 60) 74 = .ok (.getfield 12, 3) := by rw [cc_60]; decide +kernel
theorem D60_77 : decode (cod 60) 77 = .ok (.invokevirtual 107, 3) := by rw [cc_60]; decide +kernel
theorem D60_80 : decode (cod 60) 80 = .ok (.aload_n 0, 1) := by rw [cc_60]; decide +kernel
theorem D60_81 : decode (cod 60) 81 = .ok (.aload_n 0, 1) := by rw [cc_60]; decide +kernel
theorem D60_82 : decode (cod 60) 82 = .ok (.getfield 47, 3) := by rw [cc_60]; decide +kernel
theorem D60_85 : decode (cod 60) 85 = .ok (.getfield 88, 3) := by rw [cc_60]; decide +kernel
theorem D60_88 : decode (cod 60) 88 = .ok (.invokevirtual 135, 3) := by rw [cc_60]; decide +kernel
theorem D60_91 : decode (cod 60) 91 = .ok (.ifCond .eq 12, 3) := by rw [cc_60]; decide +kernel
theorem D60_94 : decode (cod 60) 94 = .ok (.aload_n 0, 1) := by rw [cc_60]; decide +kernel
theorem D60_95 : decode (cod 60) 95 = .ok (.bipush 59, 2) := by rw [cc_60]; decide +kernel
theorem D60_97 : decode (cod 60) 97 = .ok (.invokevirtual 113, 3) := by rw [cc_60]; decide +kernel
theorem D60_100 : decode (cod 60) 100 = .ok (.ifCond .ne 5, 3) := by rw [cc_60]; decide +kernel
theorem D60_103 : decode (cod 60) 103 = .ok (.iconst 0, 1) := by rw [cc_60]; decide +kernel
theorem D60_104 : decode (cod 60) 104 = .ok (.ireturn, 1) := by rw [cc_60]; decide +kernel
theorem D60_105 : decode (cod 60) 105 = .ok (.aload_n 0, 1) := by rw [cc_60]; decide +kernel
theorem D60_106 : decode (cod 60) 106 = .ok (.getfield 47, 3) := by rw [cc_60]; decide +kernel
theorem D60_109 : decode (cod 60) 109 = .ok (.dup, 1) := by rw [cc_60]; decide +kernel
theorem D60_110 : decode (cod 60) 110 = .ok (.getfield 88, 3) := by rw [cc_60]; decide +kernel
theorem D60_113 : decode (cod 60) 113 = .ok (.iconst 1, 1) := by rw [cc_60]; decide +kernel
theorem D60_114 : decode (cod 60) 114 = .ok (.iadd, 1) := by rw [cc_60]; decide +kernel
theorem D60_115 : decode (cod 60) 115 = .ok (.putfield 88, 3) := by rw [cc_60]; decide +kernel
theorem D60_118 : decode (cod 60) 118 = .ok (.iinc 1 1, 3) := by rw [cc_60]; decide +kernel
theorem D60_121 : decode (cod 60) 121 = .ok (.goto (-111), 3) := by rw [cc_60]; decide +kernel
theorem D60_124 : decode (cod 60) 124 = .ok (.aload_n 0, 1) := by rw [cc_60]; decide +kernel
theorem D60_125 : decode (cod 60) 125 = .ok (.getfield 12, 3) := by rw [cc_60]; decide +kernel
theorem D60_128 : decode (cod 60) 128 = .ok (.iconst 1, 1) := by rw [cc_60]; decide +kernel
theorem D60_129 : decode (cod 60) 129 = .ok (.invokevirtual 96, 3) := by rw [cc_60]; decide +kernel
theorem D60_132 : decode (cod 60) 132 = .ok (.ireturn, 1) := by rw [cc_60]; decide +kernel
theorem b60_0 {d : Nat}  {I L : Nat → Nat → Nat → Int} {t : Nat → Nat} : Res d 60 0 [vr 8 0, vx] [] (mk I L t) = Res d 60 10 [vr 8 0, vi 0] [] (mk (up3 I 5 (t 11) 3 0) L t) :=
  Eq.trans (e_aload_n D60_0 rfl rfl) <| Eq.trans (e_getP (p := (5, t 11)) D60_1 rfl o_60 f_8_47 (sh_8 _) (by decide) (pp_8_6 _)) <| Eq.trans (e_iconst (x := 0) D60_4 rfl rfl) <| Eq.trans (e_putI D60_5 rfl o_60 f_8_88 (sh_5 _) rfl (by decide) (Or.inl (by decide))) <| Eq.trans (e_iconst (x := 0) D60_8 rfl rfl) <| e_istore_n (ls1 := [vr 8 0, vi 0]) D60_9 rfl (show 1 < 2 by decide) rfl
theorem b60_10 {d : Nat} {x1 : Int} {I L : Nat → Nat → Nat → Int} {t : Nat → Nat} : Res d 60 10 [vr 8 0, vi x1] [] (mk I L t) = if 400 < x1 then Res d 60 124 [vr 8 0, vi x1] [] (mk I L t) else Res d 60 17 [vr 8 0, vi x1] [] (mk I L t) :=
  Eq.trans (e_iload_n D60_10 rfl rfl) <| Eq.trans (e_sipush (x := 400) D60_11 rfl rfl) <| e_icgt D60_14 rfl rfl
theorem b60_17 {d : Nat} {x1 : Int} {I L : Nat → Nat → Nat → Int} {t : Nat → Nat} : Res d 60 17 [vr 8 0, vi x1] [] (mk I L t) = if ¬ I 7 0 8 = 24 then Res d 60 31 [vr 8 0, vi x1] [] (mk I L t) else Res d 60 29 [vr 8 0, vi x1] [] (mk I L t) :=
  Eq.trans (e_aload_n D60_17 rfl rfl) <| Eq.trans (e_getP (p := (7, 0)) D60_18 rfl o_60 f_8_12 (sh_8 _) (by decide) (pp_8_0 _)) <| Eq.trans (e_getI D60_21 rfl o_60 f_8_93 (sh_7 _) (by decide)) <| Eq.trans (e_bipush (x := 24) D60_24 rfl rfl) <| e_icne D60_26 rfl rfl
theorem b60_29 {d : Nat} {x1 : Int} {I L : Nat → Nat → Nat → Int} {t : Nat → Nat} : Res d 60 29 [vr 8 0, vi x1] [] (mk I L t) = some (vi 1, (mk I L t)) :=
  Eq.trans (e_iconst (x := 1) D60_29 rfl rfl) <| e_iret D60_30 rfl
theorem b60_31 {d : Nat} {x1 : Int} {I L : Nat → Nat → Nat → Int} {t : Nat → Nat} : Res d 60 31 [vr 8 0, vi x1] [] (mk I L t) = if I 7 0 8 = 18 then Res d 60 52 [vr 8 0, vi x1] [] (mk I L t) else Res d 60 43 [vr 8 0, vi x1] [] (mk I L t) :=
  Eq.trans (e_aload_n D60_31 rfl rfl) <| Eq.trans (e_getP (p := (7, 0)) D60_32 rfl o_60 f_8_12 (sh_8 _) (by decide) (pp_8_0 _)) <| Eq.trans (e_getI D60_35 rfl o_60 f_8_93 (sh_7 _) (by decide)) <| Eq.trans (e_bipush (x := 18) D60_38 rfl rfl) <| e_iceq D60_40 rfl rfl
theorem b60_43 {d : Nat} {x1 : Int} {I L : Nat → Nat → Nat → Int} {t : Nat → Nat} : Res (d + 1) 60 43 [vr 8 0, vi x1] [] (mk I L t) = (Cal d 37 [vr 7 0, vi 1] (mk I L t)).bind fun v => Res (d + 1) 60 51 [vr 8 0, vi x1] (psh 37 v.1 []) v.2 :=
  Eq.trans (e_aload_n D60_43 rfl rfl) <| Eq.trans (e_getP (p := (7, 0)) D60_44 rfl o_60 f_8_12 (sh_8 _) (by decide) (pp_8_0 _)) <| Eq.trans (e_iconst (x := 1) D60_47 rfl rfl) <| e_callV D60_48 rfl o_60 m_8_96 (by decide) rfl rfl
theorem b60_51 {d : Nat} {x1 xs0 : Int} {I L : Nat → Nat → Nat → Int} {t : Nat → Nat} (g1 : xs0 = 0 ∨ xs0 = 1) : Res d 60 51 [vr 8 0, vi x1] [vi xs0] (mk I L t) = some (vi xs0, (mk I L t)) :=
  e_iret D60_51 (nrz rfl g1)
theorem b60_52 {d : Nat} {x1 : Int} {I L : Nat → Nat → Nat → Int} {t : Nat → Nat} : Res d 60 52 [vr 8 0, vi x1] [] (mk I L t) = if I 5 (t 11) 3 < 12 then Res d 60 73 [vr 8 0, vi x1] [] (mk I L t) else Res d 60 64 [vr 8 0, vi x1] [] (mk I L t) :=
  Eq.trans (e_aload_n D60_52 rfl rfl) <| Eq.trans (e_getP (p := (5, t 11)) D60_53 rfl o_60 f_8_47 (sh_8 _) (by decide) (pp_8_6 _)) <| Eq.trans (e_getI D60_56 rfl o_60 f_8_88 (sh_5 _) (by decide)) <| Eq.trans (e_bipush (x := 12) D60_59 rfl rfl) <| e_iclt D60_61 rfl rfl
theorem b60_64 {d : Nat} {x1 : Int} {I L : Nat → Nat → Nat → Int} {t : Nat → Nat} : Res (d + 1) 60 64 [vr 8 0, vi x1] [] (mk I L t) = (Cal d 37 [vr 7 0, vi 3] (mk I L t)).bind fun v => Res (d + 1) 60 72 [vr 8 0, vi x1] (psh 37 v.1 []) v.2 :=
  Eq.trans (e_aload_n D60_64 rfl rfl) <| Eq.trans (e_getP (p := (7, 0)) D60_65 rfl o_60 f_8_12 (sh_8 _) (by decide) (pp_8_0 _)) <| Eq.trans (e_iconst (x := 3) D60_68 rfl rfl) <| e_callV D60_69 rfl o_60 m_8_96 (by decide) rfl rfl
theorem b60_72 {d : Nat} {x1 xs0 : Int} {I L : Nat → Nat → Nat → Int} {t : Nat → Nat} (g1 : xs0 = 0 ∨ xs0 = 1) : Res d 60 72 [vr 8 0, vi x1] [vi xs0] (mk I L t) = some (vi xs0, (mk I L t)) :=
  e_iret D60_72 (nrz rfl g1)
theorem b60_73 {d : Nat} {x1 : Int} {I L : Nat → Nat → Nat → Int} {t : Nat → Nat} : Res (d + 1) 60 73 [vr 8 0, vi x1] [] (mk I L t) = (Cal d 38 [vr 7 0] (mk I L t)).bind fun v => Res (d + 1) 60 80 [vr 8 0, vi x1] (psh 38 v.1 []) v.2 :=
  Eq.trans (e_aload_n D60_73 rfl rfl) <| Eq.trans (e_getP (p := (7, 0)) D60_74 rfl o_60 f_8_12 (sh_8 _) (by decide) (pp_8_0 _)) <| e_callV D60_77 rfl o_60 m_8_107 (by decide) rfl rfl
theorem b60_80 {d : Nat} {x1 : Int} {I L : Nat → Nat → Nat → Int} {t : Nat → Nat} : Res (d + 1) 60 80 [vr 8 0, vi x1] [] (mk I L t) = (Cal d 61 [vr 8 0, vi (I 5 (t 11) 3)] (mk I L t)).bind fun v => Res (d + 1) 60 91 [vr 8 0, vi x1] (psh 61 v.1 []) v.2 :=
  Eq.trans (e_aload_n D60_80 rfl rfl) <| Eq.trans (e_aload_n D60_81 rfl rfl) <| Eq.trans (e_getP (p := (5, t 11)) D60_82 rfl o_60 f_8_47 (sh_8 _) (by decide) (pp_8_6 _)) <| Eq.trans (e_getI D60_85 rfl o_60 f_8_88 (sh_5 _) (by decide)) <| e_callV D60_88 rfl o_60 m_8_135 (by decide) rfl rfl
theorem b60_91 {d : Nat} {x1 xs0 : Int} {I L : Nat → Nat → Nat → Int} {t : Nat → Nat} : Res d 60 91 [vr 8 0, vi x1] [vi xs0] (mk I L t) = if xs0 = 0 then Res d 60 103 [vr 8 0, vi x1] [] (mk I L t) else Res d 60 94 [vr 8 0, vi x1] [] (mk I L t) :=
  e_ifeq D60_91 rfl rfl
theorem b60_94 {d : Nat} {x1 : Int} {I L : Nat → Nat → Nat → Int} {t : Nat → Nat} : Res (d + 1) 60 94 [vr 8 0, vi x1] [] (mk I L t) = (Cal d 58 [vr 8 0, vi 59] (mk I L t)).bind fun v => Res (d + 1) 60 100 [vr 8 0, vi x1] (psh 58 v.1 []) v.2 :=
  Eq.trans (e_aload_n D60_94 rfl rfl) <| Eq.trans (e_bipush (x := 59) D60_95 rfl rfl) <| e_callV D60_97 rfl o_60 m_8_113 (by decide) rfl rfl
theorem b60_100 {d : Nat} {x1 xs0 : Int} {I L : Nat → Nat → Nat → Int} {t : Nat → Nat} : Res d 60 100 [vr 8 0, vi x1] [vi xs0] (mk I L t) = if ¬ xs0 = 0 then Res d 60 105 [vr 8 0, vi x1] [] (mk I L t) else Res d 60 103 [vr 8 0, vi x1] [] (mk I L t) :=
  e_ifne D60_100 rfl rfl
theorem b60_103 {d : Nat} {x1 : Int} {I L : Nat → Nat → Nat → Int} {t : Nat → Nat} : Res d 60 103 [vr 8 0, vi x1] [] (mk I L t) = some (vi 0, (mk I L t)) :=
  Eq.trans (e_iconst (x := 0) D60_103 rfl rfl) <| e_iret D60_104 rfl
theorem b60_105 {d : Nat} {x1 : Int} {I L : Nat → Nat → Nat → Int} {t : Nat → Nat} : Res d 60 105 [vr 8 0, vi x1] [] (mk I L t) = Res d 60 10 [vr 8 0, vi (w32 (x1 + 1))] [] (mk (up3 I 5 (t 11) 3 (w32 ((I 5 (t 11) 3) + 1))) L t) :=
  Eq.trans (e_aload_n D60_105 rfl rfl) <| Eq.trans (e_getP (p := (5, t 11)) D60_106 rfl o_60 f_8_47 (sh_8 _) (by decide) (pp_8_6 _)) <| Eq.trans (e_dup D60_109 rfl) <| Eq.trans (e_getI D60_110 rfl o_60 f_8_88 (sh_5 _) (by decide)) <| Eq.trans (e_iconst (x := 1) D60_113 rfl rfl) <| Eq.trans (e_iadd D60_114 rfl) <| Eq.trans (e_putI D60_115 rfl o_60 f_8_88 (sh_5 _) rfl (by decide) (Or.inl (by decide))) <| Eq.trans (e_iinc (ls1 := [vr 8 0, vi (w32 (x1 + 1))]) D60_118 rfl rfl rfl) <| e_goto (q1 := 10) D60_121 rfl
theorem b60_124 {d : Nat} {x1 : Int} {I L : Nat → Nat → Nat → Int} {t : Nat → Nat} : Res (d + 1) 60 124 [vr 8 0, vi x1] [] (mk I L t) = (Cal d 37 [vr 7 0, vi 1] (mk I L t)).bind fun v => Res (d + 1) 60 132 [vr 8 0, vi x1] (psh 37 v.1 []) v.2 :=
  Eq.trans (e_aload_n D60_124 rfl rfl) <| Eq.trans (e_getP (p := (7, 0)) D60_125 rfl o_60 f_8_12 (sh_8 _) (by decide) (pp_8_0 _)) <| Eq.trans (e_iconst (x := 1) D60_128 rfl rfl) <| e_callV D60_129 rfl o_60 m_8_96 (by decide) rfl rfl
theorem b60_132 {d : Nat} {x1 xs0 : Int} {I L : Nat → Nat → Nat → Int} {t : Nat → Nat} (g1 : xs0 = 0 ∨ xs0 = 1) : Res d 60 132 [vr 8 0, vi x1] [vi xs0] (mk I L t) = some (vi xs0, (mk I L t)) :=
  e_iret D60_132 (nrz rfl g1)
/-! Texts_readSaidLine -/
theorem cc_61 : cod 61 = cX8_readSaidLine := rfl
theorem D61_0 : decode (cod 61) 0 = .ok (.aload_n 0, 1) := by rw [cc_61]; decide +kernel
theorem D61_1 : decode (cod 61) 1 = .ok (.getfield 12, 3) := by rw [cc_61]; decide +kernel
theorem D61_4 : decode (cod 61) 4 = .ok (.getfield 132, 3) := by rw [cc_61]; decide +kernel
theorem D61_7 : decode (cod 61) 7 = .ok (.istore_n 2, 1) := by rw [cc_61]; decide +kernel
theorem D61_8 : decode (cod 61) 8 = .ok (.aload_n 0, 1) := by rw [cc_61]; decide +kernel
theorem D61_9 : decode (cod 61) 9 = .ok (.bipush 15, 2) := by rw [cc_61]; decide +kernel
theorem D61_11 : decode (cod 61) 11 = .ok (.invokevirtual 138, 3) := by rw [cc_61]; decide +kernel
theorem D61_14 : decode (cod 61) 14 = .ok (.ifCond .ne 5, 3) := by rw [cc_61]; decide +kernel
theorem D61_17 : decode (cod 61) 17 = .ok (.iconst 0, 1) := by rw [cc_61]; decide +kernel
theorem D61_18 : decode (cod 61) 18 = .ok (.ireturn, 1) := by rw [cc_61]; decide +kernel
theorem D61_19 : decode (cod 61) 19 = .ok (.aload_n 0, 1) := by rw [cc_61]; decide +kernel
theorem D61_20 : decode (cod 61) 20 = .ok (.getfield 12, 3) := by rw [cc_61]; decide +kernel
theorem D61_23 : decode (cod 61) 23 = .ok (.getfield 93, 3) := by rw [cc_61]; decide +kernel
theorem D61_26 : decode (cod 61) 26 = .ok (.istore_n 3, 1) := by rw [cc_61]; decide +kernel
theorem D61_27 : decode (cod 61) 27 = .ok (.iload_n 3, 1) := by rw [cc_61]; decide +kernel
theorem D61_28 : decode (cod 61) 28 = .ok (.bipush 60, 2) := by rw [cc_61]; decide +kernel
theorem D61_30 : decode (cod 61) 30 = .ok (.if_icmp .eq 24, 3) := by rw [cc_61]; decide +kernel
theorem D61_33 : decode (cod 61) 33 = .ok (.iload_n 3, 1) := by rw [cc_61]; decide +kernel
theorem D61_34 : decode (cod 61) 34 = .ok (.bipush 61, 2) := by rw [cc_61]; decide +kernel
theorem D61_36 : decode (cod 61) 36 = .ok (.if_icmp .eq 18, 3) := by rw [cc_61]; decide +kernel
theorem D61_39 : decode (cod 61) 39 = .ok (.iload_n 3, 1) := by rw [cc_61]; decide +kernel
theorem D61_40 : decode (cod 61) 40 = .ok (.bipush 62, 2) := by rw [cc_61]; decide +kernel
theorem D61_42 : decode (cod 61) 42 = .ok (.if_icmp .eq 12, 3) := by rw [cc_61]; decide +kernel
theorem D61_45 : decode (cod 61) 45 = .ok (.aload_n 0, 1) := by rw [cc_61]; decide +kernel
theorem D61_46 : decode (cod 61) 46 = .ok (.getfield 12, 3) := by rw [cc_61]; decide +kernel
theorem D61_49 : decode (cod 61) 49 = .ok (.iconst 1, 1) := by rw [cc_61]; decide +kernel
theorem D61_50 : decode (cod 61) 50 = .ok (.invokevirtual 96, 3) := by rw [cc_61]; decide +kernel
theorem D61_53 : decode (cod 61) 53 = .ok (.ireturn, 1) := by rw [cc_61]; decide +kernel
theorem D61_54 : decode (cod 61) 54 = .ok (.aload_n 0, 1) := by rw [cc_61]; decide +kernel
theorem D61_55 : decode (cod 61) 55 = .ok (.getfield 12, 3) := by rw [cc_61]; decide +kernel
theorem D61_58 : decode (cod 61) 58 = .ok (.invokevirtual 107, 3) := by rw [cc_61]; decide +kernel
theorem D61_61 : decode (cod 61) 61 = .ok (.aload_n 0, 1) := by rw [cc_61]; decide +kernel
theorem D61_62 : decode (cod 61) 62 = .ok (.getfield 12, 3) := by rw [cc_61]; decide +kernel
theorem D61_65 : decode (cod 61) 65 = .ok (.getfield 132, 3) := by rw [cc_61]; decide +kernel
theorem D61_68 : decode (cod 61) 68 = .ok (.istore 4, 2) := by rw [cc_61]; decide +kernel
theorem D61_70 : decode (cod 61) 70 = .ok (.aload_n 0, 1) := by rw [cc_61]; decide +kernel
theorem D61_71 : decode (cod 61) 71 = .ok (.sipush 9999, 3) := by rw [cc_61]; decide +kernel
theorem D61_74 : decode (cod 61) 74 = .ok (.invokevirtual 138, 3) := by rw [cc_61]; decide +kernel
theorem D61_77 : decode (cod 61) 77 = .ok (.ifCond .ne 5, 3) := by rw [cc_61]; decide +kernel
theorem D61_80 : decode (cod 61) 80 = .ok (.iconst 0, 1) := by rw [cc_61]; decide +kernel
theorem D61_81 : decode (cod 61) 81 = .ok (.ireturn, 1) := by rw [cc_61]; decide +kernel
theorem D61_82 : decode (cod 61) 82 = .ok (.aload_n 0, 1) := by rw [cc_61]; decide +kernel
theorem D61_83 : decode (cod 61) 83 = .ok (.getfield 47, 3) := by rw [cc_61]; decide +kernel
theorem D61_86 : decode (cod 61) 86 = .ok (.iload_n 1, 1) := by rw [cc_61]; decide +kernel
theorem D61_87 : decode (cod 61) 87 = .ok (.iload_n 2, 1) := by rw [cc_61]; decide +kernel
theorem D61_88 : decode (cod 61) 88 = .ok (.iload_n 3, 1) := by rw [cc_61]; decide +kernel
theorem D61_89 : decode (cod 61) 89 = .ok (.iload 4, 2) := by rw [cc_61]; decide +kernel
theorem D61_91 : decode (cod 61) 91 = .ok (.invokevirtual 141, 3) := by rw [cc_61]; decide +kernel
theorem D61_94 : decode (cod 61) 94 = .ok (.iconst 1, 1) := by rw [cc_61]; decide +kernel
theorem D61_95 : decode (cod 61) 95 = .ok (.ireturn, 1) := by rw [cc_61]; decide +kernel
theorem b61_0 {d : Nat} {x1 : Int} {I L : Nat → Nat → Nat → Int} {t : Nat → Nat} : Res (d + 1) 61 0 [vr 8 0, vi x1, vx, vx, vx] [] (mk I L t) = (Cal d 59 [vr 8 0, vi 15] (mk I L t)).bind fun v => Res (d + 1) 61 14 [vr 8 0, vi x1, vi (I 7 0 10), vx, vx] (psh 59 v.1 []) v.2 :=
  Eq.trans (e_aload_n D61_0 rfl rfl) <| Eq.trans (e_getP (p := (7, 0)) D61_1 rfl o_61 f_8_12 (sh_8 _) (by decide) (pp_8_0 _)) <| Eq.trans (e_getI D61_4 rfl o_61 f_8_132 (sh_7 _) (by decide)) <| Eq.trans (e_istore_n (ls1 := [vr 8 0, vi x1, vi (I 7 0 10), vx, vx]) D61_7 rfl (show 2 < 5 by decide) rfl) <| Eq.trans (e_aload_n D61_8 rfl rfl) <| Eq.trans (e_bipush (x := 15) D61_9 rfl rfl) <| e_callV D61_11 rfl o_61 m_8_138 (by decide) rfl rfl
theorem b61_14 {d : Nat} {x1 x2 xs0 : Int} {I L : Nat → Nat → Nat → Int} {t : Nat → Nat} : Res d 61 14 [vr 8 0, vi x1, vi x2, vx, vx] [vi xs0] (mk I L t) = if ¬ xs0 = 0 then Res d 61 19 [vr 8 0, vi x1, vi x2, vx, vx] [] (mk I L t) else Res d 61 17 [vr 8 0, vi x1, vi x2, vx, vx] [] (mk I L t) :=
  e_ifne D61_14 rfl rfl
theorem b61_17 {d : Nat} {x1 x2 : Int} {I L : Nat → Nat → Nat → Int} {t : Nat → Nat} : Res d 61 17 [vr 8 0, vi x1, vi x2, vx, vx] [] (mk I L t) = some (vi 0, (mk I L t)) :=
  Eq.trans (e_iconst (x := 0) D61_17 rfl rfl) <| e_iret D61_18 rfl
theorem b61_19 {d : Nat} {x1 x2 : Int} {I L : Nat → Nat → Nat → Int} {t : Nat → Nat} : Res d 61 19 [vr 8 0, vi x1, vi x2, vx, vx] [] (mk I L t) = if I 7 0 8 = 60 then Res d 61 54 [vr 8 0, vi x1, vi x2, vi (I 7 0 8), vx] [] (mk I L t) else Res d 61 33 [vr 8 0, vi x1, vi x2, vi (I 7 0 8), vx] [] (mk I L t) :=
  Eq.trans (e_aload_n D61_19 rfl rfl) <| Eq.trans (e_getP (p := (7, 0)) D61_20 rfl o_61 f_8_12 (sh_8 _) (by decide) (pp_8_0 _)) <| Eq.trans (e_getI D61_23 rfl o_61 f_8_93 (sh_7 _) (by decide)) <| Eq.trans (e_istore_n (ls1 := [vr 8 0, vi x1, vi x2, vi (I 7 0 8), vx]) D61_26 rfl (show 3 < 5 by decide) rfl) <| Eq.trans (e_iload_n D61_27 rfl rfl) <| Eq.trans (e_bipush (x := 60) D61_28 rfl rfl) <| e_iceq D61_30 rfl rfl
theorem b61_33 {d : Nat} {x1 x2 x3 : Int} {I L : Nat → Nat → Nat → Int} {t : Nat → Nat} : Res d 61 33 [vr 8 0, vi x1, vi x2, vi x3, vx] [] (mk I L t) = if x3 = 61 then Res d 61 54 [vr 8 0, vi x1, vi x2, vi x3, vx] [] (mk I L t) else Res d 61 39 [vr 8 0, vi x1, vi x2, vi x3, vx] [] (mk I L t) :=
  Eq.trans (e_iload_n D61_33 rfl rfl) <| Eq.trans (e_bipush (x := 61) D61_34 rfl rfl) <| e_iceq D61_36 rfl rfl
theorem b61_39 {d : Nat} {x1 x2 x3 : Int} {I L : Nat → Nat → Nat → Int} {t : Nat → Nat} : Res d 61 39 [vr 8 0, vi x1, vi x2, vi x3, vx] [] (mk I L t) = if x3 = 62 then Res d 61 54 [vr 8 0, vi x1, vi x2, vi x3, vx] [] (mk I L t) else Res d 61 45 [vr 8 0, vi x1, vi x2, vi x3, vx] [] (mk I L t) :=
  Eq.trans (e_iload_n D61_39 rfl rfl) <| Eq.trans (e_bipush (x := 62) D61_40 rfl rfl) <| e_iceq D61_42 rfl rfl
theorem b61_45 {d : Nat} {x1 x2 x3 : Int} {I L : Nat → Nat → Nat → Int} {t : Nat → Nat} : Res (d + 1) 61 45 [vr 8 0, vi x1, vi x2, vi x3, vx] [] (mk I L t) = (Cal d 37 [vr 7 0, vi 1] (mk I L t)).bind fun v => Res (d + 1) 61 53 [vr 8 0, vi x1, vi x2, vi x3, vx] (psh 37 v.1 []) v.2 :=
  Eq.trans (e_aload_n D61_45 rfl rfl) <| Eq.trans (e_getP (p := (7, 0)) D61_46 rfl o_61 f_8_12 (sh_8 _) (by decide) (pp_8_0 _)) <| Eq.trans (e_iconst (x := 1) D61_49 rfl rfl) <| e_callV D61_50 rfl o_61 m_8_96 (by decide) rfl rfl
theorem b61_53 {d : Nat} {x1 x2 x3 xs0 : Int} {I L : Nat → Nat → Nat → Int} {t : Nat → Nat} (g1 : xs0 = 0 ∨ xs0 = 1) : Res d 61 53 [vr 8 0, vi x1, vi x2, vi x3, vx] [vi xs0] (mk I L t) = some (vi xs0, (mk I L t)) :=
  e_iret D61_53 (nrz rfl g1)
theorem b61_54 {d : Nat} {x1 x2 x3 : Int} {I L : Nat → Nat → Nat → Int} {t : Nat → Nat} : Res (d + 1) 61 54 [vr 8 0, vi x1, vi x2, vi x3, vx] [] (mk I L t) = (Cal d 38 [vr 7 0] (mk I L t)).bind fun v => Res (d + 1) 61 61 [vr 8 0, vi x1, vi x2, vi x3, vx] (psh 38 v.1 []) v.2 :=
  Eq.trans (e_aload_n D61_54 rfl rfl) <| Eq.trans (e_getP (p := (7, 0)) D61_55 rfl o_61 f_8_12 (sh_8 _) (by decide) (pp_8_0 _)) <| e_callV D61_58 rfl o_61 m_8_107 (by decide) rfl rfl
theorem b61_61 {d : Nat} {x1 x2 x3 : Int} {I L : Nat → Nat → Nat → Int} {t : Nat → Nat} : Res (d + 1) 61 61 [vr 8 0, vi x1, vi x2, vi x3, vx] [] (mk I L t) = (Cal d 59 [vr 8 0, vi 9999] (mk I L t)).bind fun v => Res (d + 1) 61 77 [vr 8 0, vi x1, vi x2, vi x3, vi (I 7 0 10)] (psh 59 v.1 []) v.2 :=
  Eq.trans (e_aload_n D61_61 rfl rfl) <| Eq.trans (e_getP (p := (7, 0)) D61_62 rfl o_61 f_8_12 (sh_8 _) (by decide) (pp_8_0 _)) <| Eq.trans (e_getI D61_65 rfl o_61 f_8_132 (sh_7 _) (by decide)) <| Eq.trans (e_istore (ls1 := [vr 8 0, vi x1, vi x2, vi x3, vi (I 7 0 10)]) D61_68 rfl (show 4 < 5 by decide) rfl) <| Eq.trans (e_aload_n D61_70 rfl rfl) <| Eq.trans (e_sipush (x := 9999) D61_71 rfl rfl) <| e_callV D61_74 rfl o_61 m_8_138 (by decide) rfl rfl
theorem b61_77 {d : Nat} {x1 x2 x3 x4 xs0 : Int} {I L : Nat → Nat → Nat → Int} {t : Nat → Nat} : Res d 61 77 [vr 8 0, vi x1, vi x2, vi x3, vi x4] [vi xs0] (mk I L t) = if ¬ xs0 = 0 then Res d 61 82 [vr 8 0, vi x1, vi x2, vi x3, vi x4] [] (mk I L t) else Res d 61 80 [vr 8 0, vi x1, vi x2, vi x3, vi x4] [] (mk I L t) :=
  e_ifne D61_77 rfl rfl
theorem b61_80 {d : Nat} {x1 x2 x3 x4 : Int} {I L : Nat → Nat → Nat → Int} {t : Nat → Nat} : Res d 61 80 [vr 8 0, vi x1, vi x2, vi x3, vi x4] [] (mk I L t) = some (vi 0, (mk I L t)) :=
  Eq.trans (e_iconst (x := 0) D61_80 rfl rfl) <| e_iret D61_81 rfl
theorem b61_82 {d : Nat} {x1 x2 x3 x4 : Int} {I L : Nat → Nat → Nat → Int} {t : Nat → Nat} : Res (d + 1) 61 82 [vr 8 0, vi x1, vi x2, vi x3, vi x4] [] (mk I L t) = (Cal d 30 [vr 5 (t 11), vi x1, vi x2, vi x3, vi x4] (mk I L t)).bind fun v => Res (d + 1) 61 94 [vr 8 0, vi x1, vi x2, vi x3, vi x4] (psh 30 v.1 []) v.2 :=
  Eq.trans (e_aload_n D61_82 rfl rfl) <| Eq.trans (e_getP (p := (5, t 11)) D61_83 rfl o_61 f_8_47 (sh_8 _) (by decide) (pp_8_6 _)) <| Eq.trans (e_iload_n D61_86 rfl rfl) <| Eq.trans (e_iload_n D61_87 rfl rfl) <| Eq.trans (e_iload_n D61_88 rfl rfl) <| Eq.trans (e_iload D61_89 rfl rfl) <| e_callV D61_91 rfl o_61 m_8_141 (by decide) rfl rfl
theorem b61_94 {d : Nat} {x1 x2 x3 x4 : Int} {I L : Nat → Nat → Nat → Int} {t : Nat → Nat} : Res d 61 94 [vr 8 0, vi x1, vi x2, vi x3, vi x4] [] (mk I L t) = some (vi 1, (mk I L t)) :=
  Eq.trans (e_iconst (x := 1) D61_94 rfl rfl) <| e_iret D61_95 rfl
/-! Texts_readWay -/
theorem cc_62 : cod 62 = cX8_readWay := rfl
theorem D62_0 : decode (cod 62) 0 = .ok (.aload_n 0, 1) := by rw [cc_62]; decide +kernel
theorem D62_1 : decode (cod 62) 1 = .ok (.getfield 43, 3) := by rw [cc_62]; decide +kernel
theorem D62_4 : decode (cod 62) 4 = .ok (.invokevirtual 145, 3) := by rw [cc_62]; decide +kernel
theorem D62_7 : decode (cod 62) 7 = .ok (.iconst 0, 1) := by rw [cc_62]; decide +kernel
theorem D62_8 : decode (cod 62) 8 = .ok (.istore_n 1, 1) := by rw [cc_62]; decide +kernel
theorem D62_9 : decode (cod 62) 9 = .ok (.iload_n 1, 1) := by rw [cc_62]; decide +kernel
theorem D62_10 : decode (cod 62) 10 = .ok (.sipush 400, 3) := by rw [cc_62]; decide +kernel
theorem D62_13 : decode (cod 62) 13 = .ok (.if_icmp .gt 104, 3) := by rw [cc_62]; decide +kernel
theorem D62_16 : decode (cod 62) 16 = .ok (.aload_n 0, 1) := by rw [cc_62]; decide +kernel
theorem D62_17 : decode (cod 62) 17 = .ok (.getfield 12, 3) := by rw [cc_62]; decide +kernel
theorem D62_20 : decode (cod 62) 20 = .ok (.getfield 93, 3) := by rw [cc_62]; decide +kernel
theorem D62_23 : decode (cod 62) 23 = .ok (.istore_n 2, 1) := by rw [cc_62]; decide +kernel
theorem D62_24 : decode (cod 62) 24 = .ok (.iload_n 2, 1) := by rw [cc_62]; decide +kernel
theorem D62_25 : decode (cod 62) 25 = .ok (.bipush 24, 2) := by rw [cc_62]; decide +kernel
theorem D62_27 : decode (cod 62) 27 = .ok (.if_icmp .ne 5, 3) := by rw [cc_62]; decide +kernel
theorem D62_30 : decode (cod 62) 30 = .ok (.iconst 1, 1) := by rw [cc_62]; decide +kernel
theorem D62_31 : decode (cod 62) 31 = .ok (.ireturn, 1) := by rw [cc_62]; decide +kernel
theorem D62_32 : decode (cod 62) 32 = .ok (.iload_n 2, 1) := by rw [cc_62]; decide +kernel
theorem D62_33 : decode (cod 62) 33 = .ok (.bipush 19, 2) := by rw [cc_62]; decide +kernel
theorem D62_35 : decode (cod 62) 35 = .ok (.bipush 22, 2) := by rw [cc_62]; decide +kernel
theorem D62_37 : decode (cod 62) 37 = .ok (.invokestatic 56, 3) := by rw [cc_62]; decide +kernel
theorem D62_40 : decode (cod 62) 40 = .ok (.ifCond .ne 12, 3) := by rw [cc_62]; decide +kernel
theorem D62_43 : decode (cod 62) 43 = .ok (.aload_n 0, 1) := by rw [cc_62]; decide +kernel
theorem D62_44 : decode (cod 62) 44 = .ok (.getfield 12, 3) := by rw [cc_62]; decide +kernel
theorem D62_47 : decode (cod 62) 47 = .ok (.iconst 1, 1) := by rw [cc_62]; decide +kernel
theorem D62_48 : decode (cod 62) 48 = .ok (.invokevirtual 96, 3) := by rw [cc_62]; decide +kernel
theorem D62_51 : decode (cod 62) 51 = .ok (.ireturn, 1) := by rw [cc_62]; decide +kernel
theorem D62_52 : decode (cod 62) 52 = .ok (.aload_n 0, 1) := by rw [cc_62]; decide +kernel
theorem D62_53 : decode (cod 62) 53 = .ok (.getfield 43, 3) := by rw [cc_62]; decide +kernel
theorem D62_56 : decode (cod 62) 56 = .ok (.iload_n 2, 1) := by rw [cc_62]; decide +kernel
theorem D62_57 : decode (cod 62) 57 = .ok (.invokevirtual 146, 3) := by rw [cc_62]; decide +kernel
theorem D62_60 : decode (cod 62) 60 = .ok (.ifCond .eq 12, 3) := by rw [cc_62]; decide +kernel
theorem D62_63 : decode (cod 62) 63 = .ok (.aload_n 0, 1) := by rw [cc_62]; decide +kernel
theorem D62_64 : decode (cod 62) 64 = .ok (.getfield 12, 3) := by rw [cc_62]; decide +kernel
theorem D62_67 : decode (cod 62) 67 = .ok (.iconst 2, 1) := by rw [cc_62]; decide +kernel
theorem D62_68 : decode (cod 62) 68 = .ok (.invokevirtual 96, 3) := by rw [cc_62]; decide +kernel
theorem D62_71 : decode (cod 62) 71 = .ok (.ireturn, 1) := by rw [cc_62]; decide +kernel
theorem D62_72 : decode (cod 62) 72 = .ok (.aload_n 0, 1) := by rw [cc_62]; decide +kernel
theorem D62_73 : decode (cod 62) 73 = .ok (.getfield 12, 3) := by rw [cc_62]; decide +kernel
theorem D62_76 : decode (cod 62) 76 = .ok (.invokevirtual 107, 3) := by rw [cc_62]; decide +kernel
theorem D62_79 : decode (cod 62) 79 = .ok (.aload_n 0, 1) := by rw [cc_62]; decide +kernel
theorem D62_80 : decode (cod 62) 80 = .ok (.iload_n 2, 1) := by rw [cc_62]; decide +kernel
theorem D62_81 : decode (cod 62) 81 = .ok (.invokevirtual 147, 3) := by rw [cc_62]; decide +kernel
theorem D62_84 : decode (cod 62) 84 = .ok (.ifCond .eq 12, 3) := by rw [cc_62]; decide +kernel
theorem D62_87 : decode (cod 62) 87 = .ok (.aload_n 0, 1) := by rw [cc_62]; decide +kernel
theorem D62_88 : decode (cod 62) 88 = .ok (.bipush 59, 2) := by rw [cc_62]; decide +kernel
theorem D62_90 : decode (cod 62) 90 = .ok (.invokevirtual 113, 3) := by rw [cc_62]; decide +kernel
theorem D62_93 : decode (cod 62) 93 = .ok (.ifCond .ne 5, 3) := by rw [cc_62]; decide +kernel
theorem D62_96 : decode (cod 62) 96 = .ok (.iconst 0, 1) := by rw [cc_62]; decide +kernel
theorem D62_97 : decode (cod 62) 97 = .ok (.ireturn, 1) := by rw [cc_62]; decide +kernel
theorem D62_98 : decode (cod 62) 98 = .ok (.aload_n 0, 1) := by rw [cc_62]; decide +kernel
theorem D62_99 : decode (cod 62) 99 = .ok (.getfield 43, 3) := by rw [cc_62]; decide +kernel
theorem D62_102 : decode (cod 62) 102 = .ok (.dup, 1) := by rw [cc_62]; decide +kernel
theorem D62_103 : decode (cod 62) 103 = .ok (.getfield 89, 3) := by rw [cc_62]; decide +kernel
theorem D62_106 : decode (cod 62) 106 = .ok (.iconst 1, 1) := by rw [cc_62]; decide +kernel
theorem D62_107 : decode (cod 62) 107 = .ok (.iadd, 1) := by rw [cc_62]; decide +kernel
theorem D62_108 : decode (cod 62) 108 = .ok (.putfield 89, 3) := by rw [cc_62]; decide +kernel
theorem D62_111 : decode (cod 62) 111 = .ok (.iinc 1 1, 3) := by rw [cc_62]; decide +kernel
theorem D62_114 : decode (cod 62) 114 = .ok (.goto (-105), 3) := by rw [cc_62]; decide +kernel
theorem D62_117 : decode (cod 62) 117 = .ok (.aload_n 0, 1) := by rw [cc_62]; decide +kernel
theorem D62_118 : decode (cod 62) 118 = .ok (.getfield 12, 3) := by rw [cc_62]; decide +kernel
theorem D62_121 : decode (cod 62) 121 = .ok (.iconst 1, 1) := by rw [cc_62]; decide +kernel
theorem D62_122 : decode (cod 62) 122 = .ok (.invokevirtual 96, 3) := by rw [cc_62]; decide +kernel
theorem D62_125 : decode (cod 62) 125 = .ok (.ireturn, 1) := by rw [cc_62]; decide +kernel
theorem b62_0 {d : Nat}  {I L : Nat → Nat → Nat → Int} {t : Nat → Nat} : Res (d + 1) 62 0 [vr 8 0, vx, vx] [] (mk I L t) = (Cal d 65 [vr 9 (t 9)] (mk I L t)).bind fun v => Res (d + 1) 62 7 [vr 8 0, vx, vx] (psh 65 v.1 []) v.2 :=
  Eq.trans (e_aload_n D62_0 rfl rfl) <| Eq.trans (e_getP (p := (9, t 9)) D62_1 rfl o_62 f_8_43 (sh_8 _) (by decide) (pp_8_5 _)) <| e_callV D62_4 rfl o_62 m_8_145 (by decide) rfl rfl
theorem b62_7 {d : Nat}  {I L : Nat → Nat → Nat → Int} {t : Nat → Nat} : Res d 62 7 [vr 8 0, vx, vx] [] (mk I L t) = Res d 62 9 [vr 8 0, vi 0, vx] [] (mk I L t) :=
  Eq.trans (e_iconst (x := 0) D62_7 rfl rfl) <| e_istore_n (ls1 := [vr 8 0, vi 0, vx]) D62_8 rfl (show 1 < 3 by decide) rfl
theorem b62_9 {d : Nat} {x1 : Int} {u2 : MV} {I L : Nat → Nat → Nat → Int} {t : Nat → Nat} : Res d 62 9 [vr 8 0, vi x1, u2] [] (mk I L t) = if 400 < x1 then Res d 62 117 [vr 8 0, vi x1, u2] [] (mk I L t) else Res d 62 16 [vr 8 0, vi x1, u2] [] (mk I L t) :=
  Eq.trans (e_iload_n D62_9 rfl rfl) <| Eq.trans (e_sipush (x := 400) D62_10 rfl rfl) <| e_icgt D62_13 rfl rfl
theorem b62_16 {d : Nat} {x1 : Int} {u2 : MV} {I L : Nat → Nat → Nat → Int} {t : Nat → Nat} : Res d 62 16 [vr 8 0, vi x1, u2] [] (mk I L t) = if ¬ I 7 0 8 = 24 then Res d 62 32 [vr 8 0, vi x1, vi (I 7 0 8)] [] (mk I L t) else Res d 62 30 [vr 8 0, vi x1, vi (I 7 0 8)] [] (mk I L t) :=
  Eq.trans (e_aload_n D62_16 rfl rfl) <| Eq.trans (e_getP (p := (7, 0)) D62_17 rfl o_62 f_8_12 (sh_8 _) (by decide) (pp_8_0 _)) <| Eq.trans (e_getI D62_20 rfl o_62 f_8_93 (sh_7 _) (by decide)) <| Eq.trans (e_istore_n (ls1 := [vr 8 0, vi x1, vi (I 7 0 8)]) D62_23 rfl (show 2 < 3 by decide) rfl) <| Eq.trans (e_iload_n D62_24 rfl rfl) <| Eq.trans (e_bipush (x := 24) D62_25 rfl rfl) <| e_icne D62_27 rfl rfl
theorem b62_30 {d : Nat} {x1 x2 : Int} {I L : Nat → Nat → Nat → Int} {t : Nat → Nat} : Res d 62 30 [vr 8 0, vi x1, vi x2] [] (mk I L t) = some (vi 1, (mk I L t)) :=
  Eq.trans (e_iconst (x := 1) D62_30 rfl rfl) <| e_iret D62_31 rfl
theorem b62_32 {d : Nat} {x1 x2 : Int} {I L : Nat → Nat → Nat → Int} {t : Nat → Nat} : Res (d + 1) 62 32 [vr 8 0, vi x1, vi x2] [] (mk I L t) = (Cal d 102 [vi x2, vi 19, vi 22] (mk I L t)).bind fun v => Res (d + 1) 62 40 [vr 8 0, vi x1, vi x2] (psh 102 v.1 []) v.2 :=
  Eq.trans (e_iload_n D62_32 rfl rfl) <| Eq.trans (e_bipush (x := 19) D62_33 rfl rfl) <| Eq.trans (e_bipush (x := 22) D62_35 rfl rfl) <| e_callS D62_37 rfl o_62 m_8_56 (by decide) rfl rfl
theorem b62_40 {d : Nat} {x1 x2 xs0 : Int} {I L : Nat → Nat → Nat → Int} {t : Nat → Nat} : Res d 62 40 [vr 8 0, vi x1, vi x2] [vi xs0] (mk I L t) = if ¬ xs0 = 0 then Res d 62 52 [vr 8 0, vi x1, vi x2] [] (mk I L t) else Res d 62 43 [vr 8 0, vi x1, vi x2] [] (mk I L t) :=
  e_ifne D62_40 rfl rfl
theorem b62_43 {d : Nat} {x1 x2 : Int} {I L : Nat → Nat → Nat → Int} {t : Nat → Nat} : Res (d + 1) 62 43 [vr 8 0, vi x1, vi x2] [] (mk I L t) = (Cal d 37 [vr 7 0, vi 1] (mk I L t)).bind fun v => Res (d + 1) 62 51 [vr 8 0, vi x1, vi x2] (psh 37 v.1 []) v.2 :=
  Eq.trans (e_aload_n D62_43 rfl rfl) <| Eq.trans (e_getP (p := (7, 0)) D62_44 rfl o_62 f_8_12 (sh_8 _) (by decide) (pp_8_0 _)) <| Eq.trans (e_iconst (x := 1) D62_47 rfl rfl) <| e_callV D62_48 rfl o_62 m_8_96 (by decide) rfl rfl
theorem b62_51 {d : Nat} {x1 x2 xs0 : Int} {I L : Nat → Nat → Nat → Int} {t : Nat → Nat} (g1 : xs0 = 0 ∨ xs0 = 1) : Res d 62 51 [vr 8 0, vi x1, vi x2] [vi xs0] (mk I L t) = some (vi xs0, (mk I L t)) :=
  e_iret D62_51 (nrz rfl g1)
theorem b62_52 {d : Nat} {x1 x2 : Int} {I L : Nat → Nat → Nat → Int} {t : Nat → Nat} : Res (d + 1) 62 52 [vr 8 0, vi x1, vi x2] [] (mk I L t) = (Cal d 66 [vr 9 (t 9), vi x2] (mk I L t)).bind fun v => Res (d + 1) 62 60 [vr 8 0, vi x1, vi x2] (psh 66 v.1 []) v.2 :=
  Eq.trans (e_aload_n D62_52 rfl rfl) <| Eq.trans (e_getP (p := (9, t 9)) D62_53 rfl o_62 f_8_43 (sh_8 _) (by decide) (pp_8_5 _)) <| Eq.trans (e_iload_n D62_56 rfl rfl) <| e_callV D62_57 rfl o_62 m_8_146 (by decide) rfl rfl
theorem b62_60 {d : Nat} {x1 x2 xs0 : Int} {I L : Nat → Nat → Nat → Int} {t : Nat → Nat} : Res d 62 60 [vr 8 0, vi x1, vi x2] [vi xs0] (mk I L t) = if xs0 = 0 then Res d 62 72 [vr 8 0, vi x1, vi x2] [] (mk I L t) else Res d 62 63 [vr 8 0, vi x1, vi x2] [] (mk I L t) :=
  e_ifeq D62_60 rfl rfl
theorem b62_63 {d : Nat} {x1 x2 : Int} {I L : Nat → Nat → Nat → Int} {t : Nat → Nat} : Res (d + 1) 62 63 [vr 8 0, vi x1, vi x2] [] (mk I L t) = (Cal d 37 [vr 7 0, vi 2] (mk I L t)).bind fun v => Res (d + 1) 62 71 [vr 8 0, vi x1, vi x2] (psh 37 v.1 []) v.2 :=
  Eq.trans (e_aload_n D62_63 rfl rfl) <| Eq.trans (e_getP (p := (7, 0)) D62_64 rfl o_62 f_8_12 (sh_8 _) (by decide) (pp_8_0 _)) <| Eq.trans (e_iconst (x := 2) D62_67 rfl rfl) <| e_callV D62_68 rfl o_62 m_8_96 (by decide) rfl rfl
theorem b62_71 {d : Nat} {x1 x2 xs0 : Int} {I L : Nat → Nat → Nat → Int} {t : Nat → Nat} (g1 : xs0 = 0 ∨ xs0 = 1) : Res d 62 71 [vr 8 0, vi x1, vi x2] [vi xs0] (mk I L t) = some (vi xs0, (mk I L t)) :=
  e_iret D62_71 (nrz rfl g1)
theorem b62_72 {d : Nat} {x1 x2 : Int} {I L : Nat → Nat → Nat → Int} {t : Nat → Nat} : Res (d + 1) 62 72 [vr 8 0, vi x1, vi x2] [] (mk I L t) = (Cal d 38 [vr 7 0] (mk I L t)).bind fun v => Res (d + 1) 62 79 [vr 8 0, vi x1, vi x2] (psh 38 v.1 []) v.2 :=
  Eq.trans (e_aload_n D62_72 rfl rfl) <| Eq.trans (e_getP (p := (7, 0)) D62_73 rfl o_62 f_8_12 (sh_8 _) (by decide) (pp_8_0 _)) <| e_callV D62_76 rfl o_62 m_8_107 (by decide) rfl rfl
theorem b62_79 {d : Nat} {x1 x2 : Int} {I L : Nat → Nat → Nat → Int} {t : Nat → Nat} : Res (d + 1) 62 79 [vr 8 0, vi x1, vi x2] [] (mk I L t) = (Cal d 63 [vr 8 0, vi x2] (mk I L t)).bind fun v => Res (d + 1) 62 84 [vr 8 0, vi x1, vi x2] (psh 63 v.1 []) v.2 :=
  Eq.trans (e_aload_n D62_79 rfl rfl) <| Eq.trans (e_iload_n D62_80 rfl rfl) <| e_callV D62_81 rfl o_62 m_8_147 (by decide) rfl rfl
theorem b62_84 {d : Nat} {x1 x2 xs0 : Int} {I L : Nat → Nat → Nat → Int} {t : Nat → Nat} : Res d 62 84 [vr 8 0, vi x1, vi x2] [vi xs0] (mk I L t) = if xs0 = 0 then Res d 62 96 [vr 8 0, vi x1, vi x2] [] (mk I L t) else Res d 62 87 [vr 8 0, vi x1, vi x2] [] (mk I L t) :=
  e_ifeq D62_84 rfl rfl
theorem b62_87 {d : Nat} {x1 x2 : Int} {I L : Nat → Nat → Nat → Int} {t : Nat → Nat} : Res (d + 1) 62 87 [vr 8 0, vi x1, vi x2] [] (mk I L t) = (Cal d 58 [vr 8 0, vi 59] (mk I L t)).bind fun v => Res (d + 1) 62 93 [vr 8 0, vi x1, vi x2] (psh 58 v.1 []) v.2 :=
  Eq.trans (e_aload_n D62_87 rfl rfl) <| Eq.trans (e_bipush (x := 59) D62_88 rfl rfl) <| e_callV D62_90 rfl o_62 m_8_113 (by decide) rfl rfl
theorem b62_93 {d : Nat} {x1 x2 xs0 : Int} {I L : Nat → Nat → Nat → Int} {t : Nat → Nat} : Res d 62 93 [vr 8 0, vi x1, vi x2] [vi xs0] (mk I L t) = if ¬ xs0 = 0 then Res d 62 98 [vr 8 0, vi x1, vi x2] [] (mk I L t) else Res d 62 96 [vr 8 0, vi x1, vi x2] [] (mk I L t) :=
  e_ifne D62_93 rfl rfl
theorem b62_96 {d : Nat} {x1 x2 : Int} {I L : Nat → Nat → Nat → Int} {t : Nat → Nat} : Res d 62 96 [vr 8 0, vi x1, vi x2] [] (mk I L t) = some (vi 0, (mk I L t)) :=
  Eq.trans (e_iconst (x := 0) D62_96 rfl rfl) <| e_iret D62_97 rfl
theorem b62_98 {d : Nat} {x1 x2 : Int} {I L : Nat → Nat → Nat → Int} {t : Nat → Nat} : Res d 62 98 [vr 8 0, vi x1, vi x2] [] (mk I L t) = Res d 62 9 [vr 8 0, vi (w32 (x1 + 1)), vi x2] [] (mk (up3 I 9 (t 9) 4 (w32 ((I 9 (t 9) 4) + 1))) L t) :=
  Eq.trans (e_aload_n D62_98 rfl rfl) <| Eq.trans (e_getP (p := (9, t 9)) D62_99 rfl o_62 f_8_43 (sh_8 _) (by decide) (pp_8_5 _)) <| Eq.trans (e_dup D62_102 rfl) <| Eq.trans (e_getI D62_103 rfl o_62 f_8_89 (sh_9 _) (by decide)) <| Eq.trans (e_iconst (x := 1) D62_106 rfl rfl) <| Eq.trans (e_iadd D62_107 rfl) <| Eq.trans (e_putI D62_108 rfl o_62 f_8_89 (sh_9 _) rfl (by decide) (Or.inl (by decide))) <| Eq.trans (e_iinc (ls1 := [vr 8 0, vi (w32 (x1 + 1)), vi x2]) D62_111 rfl rfl rfl) <| e_goto (q1 := 9) D62_114 rfl
theorem b62_117 {d : Nat} {x1 : Int} {u2 : MV} {I L : Nat → Nat → Nat → Int} {t : Nat → Nat} : Res (d + 1) 62 117 [vr 8 0, vi x1, u2] [] (mk I L t) = (Cal d 37 [vr 7 0, vi 1] (mk I L t)).bind fun v => Res (d + 1) 62 125 [vr 8 0, vi x1, u2] (psh 37 v.1 []) v.2 :=
  Eq.trans (e_aload_n D62_117 rfl rfl) <| Eq.trans (e_getP (p := (7, 0)) D62_118 rfl o_62 f_8_12 (sh_8 _) (by decide) (pp_8_0 _)) <| Eq.trans (e_iconst (x := 1) D62_121 rfl rfl) <| e_callV D62_122 rfl o_62 m_8_96 (by decide) rfl rfl
theorem b62_125 {d : Nat} {x1 xs0 : Int} {u2 : MV} {I L : Nat → Nat → Nat → Int} {t : Nat → Nat} (g1 : xs0 = 0 ∨ xs0 = 1) : Res d 62 125 [vr 8 0, vi x1, u2] [vi xs0] (mk I L t) = some (vi xs0, (mk I L t)) :=
  e_iret D62_125 (nrz rfl g1)
/-! Texts_readWayLine -/
theorem cc_63 : cod 63 = cX8_readWayLine := rfl
theorem D63_0 : decode (cod 63) 0 = .ok (.aload_n 0, 1) := by rw [cc_63]; decide +kernel
theorem D63_1 : decode (cod 63) 1 = .ok (.getfield 12, 3) := by rw [cc_63]; decide +kernel
theorem D63_4 : decode (cod 63) 4 = .ok (.getfield 132, 3) := by rw [cc_63]; decide +kernel
theorem D63_7 : decode (cod 63) 7 = .ok (.istore_n 2, 1) := by rw [cc_63]; decide +kernel
theorem D63_8 : decode (cod 63) 8 = .ok (.iload_n 1, 1) := by rw [cc_63]; decide +kernel
theorem D63_9 : decode (cod 63) 9 = .ok (.bipush 20, 2) := by rw [cc_63]; decide +kernel
theorem D63_11 : decode (cod 63) 11 = .ok (.if_icmp .ne 12, 3) := by rw [cc_63]; decide +kernel
theorem D63_14 : decode (cod 63) 14 = .ok (.aload_n 0, 1) := by rw [cc_63]; decide +kernel
theorem D63_15 : decode (cod 63) 15 = .ok (.bipush 99, 2) := by rw [cc_63]; decide +kernel
theorem D63_17 : decode (cod 63) 17 = .ok (.invokevirtual 138, 3) := by rw [cc_63]; decide +kernel
theorem D63_20 : decode (cod 63) 20 = .ok (.ifCond .eq 17, 3) := by rw [cc_63]; decide +kernel
theorem D63_23 : decode (cod 63) 23 = .ok (.iload_n 1, 1) := by rw [cc_63]; decide +kernel
theorem D63_24 : decode (cod 63) 24 = .ok (.bipush 21, 2) := by rw [cc_63]; decide +kernel
theorem D63_26 : decode (cod 63) 26 = .ok (.if_icmp .ne 13, 3) := by rw [cc_63]; decide +kernel
theorem D63_29 : decode (cod 63) 29 = .ok (.aload_n 0, 1) := by rw [cc_63]; decide +kernel
theorem D63_30 : decode (cod 63) 30 = .ok (.iconst 5, 1) := by rw [cc_63]; decide +kernel
theorem D63_31 : decode (cod 63) 31 = .ok (.invokevirtual 138, 3) := by rw [cc_63]; decide +kernel
theorem D63_34 : decode (cod 63) 34 = .ok (.ifCond .ne 5, 3) := by rw [cc_63]; decide +kernel
theorem D63_37 : decode (cod 63) 37 = .ok (.iconst 0, 1) := by rw [cc_63]; decide +kernel
theorem D63_38 : decode (cod 63) 38 = .ok (.ireturn, 1) := by rw [cc_63]; decide +kernel
theorem D63_39 : decode (cod 63) 39 = .ok (.aload_n 0, 1) := by rw [cc_63]; decide +kernel
theorem D63_40 : decode (cod 63) 40 = .ok (.getfield 43, 3) := by rw [cc_63]; decide +kernel
theorem D63_43 : decode (cod 63) 43 = .ok (.iload_n 1, 1) := by rw [cc_63]; decide +kernel
theorem D63_44 : decode (cod 63) 44 = .ok (.iload_n 2, 1) := by rw [cc_63]; decide +kernel
theorem D63_45 : decode (cod 63) 45 = .ok (.invokevirtual 150, 3) := by rw [cc_63]; decide +kernel
theorem D63_48 : decode (cod 63) 48 = .ok (.iconst 1, 1) := by rw [cc_63]; decide +kernel
theorem D63_49 : decode (cod 63) 49 = .ok (.ireturn, 1) := by rw [cc_63]; decide +kernel
theorem b63_0 {d : Nat} {x1 : Int} {I L : Nat → Nat → Nat → Int} {t : Nat → Nat} : Res d 63 0 [vr 8 0, vi x1, vx] [] (mk I L t) = if ¬ x1 = 20 then Res d 63 23 [vr 8 0, vi x1, vi (I 7 0 10)] [] (mk I L t) else Res d 63 14 [vr 8 0, vi x1, vi (I 7 0 10)] [] (mk I L t) :=
  Eq.trans (e_aload_n D63_0 rfl rfl) <| Eq.trans (e_getP (p := (7, 0)) D63_1 rfl o_63 f_8_12 (sh_8 _) (by decide) (pp_8_0 _)) <| Eq.trans (e_getI D63_4 rfl o_63 f_8_132 (sh_7 _) (by decide)) <| Eq.trans (e_istore_n (ls1 := [vr 8 0, vi x1, vi (I 7 0 10)]) D63_7 rfl (show 2 < 3 by decide) rfl) <| Eq.trans (e_iload_n D63_8 rfl rfl) <| Eq.trans (e_bipush (x := 20) D63_9 rfl rfl) <| e_icne D63_11 rfl rfl
theorem b63_14 {d : Nat} {x1 x2 : Int} {I L : Nat → Nat → Nat → Int} {t : Nat → Nat} : Res (d + 1) 63 14 [vr 8 0, vi x1, vi x2] [] (mk I L t) = (Cal d 59 [vr 8 0, vi 99] (mk I L t)).bind fun v => Res (d + 1) 63 20 [vr 8 0, vi x1, vi x2] (psh 59 v.1 []) v.2 :=
  Eq.trans (e_aload_n D63_14 rfl rfl) <| Eq.trans (e_bipush (x := 99) D63_15 rfl rfl) <| e_callV D63_17 rfl o_63 m_8_138 (by decide) rfl rfl
theorem b63_20 {d : Nat} {x1 x2 xs0 : Int} {I L : Nat → Nat → Nat → Int} {t : Nat → Nat} : Res d 63 20 [vr 8 0, vi x1, vi x2] [vi xs0] (mk I L t) = if xs0 = 0 then Res d 63 37 [vr 8 0, vi x1, vi x2] [] (mk I L t) else Res d 63 23 [vr 8 0, vi x1, vi x2] [] (mk I L t) :=
  e_ifeq D63_20 rfl rfl
theorem b63_23 {d : Nat} {x1 x2 : Int} {I L : Nat → Nat → Nat → Int} {t : Nat → Nat} : Res d 63 23 [vr 8 0, vi x1, vi x2] [] (mk I L t) = if ¬ x1 = 21 then Res d 63 39 [vr 8 0, vi x1, vi x2] [] (mk I L t) else Res d 63 29 [vr 8 0, vi x1, vi x2] [] (mk I L t) :=
  Eq.trans (e_iload_n D63_23 rfl rfl) <| Eq.trans (e_bipush (x := 21) D63_24 rfl rfl) <| e_icne D63_26 rfl rfl
theorem b63_29 {d : Nat} {x1 x2 : Int} {I L : Nat → Nat → Nat → Int} {t : Nat → Nat} : Res (d + 1) 63 29 [vr 8 0, vi x1, vi x2] [] (mk I L t) = (Cal d 59 [vr 8 0, vi 5] (mk I L t)).bind fun v => Res (d + 1) 63 34 [vr 8 0, vi x1, vi x2] (psh 59 v.1 []) v.2 :=
  Eq.trans (e_aload_n D63_29 rfl rfl) <| Eq.trans (e_iconst (x := 5) D63_30 rfl rfl) <| e_callV D63_31 rfl o_63 m_8_138 (by decide) rfl rfl
theorem b63_34 {d : Nat} {x1 x2 xs0 : Int} {I L : Nat → Nat → Nat → Int} {t : Nat → Nat} : Res d 63 34 [vr 8 0, vi x1, vi x2] [vi xs0] (mk I L t) = if ¬ xs0 = 0 then Res d 63 39 [vr 8 0, vi x1, vi x2] [] (mk I L t) else Res d 63 37 [vr 8 0, vi x1, vi x2] [] (mk I L t) :=
  e_ifne D63_34 rfl rfl
theorem b63_37 {d : Nat} {x1 x2 : Int} {I L : Nat → Nat → Nat → Int} {t : Nat → Nat} : Res d 63 37 [vr 8 0, vi x1, vi x2] [] (mk I L t) = some (vi 0, (mk I L t)) :=
  Eq.trans (e_iconst (x := 0) D63_37 rfl rfl) <| e_iret D63_38 rfl
theorem b63_39 {d : Nat} {x1 x2 : Int} {I L : Nat → Nat → Nat → Int} {t : Nat → Nat} : Res (d + 1) 63 39 [vr 8 0, vi x1, vi x2] [] (mk I L t) = (Cal d 67 [vr 9 (t 9), vi x1, vi x2] (mk I L t)).bind fun v => Res (d + 1) 63 48 [vr 8 0, vi x1, vi x2] (psh 67 v.1 []) v.2 :=
  Eq.trans (e_aload_n D63_39 rfl rfl) <| Eq.trans (e_getP (p := (9, t 9)) D63_40 rfl o_63 f_8_43 (sh_8 _) (by decide) (pp_8_5 _)) <| Eq.trans (e_iload_n D63_43 rfl rfl) <| Eq.trans (e_iload_n D63_44 rfl rfl) <| e_callV D63_45 rfl o_63 m_8_150 (by decide) rfl rfl
theorem b63_48 {d : Nat} {x1 x2 : Int} {I L : Nat → Nat → Nat → Int} {t : Nat → Nat} : Res d 63 48 [vr 8 0, vi x1, vi x2] [] (mk I L t) = some (vi 1, (mk I L t)) :=
  Eq.trans (e_iconst (x := 1) D63_48 rfl rfl) <| e_iret D63_49 rfl
/-! Way_empty -/
theorem cc_65 : cod 65 = cX9_empty := rfl
theorem D65_0 : decode (cod 65) 0 = .ok (.aload_n 0, 1) := by rw [cc_65]; decide +kernel
theorem D65_1 : decode (cod 65) 1 = .ok (.iconst 0, 1) := by rw [cc_65]; decide +kernel
theorem D65_2 : decode (cod 65) 2 = .ok (.putfield 18, 3) := by rw [cc_65]; decide +kernel
theorem D65_5 : decode (cod 65) 5 = .ok (.aload_n 0, 1) := by rw [cc_65]; decide +kernel
theorem D65_6 : decode (cod 65) 6 = .ok (.iconst 0, 1) := by rw [cc_65]; decide +kernel
theorem D65_7 : decode (cod 65) 7 = .ok (.putfield 22, 3) := by rw [cc_65]; decide +kernel
theorem D65_10 : decode (cod 65) 10 = .ok (.aload_n 0, 1) := by rw [cc_65]; decide +kernel
theorem D65_11 : decode (cod 65) 11 = .ok (.iconst (-1), 1) := by rw [cc_65]; decide +kernel
theorem D65_12 : decode (cod 65) 12 = .ok (.putfield 9, 3) := by rw [cc_65]; decide +kernel
theorem D65_15 : decode (cod 65) 15 = .ok (.aload_n 0, 1) := by rw [cc_65]; decide +kernel
theorem D65_16 : decode (cod 65) 16 = .ok (.iconst (-1), 1) := by rw [cc_65]; decide +kernel
theorem D65_17 : decode (cod 65) 17 = .ok (.putfield 15, 3) := by rw [cc_65]; decide +kernel
theorem D65_20 : decode (cod 65) 20 = .ok (.aload_n 0, 1) := by rw [cc_65]; decide +kernel
theorem D65_21 : decode (cod 65) 21 = .ok (.iconst 0, 1) := by rw [cc_65]; decide +kernel
theorem D65_22 : decode (cod 65) 22 = .ok (.putfield 25, 3) := by rw [cc_65]; decide +kernel
theorem D65_25 : decode (cod 65) 25 = .ok (.return_, 1) := by rw [cc_65]; decide +kernel
theorem b65_0 {d : Nat} {i0 : Nat} {I L : Nat → Nat → Nat → Int} {t : Nat → Nat} : Res d 65 0 [vr 9 i0] [] (mk I L t) = some (vx, (mk (up3 (up3 (up3 (up3 (up3 I 9 i0 0 0) 9 i0 1 0) 9 i0 2 (-1)) 9 i0 3 (-1)) 9 i0 4 0) L t)) :=
  Eq.trans (e_aload_n D65_0 rfl rfl) <| Eq.trans (e_iconst (x := 0) D65_1 rfl rfl) <| Eq.trans (e_putI D65_2 rfl o_65 f_9_18 (sh_9 _) rfl (by decide) (Or.inr ⟨by decide, by decide⟩)) <| Eq.trans (e_aload_n D65_5 rfl rfl) <| Eq.trans (e_iconst (x := 0) D65_6 rfl rfl) <| Eq.trans (e_putI D65_7 rfl o_65 f_9_22 (sh_9 _) rfl (by decide) (Or.inr ⟨by decide, by decide⟩)) <| Eq.trans (e_aload_n D65_10 rfl rfl) <| Eq.trans (e_iconst (x := -1) D65_11 rfl rfl) <| Eq.trans (e_putI D65_12 rfl o_65 f_9_9 (sh_9 _) rfl (by decide) (Or.inl (by decide))) <| Eq.trans (e_aload_n D65_15 rfl rfl) <| Eq.trans (e_iconst (x := -1) D65_16 rfl rfl) <| Eq.trans (e_putI D65_17 rfl o_65 f_9_15 (sh_9 _) rfl (by decide) (Or.inl (by decide))) <| Eq.trans (e_aload_n D65_20 rfl rfl) <| Eq.trans (e_iconst (x := 0) D65_21 rfl rfl) <| Eq.trans (e_putI D65_22 rfl o_65 f_9_25 (sh_9 _) rfl (by decide) (Or.inl (by decide))) <| e_vret D65_25 rfl
/-! Way_has -/
theorem cc_66 : cod 66 = cX9_has := rfl
theorem D66_0 : decode (cod 66) 0 = .ok (.iload_n 1, 1) := by rw [cc_66]; decide +kernel
theorem D66_1 : decode (cod 66) 1 = .ok (.tableswitch 55 19 22 #[31, 41, 55, 36], 31) := by rw [cc_66]; decide +kernel
theorem D66_32 : decode (cod 66) 32 = .ok (.aload_n 0, 1) := by rw [cc_66]; decide +kernel
theorem D66_33 : decode (cod 66) 33 = .ok (.getfield 18, 3) := by rw [cc_66]; decide +kernel
theorem D66_36 : decode (cod 66) 36 = .ok (.ireturn, 1) := by rw [cc_66]; decide +kernel
theorem D66_37 : decode (cod 66) 37 = .ok (.aload_n 0, 1) := by rw [cc_66]; decide +kernel
theorem D66_38 : decode (cod 66) 38 = .ok (.getfield 22, 3) := by rw [cc_66]; decide +kernel
theorem D66_41 : decode (cod 66) 41 = .ok (.ireturn, 1) := by rw [cc_66]; decide +kernel
theorem D66_42 : decode (cod 66) 42 = .ok (.aload_n 0, 1) := by rw [cc_66]; decide +kernel
theorem D66_43 : decode (cod 66) 43 = .ok (.getfield 9, 3) := by rw [cc_66]; decide +kernel
theorem D66_46 : decode (cod 66) 46 = .ok (.iconst (-1), 1) := by rw [cc_66]; decide +kernel
theorem D66_47 : decode (cod 66) 47 = .ok (.if_icmp .eq 7, 3) := by rw [cc_66]; decide +kernel
theorem D66_50 : decode (cod 66) 50 = .ok (.iconst 1, 1) := by rw [cc_66]; decide +kernel
theorem D66_51 : decode (cod 66) 51 = .ok (.goto 4, 3) := by rw [cc_66]; decide +kernel
theorem D66_54 : decode (cod 66) 54 = .ok (.iconst 0, 1) := by rw [cc_66]; decide +kernel
theorem D66_55 : decode (cod 66) 55 = .ok (.ireturn, 1) := by rw [cc_66]; decide +kernel
theorem D66_56 : decode (cod 66) 56 = .ok (.aload_n 0, 1) := by rw [cc_66]; decide +kernel
theorem D66_57 : decode (cod 66) 57 = .ok (.getfield 15, 3) := by rw [cc_66]; decide +kernel
theorem D66_60 : decode (cod 66) 60 = .ok (.iconst (-1), 1) := by rw [cc_66]; decide +kernel
theorem D66_61 : decode (cod 66) 61 = .ok (.if_icmp .eq 7, 3) := by rw [cc_66]; decide +kernel
theorem D66_64 : decode (cod 66) 64 = .ok (.iconst 1, 1) := by rw [cc_66]; decide +kernel
theorem D66_65 : decode (cod 66) 65 = .ok (.goto 4, 3) := by rw [cc_66]; decide +kernel
theorem D66_68 : decode (cod 66) 68 = .ok (.iconst 0, 1) := by rw [cc_66]; decide +kernel
theorem D66_69 : decode (cod 66) 69 = .ok (.ireturn, 1) := by rw [cc_66]; decide +kernel
theorem b66_0_d {d : Nat} {i0 : Nat} {x1 : Int} {I L : Nat → Nat → Nat → Int} {t : Nat → Nat} (gx : x1 < 19 ∨ 22 < x1) : Res d 66 0 [vr 9 i0, vi x1] [] (mk I L t) = Res d 66 56 [vr 9 i0, vi x1] [] (mk I L t) :=
  Eq.trans (e_iload_n D66_0 rfl rfl) <| e_tswD (q1 := 56) D66_1 gx rfl
theorem b66_0_c19 {d : Nat} {i0 : Nat} {x1 : Int} {I L : Nat → Nat → Nat → Int} {t : Nat → Nat} (gx : x1 = 19) : Res d 66 0 [vr 9 i0, vi x1] [] (mk I L t) = Res d 66 32 [vr 9 i0, vi x1] [] (mk I L t) :=
  Eq.trans (e_iload_n D66_0 rfl rfl) <| e_tswK (k := 0) (q1 := 32) D66_1 gx (by decide) rfl rfl
theorem b66_0_c20 {d : Nat} {i0 : Nat} {x1 : Int} {I L : Nat → Nat → Nat → Int} {t : Nat → Nat} (gx : x1 = 20) : Res d 66 0 [vr 9 i0, vi x1] [] (mk I L t) = Res d 66 42 [vr 9 i0, vi x1] [] (mk I L t) :=
  Eq.trans (e_iload_n D66_0 rfl rfl) <| e_tswK (k := 1) (q1 := 42) D66_1 gx (by decide) rfl rfl
theorem b66_0_c21 {d : Nat} {i0 : Nat} {x1 : Int} {I L : Nat → Nat → Nat → Int} {t : Nat → Nat} (gx : x1 = 21) : Res d 66 0 [vr 9 i0, vi x1] [] (mk I L t) = Res d 66 56 [vr 9 i0, vi x1] [] (mk I L t) :=
  Eq.trans (e_iload_n D66_0 rfl rfl) <| e_tswK (k := 2) (q1 := 56) D66_1 gx (by decide) rfl rfl
theorem b66_0_c22 {d : Nat} {i0 : Nat} {x1 : Int} {I L : Nat → Nat → Nat → Int} {t : Nat → Nat} (gx : x1 = 22) : Res d 66 0 [vr 9 i0, vi x1] [] (mk I L t) = Res d 66 37 [vr 9 i0, vi x1] [] (mk I L t) :=
  Eq.trans (e_iload_n D66_0 rfl rfl) <| e_tswK (k := 3) (q1 := 37) D66_1 gx (by decide) rfl rfl
theorem b66_32 {d : Nat} {i0 : Nat} {x1 : Int} {I L : Nat → Nat → Nat → Int} {t : Nat → Nat} (g1 : I 9 i0 0 = 0 ∨ I 9 i0 0 = 1) : Res d 66 32 [vr 9 i0, vi x1] [] (mk I L t) = some (vi (I 9 i0 0), (mk I L t)) :=
  Eq.trans (e_aload_n D66_32 rfl rfl) <| Eq.trans (e_getI D66_33 rfl o_66 f_9_18 (sh_9 _) (by decide)) <| e_iret D66_36 (nrz rfl g1)
theorem b66_37 {d : Nat} {i0 : Nat} {x1 : Int} {I L : Nat → Nat → Nat → Int} {t : Nat → Nat} (g1 : I 9 i0 1 = 0 ∨ I 9 i0 1 = 1) : Res d 66 37 [vr 9 i0, vi x1] [] (mk I L t) = some (vi (I 9 i0 1), (mk I L t)) :=
  Eq.trans (e_aload_n D66_37 rfl rfl) <| Eq.trans (e_getI D66_38 rfl o_66 f_9_22 (sh_9 _) (by decide)) <| e_iret D66_41 (nrz rfl g1)
theorem b66_42 {d : Nat} {i0 : Nat} {x1 : Int} {I L : Nat → Nat → Nat → Int} {t : Nat → Nat} : Res d 66 42 [vr 9 i0, vi x1] [] (mk I L t) = if I 9 i0 2 = -1 then Res d 66 54 [vr 9 i0, vi x1] [] (mk I L t) else Res d 66 50 [vr 9 i0, vi x1] [] (mk I L t) :=
  Eq.trans (e_aload_n D66_42 rfl rfl) <| Eq.trans (e_getI D66_43 rfl o_66 f_9_9 (sh_9 _) (by decide)) <| Eq.trans (e_iconst (x := -1) D66_46 rfl rfl) <| e_iceq D66_47 rfl rfl
theorem b66_50 {d : Nat} {i0 : Nat} {x1 : Int} {I L : Nat → Nat → Nat → Int} {t : Nat → Nat} : Res d 66 50 [vr 9 i0, vi x1] [] (mk I L t) = Res d 66 55 [vr 9 i0, vi x1] [vi 1] (mk I L t) :=
  Eq.trans (e_iconst (x := 1) D66_50 rfl rfl) <| e_goto (q1 := 55) D66_51 rfl
theorem b66_54 {d : Nat} {i0 : Nat} {x1 : Int} {I L : Nat → Nat → Nat → Int} {t : Nat → Nat} : Res d 66 54 [vr 9 i0, vi x1] [] (mk I L t) = Res d 66 55 [vr 9 i0, vi x1] [vi 0] (mk I L t) :=
  e_iconst (x := 0) D66_54 rfl rfl
theorem b66_55 {d : Nat} {i0 : Nat} {x1 xs0 : Int} {I L : Nat → Nat → Nat → Int} {t : Nat → Nat} (g1 : xs0 = 0 ∨ xs0 = 1) : Res d 66 55 [vr 9 i0, vi x1] [vi xs0] (mk I L t) = some (vi xs0, (mk I L t)) :=
  e_iret D66_55 (nrz rfl g1)
theorem b66_56 {d : Nat} {i0 : Nat} {x1 : Int} {I L : Nat → Nat → Nat → Int} {t : Nat → Nat} : Res d 66 56 [vr 9 i0, vi x1] [] (mk I L t) = if I 9 i0 3 = -1 then Res d 66 68 [vr 9 i0, vi x1] [] (mk I L t) else Res d 66 64 [vr 9 i0, vi x1] [] (mk I L t) :=
  Eq.trans (e_aload_n D66_56 rfl rfl) <| Eq.trans (e_getI D66_57 rfl o_66 f_9_15 (sh_9 _) (by decide)) <| Eq.trans (e_iconst (x := -1) D66_60 rfl rfl) <| e_iceq D66_61 rfl rfl
theorem b66_64 {d : Nat} {i0 : Nat} {x1 : Int} {I L : Nat → Nat → Nat → Int} {t : Nat → Nat} : Res d 66 64 [vr 9 i0, vi x1] [] (mk I L t) = Res d 66 69 [vr 9 i0, vi x1] [vi 1] (mk I L t) :=
  Eq.trans (e_iconst (x := 1) D66_64 rfl rfl) <| e_goto (q1 := 69) D66_65 rfl
theorem b66_68 {d : Nat} {i0 : Nat} {x1 : Int} {I L : Nat → Nat → Nat → Int} {t : Nat → Nat} : Res d 66 68 [vr 9 i0, vi x1] [] (mk I L t) = Res d 66 69 [vr 9 i0, vi x1] [vi 0] (mk I L t) :=
  e_iconst (x := 0) D66_68 rfl rfl
theorem b66_69 {d : Nat} {i0 : Nat} {x1 xs0 : Int} {I L : Nat → Nat → Nat → Int} {t : Nat → Nat} (g1 : xs0 = 0 ∨ xs0 = 1) : Res d 66 69 [vr 9 i0, vi x1] [vi xs0] (mk I L t) = some (vi xs0, (mk I L t)) :=
  e_iret D66_69 (nrz rfl g1)
/-! Way_set -/
theorem cc_67 : cod 67 = cX9_set := rfl
theorem D67_0 : decode (cod 67) 0 = .ok (.iload_n 1, 1) := by rw [cc_67]; decide +kernel
theorem D67_1 : decode (cod 67) 1 = .ok (.tableswitch 55 19 22 #[31, 47, 55, 39], 31) := by rw [cc_67]; decide +kernel
theorem D67_32 : decode (cod 67) 32 = .ok (.aload_n 0, 1) := by rw [cc_67]; decide +kernel
theorem D67_33 : decode (cod 67) 33 = .ok (.iconst 1, 1) := by rw [cc_67]; decide +kernel
theorem D67_34 : decode (cod 67) 34 = .ok (.putfield 18, 3) := by rw [cc_67]; decide +kernel
theorem D67_37 : decode (cod 67) 37 = .ok (.goto 24, 3) := by rw [cc_67]; decide +kernel
theorem D67_40 : decode (cod 67) 40 = .ok (.aload_n 0, 1) := by rw [cc_67]; decide +kernel
theorem D67_41 : decode (cod 67) 41 = .ok (.iconst 1, 1) := by rw [cc_67]; decide +kernel
theorem D67_42 : decode (cod 67) 42 = .ok (.putfield 22, 3) := by rw [cc_67]; decide +kernel
theorem D67_45 : decode (cod 67) 45 = .ok (.goto 16, 3) := by rw [cc_67]; decide +kernel
theorem D67_48 : decode (cod 67) 48 = .ok (.aload_n 0, 1) := by rw [cc_67]; decide +kernel
theorem D67_49 : decode (cod 67) 49 = .ok (.iload_n 2, 1) := by rw [cc_67]; decide +kernel
theorem D67_50 : decode (cod 67) 50 = .ok (.putfield 9, 3) := by rw [cc_67]; decide +kernel
theorem D67_53 : decode (cod 67) 53 = .ok (.goto 8, 3) := by rw [cc_67]; decide +kernel
theorem D67_56 : decode (cod 67) 56 = .ok (.aload_n 0, 1) := by rw [cc_67]; decide +kernel
theorem D67_57 : decode (cod 67) 57 = .ok (.iload_n 2, 1) := by rw [cc_67]; decide +kernel
theorem D67_58 : decode (cod 67) 58 = .ok (.putfield 15, 3) := by rw [cc_67]; decide +kernel
theorem D67_61 : decode (cod 67) 61 = .ok (.return_, 1) := by rw [cc_67]; decide +kernel
theorem b67_0_d {d : Nat} {i0 : Nat} {x1 x2 : Int} {I L : Nat → Nat → Nat → Int} {t : Nat → Nat} (gx : x1 < 19 ∨ 22 < x1) : Res d 67 0 [vr 9 i0, vi x1, vi x2] [] (mk I L t) = Res d 67 56 [vr 9 i0, vi x1, vi x2] [] (mk I L t) :=
  Eq.trans (e_iload_n D67_0 rfl rfl) <| e_tswD (q1 := 56) D67_1 gx rfl
theorem b67_0_c19 {d : Nat} {i0 : Nat} {x1 x2 : Int} {I L : Nat → Nat → Nat → Int} {t : Nat → Nat} (gx : x1 = 19) : Res d 67 0 [vr 9 i0, vi x1, vi x2] [] (mk I L t) = Res d 67 32 [vr 9 i0, vi x1, vi x2] [] (mk I L t) :=
  Eq.trans (e_iload_n D67_0 rfl rfl) <| e_tswK (k := 0) (q1 := 32) D67_1 gx (by decide) rfl rfl
theorem b67_0_c20 {d : Nat} {i0 : Nat} {x1 x2 : Int} {I L : Nat → Nat → Nat → Int} {t : Nat → Nat} (gx : x1 = 20) : Res d 67 0 [vr 9 i0, vi x1, vi x2] [] (mk I L t) = Res d 67 48 [vr 9 i0, vi x1, vi x2] [] (mk I L t) :=
  Eq.trans (e_iload_n D67_0 rfl rfl) <| e_tswK (k := 1) (q1 := 48) D67_1 gx (by decide) rfl rfl
theorem b67_0_c21 {d : Nat} {i0 : Nat} {x1 x2 : Int} {I L : Nat → Nat → Nat → Int} {t : Nat → Nat} (gx : x1 = 21) : Res d 67 0 [vr 9 i0, vi x1, vi x2] [] (mk I L t) = Res d 67 56 [vr 9 i0, vi x1, vi x2] [] (mk I L t) :=
  Eq.trans (e_iload_n D67_0 rfl rfl) <| e_tswK (k := 2) (q1 := 56) D67_1 gx (by decide) rfl rfl
theorem b67_0_c22 {d : Nat} {i0 : Nat} {x1 x2 : Int} {I L : Nat → Nat → Nat → Int} {t : Nat → Nat} (gx : x1 = 22) : Res d 67 0 [vr 9 i0, vi x1, vi x2] [] (mk I L t) = Res d 67 40 [vr 9 i0, vi x1, vi x2] [] (mk I L t) :=
  Eq.trans (e_iload_n D67_0 rfl rfl) <| e_tswK (k := 3) (q1 := 40) D67_1 gx (by decide) rfl rfl
theorem b67_32 {d : Nat} {i0 : Nat} {x1 x2 : Int} {I L : Nat → Nat → Nat → Int} {t : Nat → Nat} : Res d 67 32 [vr 9 i0, vi x1, vi x2] [] (mk I L t) = Res d 67 61 [vr 9 i0, vi x1, vi x2] [] (mk (up3 I 9 i0 0 1) L t) :=
  Eq.trans (e_aload_n D67_32 rfl rfl) <| Eq.trans (e_iconst (x := 1) D67_33 rfl rfl) <| Eq.trans (e_putI D67_34 rfl o_67 f_9_18 (sh_9 _) rfl (by decide) (Or.inr ⟨by decide, by decide⟩)) <| e_goto (q1 := 61) D67_37 rfl
theorem b67_40 {d : Nat} {i0 : Nat} {x1 x2 : Int} {I L : Nat → Nat → Nat → Int} {t : Nat → Nat} : Res d 67 40 [vr 9 i0, vi x1, vi x2] [] (mk I L t) = Res d 67 61 [vr 9 i0, vi x1, vi x2] [] (mk (up3 I 9 i0 1 1) L t) :=
  Eq.trans (e_aload_n D67_40 rfl rfl) <| Eq.trans (e_iconst (x := 1) D67_41 rfl rfl) <| Eq.trans (e_putI D67_42 rfl o_67 f_9_22 (sh_9 _) rfl (by decide) (Or.inr ⟨by decide, by decide⟩)) <| e_goto (q1 := 61) D67_45 rfl
theorem b67_48 {d : Nat} {i0 : Nat} {x1 x2 : Int} {I L : Nat → Nat → Nat → Int} {t : Nat → Nat} : Res d 67 48 [vr 9 i0, vi x1, vi x2] [] (mk I L t) = Res d 67 61 [vr 9 i0, vi x1, vi x2] [] (mk (up3 I 9 i0 2 x2) L t) :=
  Eq.trans (e_aload_n D67_48 rfl rfl) <| Eq.trans (e_iload_n D67_49 rfl rfl) <| Eq.trans (e_putI D67_50 rfl o_67 f_9_9 (sh_9 _) rfl (by decide) (Or.inl (by decide))) <| e_goto (q1 := 61) D67_53 rfl
theorem b67_56 {d : Nat} {i0 : Nat} {x1 x2 : Int} {I L : Nat → Nat → Nat → Int} {t : Nat → Nat} : Res d 67 56 [vr 9 i0, vi x1, vi x2] [] (mk I L t) = Res d 67 61 [vr 9 i0, vi x1, vi x2] [] (mk (up3 I 9 i0 3 x2) L t) :=
  Eq.trans (e_aload_n D67_56 rfl rfl) <| Eq.trans (e_iload_n D67_57 rfl rfl) <| e_putI D67_58 rfl o_67 f_9_15 (sh_9 _) rfl (by decide) (Or.inl (by decide))
theorem b67_61 {d : Nat} {i0 : Nat} {x1 x2 : Int} {I L : Nat → Nat → Nat → Int} {t : Nat → Nat} : Res d 67 61 [vr 9 i0, vi x1, vi x2] [] (mk I L t) = some (vx, (mk I L t)) :=
  e_vret D67_61 rfl
/-! World_sortOf -/
theorem cc_69 : cod 69 = cX10_sortOf := rfl
theorem D69_0 : decode (cod 69) 0 = .ok (.iload_n 2, 1) := by rw [cc_69]; decide +kernel
theorem D69_1 : decode (cod 69) 1 = .ok (.aload_n 0, 1) := by rw [cc_69]; decide +kernel
theorem D69_2 : decode (cod 69) 2 = .ok (.getfield 12, 3) := by rw [cc_69]; decide +kernel
theorem D69_5 : decode (cod 69) 5 = .ok (.getfield 25, 3) := by rw [cc_69]; decide +kernel
theorem D69_8 : decode (cod 69) 8 = .ok (.if_icmp .ne 5, 3) := by rw [cc_69]; decide +kernel
theorem D69_11 : decode (cod 69) 11 = .ok (.iconst 0, 1) := by rw [cc_69]; decide +kernel
theorem D69_12 : decode (cod 69) 12 = .ok (.ireturn, 1) := by rw [cc_69]; decide +kernel
theorem D69_13 : decode (cod 69) 13 = .ok (.iload_n 1, 1) := by rw [cc_69]; decide +kernel
theorem D69_14 : decode (cod 69) 14 = .ok (.aload_n 0, 1) := by rw [cc_69]; decide +kernel
theorem D69_15 : decode (cod 69) 15 = .ok (.getfield 29, 3) := by rw [cc_69]; decide +kernel
theorem D69_18 : decode (cod 69) 18 = .ok (.if_icmp .ne 7, 3) := by rw [cc_69]; decide +kernel
theorem D69_21 : decode (cod 69) 21 = .ok (.iconst 1, 1) := by rw [cc_69]; decide +kernel
theorem D69_22 : decode (cod 69) 22 = .ok (.goto 4, 3) := by rw [cc_69]; decide +kernel
theorem D69_25 : decode (cod 69) 25 = .ok (.iconst 2, 1) := by rw [cc_69]; decide +kernel
theorem D69_26 : decode (cod 69) 26 = .ok (.ireturn, 1) := by rw [cc_69]; decide +kernel
theorem b69_0 {d : Nat} {i0 : Nat} {x1 x2 : Int} {I L : Nat → Nat → Nat → Int} {t : Nat → Nat} : Res d 69 0 [vr 10 i0, vi x1, vi x2] [] (mk I L t) = if ¬ x2 = I 3 (20 + i0) 4 then Res d 69 13 [vr 10 i0, vi x1, vi x2] [] (mk I L t) else Res d 69 11 [vr 10 i0, vi x1, vi x2] [] (mk I L t) :=
  Eq.trans (e_iload_n D69_0 rfl rfl) <| Eq.trans (e_aload_n D69_1 rfl rfl) <| Eq.trans (e_getP (p := (3, 20 + i0)) D69_2 rfl o_69 f_10_12 (sh_10 _) (by decide) (pp_10_0 _ _)) <| Eq.trans (e_getI D69_5 rfl o_69 f_10_25 (sh_3 _) (by decide)) <| e_icne D69_8 rfl rfl
theorem b69_11 {d : Nat} {i0 : Nat} {x1 x2 : Int} {I L : Nat → Nat → Nat → Int} {t : Nat → Nat} : Res d 69 11 [vr 10 i0, vi x1, vi x2] [] (mk I L t) = some (vi 0, (mk I L t)) :=
  Eq.trans (e_iconst (x := 0) D69_11 rfl rfl) <| e_iret D69_12 rfl
theorem b69_13 {d : Nat} {i0 : Nat} {x1 x2 : Int} {I L : Nat → Nat → Nat → Int} {t : Nat → Nat} : Res d 69 13 [vr 10 i0, vi x1, vi x2] [] (mk I L t) = if ¬ x1 = I 10 i0 3 then Res d 69 25 [vr 10 i0, vi x1, vi x2] [] (mk I L t) else Res d 69 21 [vr 10 i0, vi x1, vi x2] [] (mk I L t) :=
  Eq.trans (e_iload_n D69_13 rfl rfl) <| Eq.trans (e_aload_n D69_14 rfl rfl) <| Eq.trans (e_getI D69_15 rfl o_69 f_10_29 (sh_10 _) (by decide)) <| e_icne D69_18 rfl rfl
theorem b69_21 {d : Nat} {i0 : Nat} {x1 x2 : Int} {I L : Nat → Nat → Nat → Int} {t : Nat → Nat} : Res d 69 21 [vr 10 i0, vi x1, vi x2] [] (mk I L t) = Res d 69 26 [vr 10 i0, vi x1, vi x2] [vi 1] (mk I L t) :=
  Eq.trans (e_iconst (x := 1) D69_21 rfl rfl) <| e_goto (q1 := 26) D69_22 rfl
theorem b69_25 {d : Nat} {i0 : Nat} {x1 x2 : Int} {I L : Nat → Nat → Nat → Int} {t : Nat → Nat} : Res d 69 25 [vr 10 i0, vi x1, vi x2] [] (mk I L t) = Res d 69 26 [vr 10 i0, vi x1, vi x2] [vi 2] (mk I L t) :=
  e_iconst (x := 2) D69_25 rfl rfl
theorem b69_26 {d : Nat} {i0 : Nat} {x1 x2 xs0 : Int} {I L : Nat → Nat → Nat → Int} {t : Nat → Nat} : Res d 69 26 [vr 10 i0, vi x1, vi x2] [vi xs0] (mk I L t) = some (vi xs0, (mk I L t)) :=
  e_iret D69_26 rfl
/-! x_face -/
theorem cc_71 : cod 71 = cX11_face := rfl
theorem D71_0 : decode (cod 71) 0 = .ok (.iload_n 1, 1) := by rw [cc_71]; decide +kernel
theorem D71_1 : decode (cod 71) 1 = .ok (.iconst 0, 1) := by rw [cc_71]; decide +kernel
theorem D71_2 : decode (cod 71) 2 = .ok (.iconst 5, 1) := by rw [cc_71]; decide +kernel
theorem D71_3 : decode (cod 71) 3 = .ok (.invokestatic 76, 3) := by rw [cc_71]; decide +kernel
theorem D71_6 : decode (cod 71) 6 = .ok (.ifCond .eq 12, 3) := by rw [cc_71]; decide +kernel
theorem D71_9 : decode (cod 71) 9 = .ok (.aload_n 0, 1) := by rw [cc_71]; decide +kernel
theorem D71_10 : decode (cod 71) 10 = .ok (.getfield 80, 3) := by rw [cc_71]; decide +kernel
theorem D71_13 : decode (cod 71) 13 = .ok (.bipush 120, 2) := by rw [cc_71]; decide +kernel
theorem D71_15 : decode (cod 71) 15 = .ok (.if_icmp .lt 5, 3) := by rw [cc_71]; decide +kernel
theorem D71_18 : decode (cod 71) 18 = .ok (.iconst (-1), 1) := by rw [cc_71]; decide +kernel
theorem D71_19 : decode (cod 71) 19 = .ok (.ireturn, 1) := by rw [cc_71]; decide +kernel
theorem D71_20 : decode (cod 71) 20 = .ok (.aload_n 0, 1) := by rw [cc_71]; decide +kernel
theorem D71_21 : decode (cod 71) 21 = .ok (.getfield 11, 3) := by rw [cc_71]; decide +kernel
theorem D71_24 : decode (cod 71) 24 = .ok (.aload_n 0, 1) := by rw [cc_71]; decide +kernel
theorem D71_25 : decode (cod 71) 25 = .ok (.getfield 80, 3) := by rw [cc_71]; decide +kernel
theorem D71_28 : decode (cod 71) 28 = .ok (.aaload, 1) := by rw [cc_71]; decide +kernel
theorem D71_29 : decode (cod 71) 29 = .ok (.astore 6, 2) := by rw [cc_71]; decide +kernel
theorem D71_31 : decode (cod 71) 31 = .ok (.aload 6, 2) := by rw [cc_71]; decide +kernel
theorem D71_33 : decode (cod 71) 33 = .ok (.iload_n 1, 1) := by rw [cc_71]; decide +kernel
theorem D71_34 : decode (cod 71) 34 = .ok (.putfield 84, 3) := by rw [cc_71]; decide +kernel
theorem D71_37 : decode (cod 71) 37 = .ok (.aload 6, 2) := by rw [cc_71]; decide +kernel
theorem D71_39 : decode (cod 71) 39 = .ok (.iconst (-1), 1) := by rw [cc_71]; decide +kernel
theorem D71_40 : decode (cod 71) 40 = .ok (.putfield 87, 3) := by rw [cc_71]; decide +kernel
theorem D71_43 : decode (cod 71) 43 = .ok (.aload 6, 2) := by rw [cc_71]; decide +kernel
theorem D71_45 : decode (cod 71) 45 = .ok (.iconst 0, 1) := by rw [cc_71]; decide +kernel
theorem D71_46 : decode (cod 71) 46 = .ok (.iload_n 2, 1) := by rw [cc_71]; decide +kernel
theorem D71_47 : decode (cod 71) 47 = .ok (.invokevirtual 90, 3) := by rw [cc_71]; decide +kernel
theorem D71_50 : decode (cod 71) 50 = .ok (.aload 6, 2) := by rw [cc_71]; decide +kernel
theorem D71_52 : decode (cod 71) 52 = .ok (.iconst 4, 1) := by rw [cc_71]; decide +kernel
theorem D71_53 : decode (cod 71) 53 = .ok (.iload_n 3, 1) := by rw [cc_71]; decide +kernel
theorem D71_54 : decode (cod 71) 54 = .ok (.invokevirtual 90, 3) := by rw [cc_71]; decide +kernel
theorem D71_57 : decode (cod 71) 57 = .ok (.aload 6, 2) := by rw [cc_71]; decide +kernel
theorem D71_59 : decode (cod 71) 59 = .ok (.bipush 8, 2) := by rw [cc_71]; decide +kernel
theorem D71_61 : decode (cod 71) 61 = .ok (.iload 4, 2) := by rw [cc_71]; decide +kernel
theorem D71_63 : decode (cod 71) 63 = .ok (.invokevirtual 90, 3) := by rw [cc_71]; decide +kernel
theorem D71_66 : decode (cod 71) 66 = .ok (.aload 6, 2) := by rw [cc_71]; decide +kernel
theorem D71_68 : decode (cod 71) 68 = .ok (.bipush 12, 2) := by rw [cc_71]; decide +kernel
theorem D71_70 : decode (cod 71) 70 = .ok (.iload 5, 2) := by rw [cc_71]; decide +kernel
theorem D71_72 : decode (cod 71) 72 = .ok (.invokevirtual 90, 3) := by rw [cc_71]; decide +kernel
theorem D71_75 : decode (cod 71) 75 = .ok (.aload_n 0, 1) := by rw [cc_71]; decide +kernel
theorem D71_76 : decode (cod 71) 76 = .ok (.dup, 1) := by rw [cc_71]; decide +kernel
theorem D71_77 : decode (cod 71) 77 = .ok (.getfield 80, 3) := by rw [cc_71]; decide +kernel
theorem D71_80 : decode (cod 71) 80 = .ok (.iconst 1, 1) := by rw [cc_71]; decide +kernel
theorem D71_81 : decode (cod 71) 81 = .ok (.iadd, 1) := by rw [cc_71]; decide +kernel
theorem D71_82 : decode (cod 71) 82 = .ok (.putfield 80, 3) := by rw [cc_71]; decide +kernel
theorem D71_85 : decode (cod 71) 85 = .ok (.aload_n 0, 1) := by rw [cc_71]; decide +kernel
theorem D71_86 : decode (cod 71) 86 = .ok (.getfield 80, 3) := by rw [cc_71]; decide +kernel
theorem D71_89 : decode (cod 71) 89 = .ok (.iconst 1, 1) := by rw [cc_71]; decide +kernel
theorem D71_90 : decode (cod 71) 90 = .ok (.isub, 1) := by rw [cc_71]; decide +kernel
theorem D71_91 : decode (cod 71) 91 = .ok (.ireturn, 1) := by rw [cc_71]; decide +kernel
theorem b71_0 {d : Nat} {i0 : Nat} {x1 x2 x3 x4 x5 : Int} {I L : Nat → Nat → Nat → Int} {t : Nat → Nat} : Res (d + 1) 71 0 [vr 11 i0, vi x1, vi x2, vi x3, vi x4, vi x5, vx] [] (mk I L t) = (Cal d 102 [vi x1, vi 0, vi 5] (mk I L t)).bind fun v => Res (d + 1) 71 6 [vr 11 i0, vi x1, vi x2, vi x3, vi x4, vi x5, vx] (psh 102 v.1 []) v.2 :=
  Eq.trans (e_iload_n D71_0 rfl rfl) <| Eq.trans (e_iconst (x := 0) D71_1 rfl rfl) <| Eq.trans (e_iconst (x := 5) D71_2 rfl rfl) <| e_callS D71_3 rfl o_71 m_11_76 (by decide) rfl rfl
theorem b71_6 {d : Nat} {i0 : Nat} {x1 x2 x3 x4 x5 xs0 : Int} {I L : Nat → Nat → Nat → Int} {t : Nat → Nat} : Res d 71 6 [vr 11 i0, vi x1, vi x2, vi x3, vi x4, vi x5, vx] [vi xs0] (mk I L t) = if xs0 = 0 then Res d 71 18 [vr 11 i0, vi x1, vi x2, vi x3, vi x4, vi x5, vx] [] (mk I L t) else Res d 71 9 [vr 11 i0, vi x1, vi x2, vi x3, vi x4, vi x5, vx] [] (mk I L t) :=
  e_ifeq D71_6 rfl rfl
theorem b71_9 {d : Nat} {i0 : Nat} {x1 x2 x3 x4 x5 : Int} {I L : Nat → Nat → Nat → Int} {t : Nat → Nat} : Res d 71 9 [vr 11 i0, vi x1, vi x2, vi x3, vi x4, vi x5, vx] [] (mk I L t) = if I 11 i0 10 < 120 then Res d 71 20 [vr 11 i0, vi x1, vi x2, vi x3, vi x4, vi x5, vx] [] (mk I L t) else Res d 71 18 [vr 11 i0, vi x1, vi x2, vi x3, vi x4, vi x5, vx] [] (mk I L t) :=
  Eq.trans (e_aload_n D71_9 rfl rfl) <| Eq.trans (e_getI D71_10 rfl o_71 f_11_80 (sh_11 _) (by decide)) <| Eq.trans (e_bipush (x := 120) D71_13 rfl rfl) <| e_iclt D71_15 rfl rfl
theorem b71_18 {d : Nat} {i0 : Nat} {x1 x2 x3 x4 x5 : Int} {I L : Nat → Nat → Nat → Int} {t : Nat → Nat} : Res d 71 18 [vr 11 i0, vi x1, vi x2, vi x3, vi x4, vi x5, vx] [] (mk I L t) = some (vi (-1), (mk I L t)) :=
  Eq.trans (e_iconst (x := -1) D71_18 rfl rfl) <| e_iret D71_19 rfl
theorem b71_20 {d : Nat} {i0 : Nat} {x1 x2 x3 x4 x5 : Int} {I L : Nat → Nat → Nat → Int} {t : Nat → Nat} (g1 : 0 ≤ I 11 i0 10 ∧ I 11 i0 10 < 120) : Res (d + 1) 71 20 [vr 11 i0, vi x1, vi x2, vi x3, vi x4, vi x5, vx] [] (mk I L t) = (Cal d 9 [vr 1 ((I 11 i0 10).toNat), vi 0, vi x2] (mk (up3 (up3 I 1 ((I 11 i0 10).toNat) 1 x1) 1 ((I 11 i0 10).toNat) 2 (-1)) L t)).bind fun v => Res (d + 1) 71 50 [vr 11 i0, vi x1, vi x2, vi x3, vi x4, vi x5, vr 1 ((I 11 i0 10).toNat)] (psh 9 v.1 []) v.2 :=
  Eq.trans (e_aload_n D71_20 rfl rfl) <| Eq.trans (e_getP (p := (40, i0)) D71_21 rfl o_71 f_11_11 (sh_11 _) (by decide) (pp_11_0 _ _)) <| Eq.trans (e_aload_n D71_24 rfl rfl) <| Eq.trans (e_getI D71_25 rfl o_71 f_11_80 (sh_11 _) (by decide)) <| Eq.trans (e_aald (p := (1, (I 11 i0 10).toNat)) D71_28 rfl (ae_40 _) (aq_40 _) (pa_40 _ _ _) g1) <| Eq.trans (e_astore (ls1 := [vr 11 i0, vi x1, vi x2, vi x3, vi x4, vi x5, vr 1 ((I 11 i0 10).toNat)]) D71_29 rfl (show 6 < 7 by decide) rfl) <| Eq.trans (e_aload D71_31 rfl rfl) <| Eq.trans (e_iload_n D71_33 rfl rfl) <| Eq.trans (e_putI D71_34 rfl o_71 f_11_84 (sh_1 _) rfl (by decide) (Or.inl (by decide))) <| Eq.trans (e_aload D71_37 rfl rfl) <| Eq.trans (e_iconst (x := -1) D71_39 rfl rfl) <| Eq.trans (e_putI D71_40 rfl o_71 f_11_87 (sh_1 _) rfl (by decide) (Or.inl (by decide))) <| Eq.trans (e_aload D71_43 rfl rfl) <| Eq.trans (e_iconst (x := 0) D71_45 rfl rfl) <| Eq.trans (e_iload_n D71_46 rfl rfl) <| e_callV D71_47 rfl o_71 m_11_90 (by decide) rfl rfl
theorem b71_50 {d : Nat} {i0 i6 : Nat} {x1 x2 x3 x4 x5 : Int} {I L : Nat → Nat → Nat → Int} {t : Nat → Nat} : Res (d + 1) 71 50 [vr 11 i0, vi x1, vi x2, vi x3, vi x4, vi x5, vr 1 i6] [] (mk I L t) = (Cal d 9 [vr 1 i6, vi 4, vi x3] (mk I L t)).bind fun v => Res (d + 1) 71 57 [vr 11 i0, vi x1, vi x2, vi x3, vi x4, vi x5, vr 1 i6] (psh 9 v.1 []) v.2 :=
  Eq.trans (e_aload D71_50 rfl rfl) <| Eq.trans (e_iconst (x := 4) D71_52 rfl rfl) <| Eq.trans (e_iload_n D71_53 rfl rfl) <| e_callV D71_54 rfl o_71 m_11_90 (by decide) rfl rfl
theorem b71_57 {d : Nat} {i0 i6 : Nat} {x1 x2 x3 x4 x5 : Int} {I L : Nat → Nat → Nat → Int} {t : Nat → Nat} : Res (d + 1) 71 57 [vr 11 i0, vi x1, vi x2, vi x3, vi x4, vi x5, vr 1 i6] [] (mk I L t) = (Cal d 9 [vr 1 i6, vi 8, vi x4] (mk I L t)).bind fun v => Res (d + 1) 71 66 [vr 11 i0, vi x1, vi x2, vi x3, vi x4, vi x5, vr 1 i6] (psh 9 v.1 []) v.2 :=
  Eq.trans (e_aload D71_57 rfl rfl) <| Eq.trans (e_bipush (x := 8) D71_59 rfl rfl) <| Eq.trans (e_iload D71_61 rfl rfl) <| e_callV D71_63 rfl o_71 m_11_90 (by decide) rfl rfl
theorem b71_66 {d : Nat} {i0 i6 : Nat} {x1 x2 x3 x4 x5 : Int} {I L : Nat → Nat → Nat → Int} {t : Nat → Nat} : Res (d + 1) 71 66 [vr 11 i0, vi x1, vi x2, vi x3, vi x4, vi x5, vr 1 i6] [] (mk I L t) = (Cal d 9 [vr 1 i6, vi 12, vi x5] (mk I L t)).bind fun v => Res (d + 1) 71 75 [vr 11 i0, vi x1, vi x2, vi x3, vi x4, vi x5, vr 1 i6] (psh 9 v.1 []) v.2 :=
  Eq.trans (e_aload D71_66 rfl rfl) <| Eq.trans (e_bipush (x := 12) D71_68 rfl rfl) <| Eq.trans (e_iload D71_70 rfl rfl) <| e_callV D71_72 rfl o_71 m_11_90 (by decide) rfl rfl
theorem b71_75 {d : Nat} {i0 i6 : Nat} {x1 x2 x3 x4 x5 : Int} {I L : Nat → Nat → Nat → Int} {t : Nat → Nat} : Res d 71 75 [vr 11 i0, vi x1, vi x2, vi x3, vi x4, vi x5, vr 1 i6] [] (mk I L t) = some (vi (w32 (((up3 I 11 i0 10 (w32 ((I 11 i0 10) + 1))) 11 i0 10) - 1)), (mk (up3 I 11 i0 10 (w32 ((I 11 i0 10) + 1))) L t)) :=
  Eq.trans (e_aload_n D71_75 rfl rfl) <| Eq.trans (e_dup D71_76 rfl) <| Eq.trans (e_getI D71_77 rfl o_71 f_11_80 (sh_11 _) (by decide)) <| Eq.trans (e_iconst (x := 1) D71_80 rfl rfl) <| Eq.trans (e_iadd D71_81 rfl) <| Eq.trans (e_putI D71_82 rfl o_71 f_11_80 (sh_11 _) rfl (by decide) (Or.inl (by decide))) <| Eq.trans (e_aload_n D71_85 rfl rfl) <| Eq.trans (e_getI D71_86 rfl o_71 f_11_80 (sh_11 _) (by decide)) <| Eq.trans (e_iconst (x := 1) D71_89 rfl rfl) <| Eq.trans (e_isub D71_90 rfl) <| e_iret D71_91 rfl
/-! x_number -/
theorem cc_72 : cod 72 = cX11_number := rfl
theorem D72_0 : decode (cod 72) 0 = .ok (.aload_n 0, 1) := by rw [cc_72]; decide +kernel
theorem D72_1 : decode (cod 72) 1 = .ok (.iload_n 1, 1) := by rw [cc_72]; decide +kernel
theorem D72_2 : decode (cod 72) 2 = .ok (.invokevirtual 94, 3) := by rw [cc_72]; decide +kernel
theorem D72_5 : decode (cod 72) 5 = .ok (.ifCond .ne 5, 3) := by rw [cc_72]; decide +kernel
theorem D72_8 : decode (cod 72) 8 = .ok (.iconst (-1), 1) := by rw [cc_72]; decide +kernel
theorem D72_9 : decode (cod 72) 9 = .ok (.ireturn, 1) := by rw [cc_72]; decide +kernel
theorem D72_10 : decode (cod 72) 10 = .ok (.aload_n 0, 1) := by rw [cc_72]; decide +kernel
theorem D72_11 : decode (cod 72) 11 = .ok (.getfield 11, 3) := by rw [cc_72]; decide +kernel
theorem D72_14 : decode (cod 72) 14 = .ok (.iload_n 1, 1) := by rw [cc_72]; decide +kernel
theorem D72_15 : decode (cod 72) 15 = .ok (.aaload, 1) := by rw [cc_72]; decide +kernel
theorem D72_16 : decode (cod 72) 16 = .ok (.astore_n 3, 1) := by rw [cc_72]; decide +kernel
theorem D72_17 : decode (cod 72) 17 = .ok (.iload_n 2, 1) := by rw [cc_72]; decide +kernel
theorem D72_18 : decode (cod 72) 18 = .ok (.iconst 0, 1) := by rw [cc_72]; decide +kernel
theorem D72_19 : decode (cod 72) 19 = .ok (.bipush 15, 2) := by rw [cc_72]; decide +kernel
theorem D72_21 : decode (cod 72) 21 = .ok (.invokestatic 76, 3) := by rw [cc_72]; decide +kernel
theorem D72_24 : decode (cod 72) 24 = .ok (.ifCond .eq 10, 3) := by rw [cc_72]; decide +kernel
theorem D72_27 : decode (cod 72) 27 = .ok (.aload_n 3, 1) := by rw [cc_72]; decide +kernel
theorem D72_28 : decode (cod 72) 28 = .ok (.getfield 98, 3) := by rw [cc_72]; decide +kernel
theorem D72_31 : decode (cod 72) 31 = .ok (.iload_n 2, 1) := by rw [cc_72]; decide +kernel
theorem D72_32 : decode (cod 72) 32 = .ok (.iaload, 1) := by rw [cc_72]; decide +kernel
theorem D72_33 : decode (cod 72) 33 = .ok (.ireturn, 1) := by rw [cc_72]; decide +kernel
theorem D72_34 : decode (cod 72) 34 = .ok (.iload_n 2, 1) := by rw [cc_72]; decide +kernel
theorem D72_35 : decode (cod 72) 35 = .ok (.bipush 16, 2) := by rw [cc_72]; decide +kernel
theorem D72_37 : decode (cod 72) 37 = .ok (.if_icmp .ne 8, 3) := by rw [cc_72]; decide +kernel
theorem D72_40 : decode (cod 72) 40 = .ok (.aload_n 3, 1) := by rw [cc_72]; decide +kernel
theorem D72_41 : decode (cod 72) 41 = .ok (.getfield 84, 3) := by rw [cc_72]; decide +kernel
theorem D72_44 : decode (cod 72) 44 = .ok (.ireturn, 1) := by rw [cc_72]; decide +kernel
theorem D72_45 : decode (cod 72) 45 = .ok (.iload_n 2, 1) := by rw [cc_72]; decide +kernel
theorem D72_46 : decode (cod 72) 46 = .ok (.bipush 17, 2) := by rw [cc_72]; decide +kernel
theorem D72_48 : decode (cod 72) 48 = .ok (.if_icmp .ne 10, 3) := by rw [cc_72]; decide +kernel
theorem D72_51 : decode (cod 72) 51 = .ok (.aload_n 3, 1) := by rw [cc_72]; decide +kernel
theorem D72_52 : decode (cod 72) 52 = .ok (.getfield 87, 3) := by rw [cc_72]; decide +kernel
theorem D72_55 : decode (cod 72) 55 = .ok (.goto 4, 3) := by rw [cc_72]; decide +kernel
theorem D72_58 : decode (cod 72) 58 = .ok (.iconst (-1), 1) := by rw [cc_72]; decide +kernel
theorem D72_59 : decode (cod 72) 59 = .ok (.ireturn, 1) := by rw [cc_72]; decide +kernel
theorem b72_0 {d : Nat} {i0 : Nat} {x1 x2 : Int} {I L : Nat → Nat → Nat → Int} {t : Nat → Nat} : Res (d + 1) 72 0 [vr 11 i0, vi x1, vi x2, vx] [] (mk I L t) = (Cal d 104 [vr 11 i0, vi x1] (mk I L t)).bind fun v => Res (d + 1) 72 5 [vr 11 i0, vi x1, vi x2, vx] (psh 104 v.1 []) v.2 :=
  Eq.trans (e_aload_n D72_0 rfl rfl) <| Eq.trans (e_iload_n D72_1 rfl rfl) <| e_callV D72_2 rfl o_72 m_11_94 (by decide) rfl rfl
theorem b72_5 {d : Nat} {i0 : Nat} {x1 x2 xs0 : Int} {I L : Nat → Nat → Nat → Int} {t : Nat → Nat} : Res d 72 5 [vr 11 i0, vi x1, vi x2, vx] [vi xs0] (mk I L t) = if ¬ xs0 = 0 then Res d 72 10 [vr 11 i0, vi x1, vi x2, vx] [] (mk I L t) else Res d 72 8 [vr 11 i0, vi x1, vi x2, vx] [] (mk I L t) :=
  e_ifne D72_5 rfl rfl
theorem b72_8 {d : Nat} {i0 : Nat} {x1 x2 : Int} {I L : Nat → Nat → Nat → Int} {t : Nat → Nat} : Res d 72 8 [vr 11 i0, vi x1, vi x2, vx] [] (mk I L t) = some (vi (-1), (mk I L t)) :=
  Eq.trans (e_iconst (x := -1) D72_8 rfl rfl) <| e_iret D72_9 rfl
theorem b72_10 {d : Nat} {i0 : Nat} {x1 x2 : Int} {I L : Nat → Nat → Nat → Int} {t : Nat → Nat} (g1 : 0 ≤ x1 ∧ x1 < 120) : Res (d + 1) 72 10 [vr 11 i0, vi x1, vi x2, vx] [] (mk I L t) = (Cal d 102 [vi x2, vi 0, vi 15] (mk I L t)).bind fun v => Res (d + 1) 72 24 [vr 11 i0, vi x1, vi x2, vr 1 x1.toNat] (psh 102 v.1 []) v.2 :=
  Eq.trans (e_aload_n D72_10 rfl rfl) <| Eq.trans (e_getP (p := (40, i0)) D72_11 rfl o_72 f_11_11 (sh_11 _) (by decide) (pp_11_0 _ _)) <| Eq.trans (e_iload_n D72_14 rfl rfl) <| Eq.trans (e_aald (p := (1, x1.toNat)) D72_15 rfl (ae_40 _) (aq_40 _) (pa_40 _ _ _) g1) <| Eq.trans (e_astore_n (ls1 := [vr 11 i0, vi x1, vi x2, vr 1 x1.toNat]) D72_16 rfl (show 3 < 4 by decide) rfl) <| Eq.trans (e_iload_n D72_17 rfl rfl) <| Eq.trans (e_iconst (x := 0) D72_18 rfl rfl) <| Eq.trans (e_bipush (x := 15) D72_19 rfl rfl) <| e_callS D72_21 rfl o_72 m_11_76 (by decide) rfl rfl
theorem b72_24 {d : Nat} {i0 i3 : Nat} {x1 x2 xs0 : Int} {I L : Nat → Nat → Nat → Int} {t : Nat → Nat} : Res d 72 24 [vr 11 i0, vi x1, vi x2, vr 1 i3] [vi xs0] (mk I L t) = if xs0 = 0 then Res d 72 34 [vr 11 i0, vi x1, vi x2, vr 1 i3] [] (mk I L t) else Res d 72 27 [vr 11 i0, vi x1, vi x2, vr 1 i3] [] (mk I L t) :=
  e_ifeq D72_24 rfl rfl
theorem b72_27 {d : Nat} {i0 i3 : Nat} {x1 x2 : Int} {I L : Nat → Nat → Nat → Int} {t : Nat → Nat} (g1 : 0 ≤ x2 ∧ x2 < 16) : Res d 72 27 [vr 11 i0, vi x1, vi x2, vr 1 i3] [] (mk I L t) = some (vi (I 22 i3 x2.toNat), (mk I L t)) :=
  Eq.trans (e_aload_n D72_27 rfl rfl) <| Eq.trans (e_getP (p := (22, i3)) D72_28 rfl o_72 f_11_98 (sh_1 _) (by decide) (pp_1_0 _ _)) <| Eq.trans (e_iload_n D72_31 rfl rfl) <| Eq.trans (e_iald D72_32 rfl (al_22 _) g1) <| e_iret D72_33 rfl
theorem b72_34 {d : Nat} {i0 i3 : Nat} {x1 x2 : Int} {I L : Nat → Nat → Nat → Int} {t : Nat → Nat} : Res d 72 34 [vr 11 i0, vi x1, vi x2, vr 1 i3] [] (mk I L t) = if ¬ x2 = 16 then Res d 72 45 [vr 11 i0, vi x1, vi x2, vr 1 i3] [] (mk I L t) else Res d 72 40 [vr 11 i0, vi x1, vi x2, vr 1 i3] [] (mk I L t) :=
  Eq.trans (e_iload_n D72_34 rfl rfl) <| Eq.trans (e_bipush (x := 16) D72_35 rfl rfl) <| e_icne D72_37 rfl rfl
theorem b72_40 {d : Nat} {i0 i3 : Nat} {x1 x2 : Int} {I L : Nat → Nat → Nat → Int} {t : Nat → Nat} : Res d 72 40 [vr 11 i0, vi x1, vi x2, vr 1 i3] [] (mk I L t) = some (vi (I 1 i3 1), (mk I L t)) :=
  Eq.trans (e_aload_n D72_40 rfl rfl) <| Eq.trans (e_getI D72_41 rfl o_72 f_11_84 (sh_1 _) (by decide)) <| e_iret D72_44 rfl
theorem b72_45 {d : Nat} {i0 i3 : Nat} {x1 x2 : Int} {I L : Nat → Nat → Nat → Int} {t : Nat → Nat} : Res d 72 45 [vr 11 i0, vi x1, vi x2, vr 1 i3] [] (mk I L t) = if ¬ x2 = 17 then Res d 72 58 [vr 11 i0, vi x1, vi x2, vr 1 i3] [] (mk I L t) else Res d 72 51 [vr 11 i0, vi x1, vi x2, vr 1 i3] [] (mk I L t) :=
  Eq.trans (e_iload_n D72_45 rfl rfl) <| Eq.trans (e_bipush (x := 17) D72_46 rfl rfl) <| e_icne D72_48 rfl rfl
theorem b72_51 {d : Nat} {i0 i3 : Nat} {x1 x2 : Int} {I L : Nat → Nat → Nat → Int} {t : Nat → Nat} : Res d 72 51 [vr 11 i0, vi x1, vi x2, vr 1 i3] [] (mk I L t) = Res d 72 59 [vr 11 i0, vi x1, vi x2, vr 1 i3] [vi (I 1 i3 2)] (mk I L t) :=
  Eq.trans (e_aload_n D72_51 rfl rfl) <| Eq.trans (e_getI D72_52 rfl o_72 f_11_87 (sh_1 _) (by decide)) <| e_goto (q1 := 59) D72_55 rfl
theorem b72_58 {d : Nat} {i0 i3 : Nat} {x1 x2 : Int} {I L : Nat → Nat → Nat → Int} {t : Nat → Nat} : Res d 72 58 [vr 11 i0, vi x1, vi x2, vr 1 i3] [] (mk I L t) = Res d 72 59 [vr 11 i0, vi x1, vi x2, vr 1 i3] [vi (-1)] (mk I L t) :=
  e_iconst (x := -1) D72_58 rfl rfl
theorem b72_59 {d : Nat} {i0 i3 : Nat} {x1 x2 xs0 : Int} {I L : Nat → Nat → Nat → Int} {t : Nat → Nat} : Res d 72 59 [vr 11 i0, vi x1, vi x2, vr 1 i3] [vi xs0] (mk I L t) = some (vi xs0, (mk I L t)) :=
  e_iret D72_59 rfl
/-! x_type -/
theorem cc_73 : cod 73 = cX11_type := rfl
theorem D73_0 : decode (cod 73) 0 = .ok (.iload_n 1, 1) := by rw [cc_73]; decide +kernel
theorem D73_1 : decode (cod 73) 1 = .ok (.iconst 0, 1) := by rw [cc_73]; decide +kernel
theorem D73_2 : decode (cod 73) 2 = .ok (.iconst 5, 1) := by rw [cc_73]; decide +kernel
theorem D73_3 : decode (cod 73) 3 = .ok (.invokestatic 76, 3) := by rw [cc_73]; decide +kernel
theorem D73_6 : decode (cod 73) 6 = .ok (.ifCond .eq 11, 3) := by rw [cc_73]; decide +kernel
theorem D73_9 : decode (cod 73) 9 = .ok (.aload_n 0, 1) := by rw [cc_73]; decide +kernel
theorem D73_10 : decode (cod 73) 10 = .ok (.iload_n 2, 1) := by rw [cc_73]; decide +kernel
theorem D73_11 : decode (cod 73) 11 = .ok (.invokevirtual 94, 3) := by rw [cc_73]; decide +kernel
theorem D73_14 : decode (cod 73) 14 = .ok (.ifCond .ne 5, 3) := by rw [cc_73]; decide +kernel
theorem D73_17 : decode (cod 73) 17 = .ok (.iconst 0, 1) := by rw [cc_73]; decide +kernel
theorem D73_18 : decode (cod 73) 18 = .ok (.ireturn, 1) := by rw [cc_73]; decide +kernel
theorem D73_19 : decode (cod 73) 19 = .ok (.aload_n 0, 1) := by rw [cc_73]; decide +kernel
theorem D73_20 : decode (cod 73) 20 = .ok (.getfield 11, 3) := by rw [cc_73]; decide +kernel
theorem D73_23 : decode (cod 73) 23 = .ok (.iload_n 2, 1) := by rw [cc_73]; decide +kernel
theorem D73_24 : decode (cod 73) 24 = .ok (.aaload, 1) := by rw [cc_73]; decide +kernel
theorem D73_25 : decode (cod 73) 25 = .ok (.getfield 98, 3) := by rw [cc_73]; decide +kernel
theorem D73_28 : decode (cod 73) 28 = .ok (.iconst 0, 1) := by rw [cc_73]; decide +kernel
theorem D73_29 : decode (cod 73) 29 = .ok (.aload_n 0, 1) := by rw [cc_73]; decide +kernel
theorem D73_30 : decode (cod 73) 30 = .ok (.getfield 17, 3) := by rw [cc_73]; decide +kernel
theorem D73_33 : decode (cod 73) 33 = .ok (.iload_n 1, 1) := by rw [cc_73]; decide +kernel
theorem D73_34 : decode (cod 73) 34 = .ok (.aaload, 1) := by rw [cc_73]; decide +kernel
theorem D73_35 : decode (cod 73) 35 = .ok (.iconst 0, 1) := by rw [cc_73]; decide +kernel
theorem D73_36 : decode (cod 73) 36 = .ok (.bipush 16, 2) := by rw [cc_73]; decide +kernel
theorem D73_38 : decode (cod 73) 38 = .ok (.invokestatic 101, 3) := by rw [cc_73]; decide +kernel
theorem D73_41 : decode (cod 73) 41 = .ok (.iconst 1, 1) := by rw [cc_73]; decide +kernel
theorem D73_42 : decode (cod 73) 42 = .ok (.ireturn, 1) := by rw [cc_73]; decide +kernel
theorem b73_0 {d : Nat} {i0 : Nat} {x1 x2 : Int} {I L : Nat → Nat → Nat → Int} {t : Nat → Nat} : Res (d + 1) 73 0 [vr 11 i0, vi x1, vi x2] [] (mk I L t) = (Cal d 102 [vi x1, vi 0, vi 5] (mk I L t)).bind fun v => Res (d + 1) 73 6 [vr 11 i0, vi x1, vi x2] (psh 102 v.1 []) v.2 :=
  Eq.trans (e_iload_n D73_0 rfl rfl) <| Eq.trans (e_iconst (x := 0) D73_1 rfl rfl) <| Eq.trans (e_iconst (x := 5) D73_2 rfl rfl) <| e_callS D73_3 rfl o_73 m_11_76 (by decide) rfl rfl
theorem b73_6 {d : Nat} {i0 : Nat} {x1 x2 xs0 : Int} {I L : Nat → Nat → Nat → Int} {t : Nat → Nat} : Res d 73 6 [vr 11 i0, vi x1, vi x2] [vi xs0] (mk I L t) = if xs0 = 0 then Res d 73 17 [vr 11 i0, vi x1, vi x2] [] (mk I L t) else Res d 73 9 [vr 11 i0, vi x1, vi x2] [] (mk I L t) :=
  e_ifeq D73_6 rfl rfl
theorem b73_9 {d : Nat} {i0 : Nat} {x1 x2 : Int} {I L : Nat → Nat → Nat → Int} {t : Nat → Nat} : Res (d + 1) 73 9 [vr 11 i0, vi x1, vi x2] [] (mk I L t) = (Cal d 104 [vr 11 i0, vi x2] (mk I L t)).bind fun v => Res (d + 1) 73 14 [vr 11 i0, vi x1, vi x2] (psh 104 v.1 []) v.2 :=
  Eq.trans (e_aload_n D73_9 rfl rfl) <| Eq.trans (e_iload_n D73_10 rfl rfl) <| e_callV D73_11 rfl o_73 m_11_94 (by decide) rfl rfl
theorem b73_14 {d : Nat} {i0 : Nat} {x1 x2 xs0 : Int} {I L : Nat → Nat → Nat → Int} {t : Nat → Nat} : Res d 73 14 [vr 11 i0, vi x1, vi x2] [vi xs0] (mk I L t) = if ¬ xs0 = 0 then Res d 73 19 [vr 11 i0, vi x1, vi x2] [] (mk I L t) else Res d 73 17 [vr 11 i0, vi x1, vi x2] [] (mk I L t) :=
  e_ifne D73_14 rfl rfl
theorem b73_17 {d : Nat} {i0 : Nat} {x1 x2 : Int} {I L : Nat → Nat → Nat → Int} {t : Nat → Nat} : Res d 73 17 [vr 11 i0, vi x1, vi x2] [] (mk I L t) = some (vi 0, (mk I L t)) :=
  Eq.trans (e_iconst (x := 0) D73_17 rfl rfl) <| e_iret D73_18 rfl
theorem b73_19 {d : Nat} {i0 : Nat} {x1 x2 : Int} {I L : Nat → Nat → Nat → Int} {t : Nat → Nat} (g1 : 0 ≤ x2 ∧ x2 < 120) (g2 : 0 ≤ x1 ∧ x1 < 6) : Res (d + 1) 73 19 [vr 11 i0, vi x1, vi x2] [] (mk I L t) = some (vi 1, (mk (cpI I 22 x2.toNat 0 115 x1.toNat 0 16) L t)) :=
  Eq.trans (e_aload_n D73_19 rfl rfl) <| Eq.trans (e_getP (p := (40, i0)) D73_20 rfl o_73 f_11_11 (sh_11 _) (by decide) (pp_11_0 _ _)) <| Eq.trans (e_iload_n D73_23 rfl rfl) <| Eq.trans (e_aald (p := (1, x2.toNat)) D73_24 rfl (ae_40 _) (aq_40 _) (pa_40 _ _ _) g1) <| Eq.trans (e_getP (p := (22, x2.toNat)) D73_25 rfl o_73 f_11_98 (sh_1 _) (by decide) (pp_1_0 _ _)) <| Eq.trans (e_iconst (x := 0) D73_28 rfl rfl) <| Eq.trans (e_aload_n D73_29 rfl rfl) <| Eq.trans (e_getP (p := (41, i0)) D73_30 rfl o_73 f_11_17 (sh_11 _) (by decide) (pp_11_1 _ _)) <| Eq.trans (e_iload_n D73_33 rfl rfl) <| Eq.trans (e_aald (p := (115, x1.toNat)) D73_34 rfl (ae_41 _) (aq_41 _) (pa_41 _ _ _) g2) <| Eq.trans (e_iconst (x := 0) D73_35 rfl rfl) <| Eq.trans (e_bipush (x := 16) D73_36 rfl rfl) <| Eq.trans (e_acpy (by omega) D73_38 rfl o_73 m_11_101 rfl rfl (al_22 _) (al_115 _) (by decide)) <| Eq.trans (e_iconst (x := 1) D73_41 rfl rfl) <| e_iret D73_42 rfl
/-! x_put -/
theorem cc_74 : cod 74 = cX11_put := rfl
theorem D74_0 : decode (cod 74) 0 = .ok (.aload_n 0, 1) := by rw [cc_74]; decide +kernel
theorem D74_1 : decode (cod 74) 1 = .ok (.iload_n 1, 1) := by rw [cc_74]; decide +kernel
theorem D74_2 : decode (cod 74) 2 = .ok (.invokevirtual 107, 3) := by rw [cc_74]; decide +kernel
theorem D74_5 : decode (cod 74) 5 = .ok (.ifCond .eq 16, 3) := by rw [cc_74]; decide +kernel
theorem D74_8 : decode (cod 74) 8 = .ok (.iload_n 2, 1) := by rw [cc_74]; decide +kernel
theorem D74_9 : decode (cod 74) 9 = .ok (.iconst (-1), 1) := by rw [cc_74]; decide +kernel
theorem D74_10 : decode (cod 74) 10 = .ok (.if_icmp .eq 13, 3) := by rw [cc_74]; decide +kernel
theorem D74_13 : decode (cod 74) 13 = .ok (.aload_n 0, 1) := by rw [cc_74]; decide +kernel
theorem D74_14 : decode (cod 74) 14 = .ok (.iload_n 2, 1) := by rw [cc_74]; decide +kernel
theorem D74_15 : decode (cod 74) 15 = .ok (.invokevirtual 94, 3) := by rw [cc_74]; decide +kernel
theorem D74_18 : decode (cod 74) 18 = .ok (.ifCond .ne 5, 3) := by rw [cc_74]; decide +kernel
theorem D74_21 : decode (cod 74) 21 = .ok (.iconst (-1), 1) := by rw [cc_74]; decide +kernel
theorem D74_22 : decode (cod 74) 22 = .ok (.ireturn, 1) := by rw [cc_74]; decide +kernel
theorem D74_23 : decode (cod 74) 23 = .ok (.aload_n 0, 1) := by rw [cc_74]; decide +kernel
theorem D74_24 : decode (cod 74) 24 = .ok (.getfield 22, 3) := by rw [cc_74]; decide +kernel
theorem D74_27 : decode (cod 74) 27 = .ok (.iload_n 1, 1) := by rw [cc_74]; decide +kernel
theorem D74_28 : decode (cod 74) 28 = .ok (.aaload, 1) := by rw [cc_74]; decide +kernel
theorem D74_29 : decode (cod 74) 29 = .ok (.astore_n 3, 1) := by rw [cc_74]; decide +kernel
theorem D74_30 : decode (cod 74) 30 = .ok (.aload_n 3, 1) := by rw [cc_74]; decide +kernel
theorem D74_31 : decode (cod 74) 31 = .ok (.getfield 110, 3) := by rw [cc_74]; decide +kernel
theorem D74_34 : decode (cod 74) 34 = .ok (.bipush 9, 2) := by rw [cc_74]; decide +kernel
theorem D74_36 : decode (cod 74) 36 = .ok (.if_icmp .lt 5, 3) := by rw [cc_74]; decide +kernel
theorem D74_39 : decode (cod 74) 39 = .ok (.iconst (-1), 1) := by rw [cc_74]; decide +kernel
theorem D74_40 : decode (cod 74) 40 = .ok (.ireturn, 1) := by rw [cc_74]; decide +kernel
theorem D74_41 : decode (cod 74) 41 = .ok (.aload_n 3, 1) := by rw [cc_74]; decide +kernel
theorem D74_42 : decode (cod 74) 42 = .ok (.getfield 113, 3) := by rw [cc_74]; decide +kernel
theorem D74_45 : decode (cod 74) 45 = .ok (.aload_n 3, 1) := by rw [cc_74]; decide +kernel
theorem D74_46 : decode (cod 74) 46 = .ok (.getfield 110, 3) := by rw [cc_74]; decide +kernel
theorem D74_49 : decode (cod 74) 49 = .ok (.iload_n 2, 1) := by rw [cc_74]; decide +kernel
theorem D74_50 : decode (cod 74) 50 = .ok (.iastore, 1) := by rw [cc_74]; decide +kernel
theorem D74_51 : decode (cod 74) 51 = .ok (.aload_n 3, 1) := by rw [cc_74]; decide +kernel
theorem D74_52 : decode (cod 74) 52 = .ok (.dup, 1) := by rw [cc_74]; decide +kernel
theorem D74_53 : decode (cod 74) 53 = .ok (.getfield 110, 3) := by rw [cc_74]; decide +kernel
theorem D74_56 : decode (cod 74) 56 = .ok (.iconst 1, 1) := by rw [cc_74]; decide +kernel
theorem D74_57 : decode (cod 74) 57 = .ok (.iadd, 1) := by rw [cc_74]; decide +kernel
theorem D74_58 : decode (cod 74) 58 = .ok (.putfield 110, 3) := by rw [cc_74]; decide +kernel
theorem D74_61 : decode (cod 74) 61 = .ok (.aload_n 3, 1) := by rw [cc_74]; decide +kernel
theorem D74_62 : decode (cod 74) 62 = .ok (.getfield 110, 3) := by rw [cc_74]; decide +kernel
theorem D74_65 : decode (cod 74) 65 = .ok (.ireturn, 1) := by rw [cc_74]; decide +kernel
theorem b74_0 {d : Nat} {i0 : Nat} {x1 x2 : Int} {I L : Nat → Nat → Nat → Int} {t : Nat → Nat} : Res (d + 1) 74 0 [vr 11 i0, vi x1, vi x2, vx] [] (mk I L t) = (Cal d 105 [vr 11 i0, vi x1] (mk I L t)).bind fun v => Res (d + 1) 74 5 [vr 11 i0, vi x1, vi x2, vx] (psh 105 v.1 []) v.2 :=
  Eq.trans (e_aload_n D74_0 rfl rfl) <| Eq.trans (e_iload_n D74_1 rfl rfl) <| e_callV D74_2 rfl o_74 m_11_107 (by decide) rfl rfl
theorem b74_5 {d : Nat} {i0 : Nat} {x1 x2 xs0 : Int} {I L : Nat → Nat → Nat → Int} {t : Nat → Nat} : Res d 74 5 [vr 11 i0, vi x1, vi x2, vx] [vi xs0] (mk I L t) = if xs0 = 0 then Res d 74 21 [vr 11 i0, vi x1, vi x2, vx] [] (mk I L t) else Res d 74 8 [vr 11 i0, vi x1, vi x2, vx] [] (mk I L t) :=
  e_ifeq D74_5 rfl rfl
theorem b74_8 {d : Nat} {i0 : Nat} {x1 x2 : Int} {I L : Nat → Nat → Nat → Int} {t : Nat → Nat} : Res d 74 8 [vr 11 i0, vi x1, vi x2, vx] [] (mk I L t) = if x2 = -1 then Res d 74 23 [vr 11 i0, vi x1, vi x2, vx] [] (mk I L t) else Res d 74 13 [vr 11 i0, vi x1, vi x2, vx] [] (mk I L t) :=
  Eq.trans (e_iload_n D74_8 rfl rfl) <| Eq.trans (e_iconst (x := -1) D74_9 rfl rfl) <| e_iceq D74_10 rfl rfl
theorem b74_13 {d : Nat} {i0 : Nat} {x1 x2 : Int} {I L : Nat → Nat → Nat → Int} {t : Nat → Nat} : Res (d + 1) 74 13 [vr 11 i0, vi x1, vi x2, vx] [] (mk I L t) = (Cal d 104 [vr 11 i0, vi x2] (mk I L t)).bind fun v => Res (d + 1) 74 18 [vr 11 i0, vi x1, vi x2, vx] (psh 104 v.1 []) v.2 :=
  Eq.trans (e_aload_n D74_13 rfl rfl) <| Eq.trans (e_iload_n D74_14 rfl rfl) <| e_callV D74_15 rfl o_74 m_11_94 (by decide) rfl rfl
theorem b74_18 {d : Nat} {i0 : Nat} {x1 x2 xs0 : Int} {I L : Nat → Nat → Nat → Int} {t : Nat → Nat} : Res d 74 18 [vr 11 i0, vi x1, vi x2, vx] [vi xs0] (mk I L t) = if ¬ xs0 = 0 then Res d 74 23 [vr 11 i0, vi x1, vi x2, vx] [] (mk I L t) else Res d 74 21 [vr 11 i0, vi x1, vi x2, vx] [] (mk I L t) :=
  e_ifne D74_18 rfl rfl
theorem b74_21 {d : Nat} {i0 : Nat} {x1 x2 : Int} {I L : Nat → Nat → Nat → Int} {t : Nat → Nat} : Res d 74 21 [vr 11 i0, vi x1, vi x2, vx] [] (mk I L t) = some (vi (-1), (mk I L t)) :=
  Eq.trans (e_iconst (x := -1) D74_21 rfl rfl) <| e_iret D74_22 rfl
theorem b74_23 {d : Nat} {i0 : Nat} {x1 x2 : Int} {I L : Nat → Nat → Nat → Int} {t : Nat → Nat} (g1 : 0 ≤ x1 ∧ x1 < 6) : Res d 74 23 [vr 11 i0, vi x1, vi x2, vx] [] (mk I L t) = if I 4 x1.toNat 1 < 9 then Res d 74 41 [vr 11 i0, vi x1, vi x2, vr 4 x1.toNat] [] (mk I L t) else Res d 74 39 [vr 11 i0, vi x1, vi x2, vr 4 x1.toNat] [] (mk I L t) :=
  Eq.trans (e_aload_n D74_23 rfl rfl) <| Eq.trans (e_getP (p := (42, i0)) D74_24 rfl o_74 f_11_22 (sh_11 _) (by decide) (pp_11_2 _ _)) <| Eq.trans (e_iload_n D74_27 rfl rfl) <| Eq.trans (e_aald (p := (4, x1.toNat)) D74_28 rfl (ae_42 _) (aq_42 _) (pa_42 _ _ _) g1) <| Eq.trans (e_astore_n (ls1 := [vr 11 i0, vi x1, vi x2, vr 4 x1.toNat]) D74_29 rfl (show 3 < 4 by decide) rfl) <| Eq.trans (e_aload_n D74_30 rfl rfl) <| Eq.trans (e_getI D74_31 rfl o_74 f_11_110 (sh_4 _) (by decide)) <| Eq.trans (e_bipush (x := 9) D74_34 rfl rfl) <| e_iclt D74_36 rfl rfl
theorem b74_39 {d : Nat} {i0 i3 : Nat} {x1 x2 : Int} {I L : Nat → Nat → Nat → Int} {t : Nat → Nat} : Res d 74 39 [vr 11 i0, vi x1, vi x2, vr 4 i3] [] (mk I L t) = some (vi (-1), (mk I L t)) :=
  Eq.trans (e_iconst (x := -1) D74_39 rfl rfl) <| e_iret D74_40 rfl
theorem b74_41 {d : Nat} {i0 i3 : Nat} {x1 x2 : Int} {I L : Nat → Nat → Nat → Int} {t : Nat → Nat} (g1 : 0 ≤ I 4 i3 1 ∧ I 4 i3 1 < 9) : Res d 74 41 [vr 11 i0, vi x1, vi x2, vr 4 i3] [] (mk I L t) = some (vi ((up3 (up3 I 30 i3 (I 4 i3 1).toNat x2) 4 i3 1 (w32 (((up3 I 30 i3 (I 4 i3 1).toNat x2) 4 i3 1) + 1))) 4 i3 1), (mk (up3 (up3 I 30 i3 (I 4 i3 1).toNat x2) 4 i3 1 (w32 (((up3 I 30 i3 (I 4 i3 1).toNat x2) 4 i3 1) + 1))) L t)) :=
  Eq.trans (e_aload_n D74_41 rfl rfl) <| Eq.trans (e_getP (p := (30, i3)) D74_42 rfl o_74 f_11_113 (sh_4 _) (by decide) (pp_4_0 _ _)) <| Eq.trans (e_aload_n D74_45 rfl rfl) <| Eq.trans (e_getI D74_46 rfl o_74 f_11_110 (sh_4 _) (by decide)) <| Eq.trans (e_iload_n D74_49 rfl rfl) <| Eq.trans (e_iast D74_50 rfl (al_30 _) rfl g1) <| Eq.trans (e_aload_n D74_51 rfl rfl) <| Eq.trans (e_dup D74_52 rfl) <| Eq.trans (e_getI D74_53 rfl o_74 f_11_110 (sh_4 _) (by decide)) <| Eq.trans (e_iconst (x := 1) D74_56 rfl rfl) <| Eq.trans (e_iadd D74_57 rfl) <| Eq.trans (e_putI D74_58 rfl o_74 f_11_110 (sh_4 _) rfl (by decide) (Or.inl (by decide))) <| Eq.trans (e_aload_n D74_61 rfl rfl) <| Eq.trans (e_getI D74_62 rfl o_74 f_11_110 (sh_4 _) (by decide)) <| e_iret D74_65 rfl
/-! x_clear -/
theorem cc_75 : cod 75 = cX11_clear := rfl
theorem D75_0 : decode (cod 75) 0 = .ok (.aload_n 0, 1) := by rw [cc_75]; decide +kernel
theorem D75_1 : decode (cod 75) 1 = .ok (.iload_n 1, 1) := by rw [cc_75]; decide +kernel
theorem D75_2 : decode (cod 75) 2 = .ok (.invokevirtual 107, 3) := by rw [cc_75]; decide +kernel
theorem D75_5 : decode (cod 75) 5 = .ok (.ifCond .ne 5, 3) := by rw [cc_75]; decide +kernel
theorem D75_8 : decode (cod 75) 8 = .ok (.iconst 0, 1) := by rw [cc_75]; decide +kernel
theorem D75_9 : decode (cod 75) 9 = .ok (.ireturn, 1) := by rw [cc_75]; decide +kernel
theorem D75_10 : decode (cod 75) 10 = .ok (.aload_n 0, 1) := by rw [cc_75]; decide +kernel
theorem D75_11 : decode (cod 75) 11 = .ok (.getfield 22, 3) := by rw [cc_75]; decide +kernel
theorem D75_14 : decode (cod 75) 14 = .ok (.iload_n 1, 1) := by rw [cc_75]; decide +kernel
theorem D75_15 : decode (cod 75) 15 = .ok (.aaload, 1) := by rw [cc_75]; decide +kernel
theorem D75_16 : decode (cod 75) 16 = .ok (.iconst 0, 1) := by rw [cc_75]; decide +kernel
theorem D75_17 : decode (cod 75) 17 = .ok (.putfield 110, 3) := by rw [cc_75]; decide +kernel
theorem D75_20 : decode (cod 75) 20 = .ok (.iconst 1, 1) := by rw [cc_75]; decide +kernel
theorem D75_21 : decode (cod 75) 21 = .ok (.ireturn, 1) := by rw [cc_75]; decide +kernel
theorem b75_0 {d : Nat} {i0 : Nat} {x1 : Int} {I L : Nat → Nat → Nat → Int} {t : Nat → Nat} : Res (d + 1) 75 0 [vr 11 i0, vi x1] [] (mk I L t) = (Cal d 105 [vr 11 i0, vi x1] (mk I L t)).bind fun v => Res (d + 1) 75 5 [vr 11 i0, vi x1] (psh 105 v.1 []) v.2 :=
  Eq.trans (e_aload_n D75_0 rfl rfl) <| Eq.trans (e_iload_n D75_1 rfl rfl) <| e_callV D75_2 rfl o_75 m_11_107 (by decide) rfl rfl
theorem b75_5 {d : Nat} {i0 : Nat} {x1 xs0 : Int} {I L : Nat → Nat → Nat → Int} {t : Nat → Nat} : Res d 75 5 [vr 11 i0, vi x1] [vi xs0] (mk I L t) = if ¬ xs0 = 0 then Res d 75 10 [vr 11 i0, vi x1] [] (mk I L t) else Res d 75 8 [vr 11 i0, vi x1] [] (mk I L t) :=
  e_ifne D75_5 rfl rfl
theorem b75_8 {d : Nat} {i0 : Nat} {x1 : Int} {I L : Nat → Nat → Nat → Int} {t : Nat → Nat} : Res d 75 8 [vr 11 i0, vi x1] [] (mk I L t) = some (vi 0, (mk I L t)) :=
  Eq.trans (e_iconst (x := 0) D75_8 rfl rfl) <| e_iret D75_9 rfl
theorem b75_10 {d : Nat} {i0 : Nat} {x1 : Int} {I L : Nat → Nat → Nat → Int} {t : Nat → Nat} (g1 : 0 ≤ x1 ∧ x1 < 6) : Res d 75 10 [vr 11 i0, vi x1] [] (mk I L t) = some (vi 1, (mk (up3 I 4 x1.toNat 1 0) L t)) :=
  Eq.trans (e_aload_n D75_10 rfl rfl) <| Eq.trans (e_getP (p := (42, i0)) D75_11 rfl o_75 f_11_22 (sh_11 _) (by decide) (pp_11_2 _ _)) <| Eq.trans (e_iload_n D75_14 rfl rfl) <| Eq.trans (e_aald (p := (4, x1.toNat)) D75_15 rfl (ae_42 _) (aq_42 _) (pa_42 _ _ _) g1) <| Eq.trans (e_iconst (x := 0) D75_16 rfl rfl) <| Eq.trans (e_putI D75_17 rfl o_75 f_11_110 (sh_4 _) rfl (by decide) (Or.inl (by decide))) <| Eq.trans (e_iconst (x := 1) D75_20 rfl rfl) <| e_iret D75_21 rfl
/-! x_feed -/
theorem cc_76 : cod 76 = cX11_feed := rfl
theorem D76_0 : decode (cod 76) 0 = .ok (.aload_n 0, 1) := by rw [cc_76]; decide +kernel
theorem D76_1 : decode (cod 76) 1 = .ok (.getfield 29, 3) := by rw [cc_76]; decide +kernel
theorem D76_4 : decode (cod 76) 4 = .ok (.getfield 116, 3) := by rw [cc_76]; decide +kernel
theorem D76_7 : decode (cod 76) 7 = .ok (.astore 6, 2) := by rw [cc_76]; decide +kernel
theorem D76_9 : decode (cod 76) 9 = .ok (.aload 6, 2) := by rw [cc_76]; decide +kernel
theorem D76_11 : decode (cod 76) 11 = .ok (.getfield 120, 3) := by rw [cc_76]; decide +kernel
theorem D76_14 : decode (cod 76) 14 = .ok (.bipush 20, 2) := by rw [cc_76]; decide +kernel
theorem D76_16 : decode (cod 76) 16 = .ok (.iadd, 1) := by rw [cc_76]; decide +kernel
theorem D76_17 : decode (cod 76) 17 = .ok (.sipush 400, 3) := by rw [cc_76]; decide +kernel
theorem D76_20 : decode (cod 76) 20 = .ok (.if_icmp .le 5, 3) := by rw [cc_76]; decide +kernel
theorem D76_23 : decode (cod 76) 23 = .ok (.iconst (-1), 1) := by rw [cc_76]; decide +kernel
theorem D76_24 : decode (cod 76) 24 = .ok (.ireturn, 1) := by rw [cc_76]; decide +kernel
theorem D76_25 : decode (cod 76) 25 = .ok (.aload 6, 2) := by rw [cc_76]; decide +kernel
theorem D76_27 : decode (cod 76) 27 = .ok (.iload_n 1, 1) := by rw [cc_76]; decide +kernel
theorem D76_28 : decode (cod 76) 28 = .ok (.invokevirtual 123, 3) := by rw [cc_76]; decide +kernel
theorem D76_31 : decode (cod 76) 31 = .ok (.aload 6, 2) := by rw [cc_76]; decide +kernel
theorem D76_33 : decode (cod 76) 33 = .ok (.iload_n 2, 1) := by rw [cc_76]; decide +kernel
theorem D76_34 : decode (cod 76) 34 = .ok (.invokevirtual 123, 3) := by rw [cc_76]; decide +kernel
theorem D76_37 : decode (cod 76) 37 = .ok (.aload 6, 2) := by rw [cc_76]; decide +kernel
theorem D76_39 : decode (cod 76) 39 = .ok (.iload_n 3, 1) := by rw [cc_76]; decide +kernel
theorem D76_40 : decode (cod 76) 40 = .ok (.invokevirtual 123, 3) := by rw [cc_76]; decide +kernel
theorem D76_43 : decode (cod 76) 43 = .ok (.aload 6, 2) := by rw [cc_76]; decide +kernel
theorem D76_45 : decode (cod 76) 45 = .ok (.iload 4, 2) := by rw [cc_76]; decide +kernel
theorem D76_47 : decode (cod 76) 47 = .ok (.invokevirtual 123, 3) := by rw [cc_76]; decide +kernel
theorem D76_50 : decode (cod 76) 50 = .ok (.aload 6, 2) := by rw [cc_76]; decide +kernel
theorem D76_52 : decode (cod 76) 52 = .ok (.iload 5, 2) := by rw [cc_76]; decide +kernel
theorem D76_54 : decode (cod 76) 54 = .ok (.invokevirtual 123, 3) := by rw [cc_76]; decide +kernel
theorem D76_57 : decode (cod 76) 57 = .ok (.aload 6, 2) := by rw [cc_76]; decide +kernel
theorem D76_59 : decode (cod 76) 59 = .ok (.getfield 120, 3) := by rw [cc_76]; decide +kernel
theorem D76_62 : decode (cod 76) 62 = .ok (.ireturn, 1) := by rw [cc_76]; decide +kernel
theorem b76_0 {d : Nat} {i0 : Nat} {x1 x2 x3 x4 x5 : Int} {I L : Nat → Nat → Nat → Int} {t : Nat → Nat} : Res d 76 0 [vr 11 i0, vi x1, vi x2, vi x3, vi x4, vi x5, vx] [] (mk I L t) = if w32 ((I 7 0 4) + 20) ≤ 400 then Res d 76 25 [vr 11 i0, vi x1, vi x2, vi x3, vi x4, vi x5, vr 7 0] [] (mk I L t) else Res d 76 23 [vr 11 i0, vi x1, vi x2, vi x3, vi x4, vi x5, vr 7 0] [] (mk I L t) :=
  Eq.trans (e_aload_n D76_0 rfl rfl) <| Eq.trans (e_getP (p := (8, 0)) D76_1 rfl o_76 f_11_29 (sh_11 _) (by decide) (pp_11_3 _ _)) <| Eq.trans (e_getP (p := (7, 0)) D76_4 rfl o_76 f_11_116 (sh_8 _) (by decide) (pp_8_0 _)) <| Eq.trans (e_astore (ls1 := [vr 11 i0, vi x1, vi x2, vi x3, vi x4, vi x5, vr 7 0]) D76_7 rfl (show 6 < 7 by decide) rfl) <| Eq.trans (e_aload D76_9 rfl rfl) <| Eq.trans (e_getI D76_11 rfl o_76 f_11_120 (sh_7 _) (by decide)) <| Eq.trans (e_bipush (x := 20) D76_14 rfl rfl) <| Eq.trans (e_iadd D76_16 rfl) <| Eq.trans (e_sipush (x := 400) D76_17 rfl rfl) <| e_icle D76_20 rfl rfl
theorem b76_23 {d : Nat} {i0 i6 : Nat} {x1 x2 x3 x4 x5 : Int} {I L : Nat → Nat → Nat → Int} {t : Nat → Nat} : Res d 76 23 [vr 11 i0, vi x1, vi x2, vi x3, vi x4, vi x5, vr 7 i6] [] (mk I L t) = some (vi (-1), (mk I L t)) :=
  Eq.trans (e_iconst (x := -1) D76_23 rfl rfl) <| e_iret D76_24 rfl
theorem b76_25 {d : Nat} {i0 i6 : Nat} {x1 x2 x3 x4 x5 : Int} {I L : Nat → Nat → Nat → Int} {t : Nat → Nat} : Res (d + 1) 76 25 [vr 11 i0, vi x1, vi x2, vi x3, vi x4, vi x5, vr 7 i6] [] (mk I L t) = (Cal d 35 [vr 7 i6, vi x1] (mk I L t)).bind fun v => Res (d + 1) 76 31 [vr 11 i0, vi x1, vi x2, vi x3, vi x4, vi x5, vr 7 i6] (psh 35 v.1 []) v.2 :=
  Eq.trans (e_aload D76_25 rfl rfl) <| Eq.trans (e_iload_n D76_27 rfl rfl) <| e_callV D76_28 rfl o_76 m_11_123 (by decide) rfl rfl
theorem b76_31 {d : Nat} {i0 i6 : Nat} {x1 x2 x3 x4 x5 : Int} {I L : Nat → Nat → Nat → Int} {t : Nat → Nat} : Res (d + 1) 76 31 [vr 11 i0, vi x1, vi x2, vi x3, vi x4, vi x5, vr 7 i6] [] (mk I L t) = (Cal d 35 [vr 7 i6, vi x2] (mk I L t)).bind fun v => Res (d + 1) 76 37 [vr 11 i0, vi x1, vi x2, vi x3, vi x4, vi x5, vr 7 i6] (psh 35 v.1 []) v.2 :=
  Eq.trans (e_aload D76_31 rfl rfl) <| Eq.trans (e_iload_n D76_33 rfl rfl) <| e_callV D76_34 rfl o_76 m_11_123 (by decide) rfl rfl
theorem b76_37 {d : Nat} {i0 i6 : Nat} {x1 x2 x3 x4 x5 : Int} {I L : Nat → Nat → Nat → Int} {t : Nat → Nat} : Res (d + 1) 76 37 [vr 11 i0, vi x1, vi x2, vi x3, vi x4, vi x5, vr 7 i6] [] (mk I L t) = (Cal d 35 [vr 7 i6, vi x3] (mk I L t)).bind fun v => Res (d + 1) 76 43 [vr 11 i0, vi x1, vi x2, vi x3, vi x4, vi x5, vr 7 i6] (psh 35 v.1 []) v.2 :=
  Eq.trans (e_aload D76_37 rfl rfl) <| Eq.trans (e_iload_n D76_39 rfl rfl) <| e_callV D76_40 rfl o_76 m_11_123 (by decide) rfl rfl
theorem b76_43 {d : Nat} {i0 i6 : Nat} {x1 x2 x3 x4 x5 : Int} {I L : Nat → Nat → Nat → Int} {t : Nat → Nat} : Res (d + 1) 76 43 [vr 11 i0, vi x1, vi x2, vi x3, vi x4, vi x5, vr 7 i6] [] (mk I L t) = (Cal d 35 [vr 7 i6, vi x4] (mk I L t)).bind fun v => Res (d + 1) 76 50 [vr 11 i0, vi x1, vi x2, vi x3, vi x4, vi x5, vr 7 i6] (psh 35 v.1 []) v.2 :=
  Eq.trans (e_aload D76_43 rfl rfl) <| Eq.trans (e_iload D76_45 rfl rfl) <| e_callV D76_47 rfl o_76 m_11_123 (by decide) rfl rfl
theorem b76_50 {d : Nat} {i0 i6 : Nat} {x1 x2 x3 x4 x5 : Int} {I L : Nat → Nat → Nat → Int} {t : Nat → Nat} : Res (d + 1) 76 50 [vr 11 i0, vi x1, vi x2, vi x3, vi x4, vi x5, vr 7 i6] [] (mk I L t) = (Cal d 35 [vr 7 i6, vi x5] (mk I L t)).bind fun v => Res (d + 1) 76 57 [vr 11 i0, vi x1, vi x2, vi x3, vi x4, vi x5, vr 7 i6] (psh 35 v.1 []) v.2 :=
  Eq.trans (e_aload D76_50 rfl rfl) <| Eq.trans (e_iload D76_52 rfl rfl) <| e_callV D76_54 rfl o_76 m_11_123 (by decide) rfl rfl
theorem b76_57 {d : Nat} {i0 i6 : Nat} {x1 x2 x3 x4 x5 : Int} {I L : Nat → Nat → Nat → Int} {t : Nat → Nat} : Res d 76 57 [vr 11 i0, vi x1, vi x2, vi x3, vi x4, vi x5, vr 7 i6] [] (mk I L t) = some (vi (I 7 i6 4), (mk I L t)) :=
  Eq.trans (e_aload D76_57 rfl rfl) <| Eq.trans (e_getI D76_59 rfl o_76 f_11_120 (sh_7 _) (by decide)) <| e_iret D76_62 rfl
/-! x_end -/
theorem cc_77 : cod 77 = cX11_end := rfl
theorem D77_0 : decode (cod 77) 0 = .ok (.iload_n 1, 1) := by rw [cc_77]; decide +kernel
theorem D77_1 : decode (cod 77) 1 = .ok (.ifCond .lt 17, 3) := by rw [cc_77]; decide +kernel
theorem D77_4 : decode (cod 77) 4 = .ok (.iload_n 1, 1) := by rw [cc_77]; decide +kernel
theorem D77_5 : decode (cod 77) 5 = .ok (.aload_n 0, 1) := by rw [cc_77]; decide +kernel
theorem D77_6 : decode (cod 77) 6 = .ok (.getfield 29, 3) := by rw [cc_77]; decide +kernel
theorem D77_9 : decode (cod 77) 9 = .ok (.getfield 116, 3) := by rw [cc_77]; decide +kernel
theorem D77_12 : decode (cod 77) 12 = .ok (.getfield 120, 3) := by rw [cc_77]; decide +kernel
theorem D77_15 : decode (cod 77) 15 = .ok (.if_icmp .le 5, 3) := by rw [cc_77]; decide +kernel
theorem D77_18 : decode (cod 77) 18 = .ok (.iconst 0, 1) := by rw [cc_77]; decide +kernel
theorem D77_19 : decode (cod 77) 19 = .ok (.ireturn, 1) := by rw [cc_77]; decide +kernel
theorem D77_20 : decode (cod 77) 20 = .ok (.aload_n 0, 1) := by rw [cc_77]; decide +kernel
theorem D77_21 : decode (cod 77) 21 = .ok (.getfield 29, 3) := by rw [cc_77]; decide +kernel
theorem D77_24 : decode (cod 77) 24 = .ok (.getfield 116, 3) := by rw [cc_77]; decide +kernel
theorem D77_27 : decode (cod 77) 27 = .ok (.iload_n 1, 1) := by rw [cc_77]; decide +kernel
theorem D77_28 : decode (cod 77) 28 = .ok (.putfield 120, 3) := by rw [cc_77]; decide +kernel
theorem D77_31 : decode (cod 77) 31 = .ok (.iconst 1, 1) := by rw [cc_77]; decide +kernel
theorem D77_32 : decode (cod 77) 32 = .ok (.ireturn, 1) := by rw [cc_77]; decide +kernel
theorem b77_0 {d : Nat} {i0 : Nat} {x1 : Int} {I L : Nat → Nat → Nat → Int} {t : Nat → Nat} : Res d 77 0 [vr 11 i0, vi x1] [] (mk I L t) = if x1 < 0 then Res d 77 18 [vr 11 i0, vi x1] [] (mk I L t) else Res d 77 4 [vr 11 i0, vi x1] [] (mk I L t) :=
  Eq.trans (e_iload_n D77_0 rfl rfl) <| e_iflt D77_1 rfl rfl
theorem b77_4 {d : Nat} {i0 : Nat} {x1 : Int} {I L : Nat → Nat → Nat → Int} {t : Nat → Nat} : Res d 77 4 [vr 11 i0, vi x1] [] (mk I L t) = if x1 ≤ I 7 0 4 then Res d 77 20 [vr 11 i0, vi x1] [] (mk I L t) else Res d 77 18 [vr 11 i0, vi x1] [] (mk I L t) :=
  Eq.trans (e_iload_n D77_4 rfl rfl) <| Eq.trans (e_aload_n D77_5 rfl rfl) <| Eq.trans (e_getP (p := (8, 0)) D77_6 rfl o_77 f_11_29 (sh_11 _) (by decide) (pp_11_3 _ _)) <| Eq.trans (e_getP (p := (7, 0)) D77_9 rfl o_77 f_11_116 (sh_8 _) (by decide) (pp_8_0 _)) <| Eq.trans (e_getI D77_12 rfl o_77 f_11_120 (sh_7 _) (by decide)) <| e_icle D77_15 rfl rfl
theorem b77_18 {d : Nat} {i0 : Nat} {x1 : Int} {I L : Nat → Nat → Nat → Int} {t : Nat → Nat} : Res d 77 18 [vr 11 i0, vi x1] [] (mk I L t) = some (vi 0, (mk I L t)) :=
  Eq.trans (e_iconst (x := 0) D77_18 rfl rfl) <| e_iret D77_19 rfl
theorem b77_20 {d : Nat} {i0 : Nat} {x1 : Int} {I L : Nat → Nat → Nat → Int} {t : Nat → Nat} : Res d 77 20 [vr 11 i0, vi x1] [] (mk I L t) = some (vi 1, (mk (up3 I 7 0 4 x1) L t)) :=
  Eq.trans (e_aload_n D77_20 rfl rfl) <| Eq.trans (e_getP (p := (8, 0)) D77_21 rfl o_77 f_11_29 (sh_11 _) (by decide) (pp_11_3 _ _)) <| Eq.trans (e_getP (p := (7, 0)) D77_24 rfl o_77 f_11_116 (sh_8 _) (by decide) (pp_8_0 _)) <| Eq.trans (e_iload_n D77_27 rfl rfl) <| Eq.trans (e_putI D77_28 rfl o_77 f_11_120 (sh_7 _) rfl (by decide) (Or.inl (by decide))) <| Eq.trans (e_iconst (x := 1) D77_31 rfl rfl) <| e_iret D77_32 rfl
/-! x_text -/
theorem cc_78 : cod 78 = cX11_text := rfl
theorem D78_0 : decode (cod 78) 0 = .ok (.aload_n 0, 1) := by rw [cc_78]; decide +kernel
theorem D78_1 : decode (cod 78) 1 = .ok (.getfield 29, 3) := by rw [cc_78]; decide +kernel
theorem D78_4 : decode (cod 78) 4 = .ok (.iload_n 1, 1) := by rw [cc_78]; decide +kernel
theorem D78_5 : decode (cod 78) 5 = .ok (.iload_n 2, 1) := by rw [cc_78]; decide +kernel
theorem D78_6 : decode (cod 78) 6 = .ok (.invokevirtual 127, 3) := by rw [cc_78]; decide +kernel
theorem D78_9 : decode (cod 78) 9 = .ok (.ireturn, 1) := by rw [cc_78]; decide +kernel
theorem b78_0 {d : Nat} {i0 : Nat} {x1 x2 : Int} {I L : Nat → Nat → Nat → Int} {t : Nat → Nat} : Res (d + 1) 78 0 [vr 11 i0, vi x1, vi x2] [] (mk I L t) = (Cal d 49 [vr 8 0, vi x1, vi x2] (mk I L t)).bind fun v => Res (d + 1) 78 9 [vr 11 i0, vi x1, vi x2] (psh 49 v.1 []) v.2 :=
  Eq.trans (e_aload_n D78_0 rfl rfl) <| Eq.trans (e_getP (p := (8, 0)) D78_1 rfl o_78 f_11_29 (sh_11 _) (by decide) (pp_11_3 _ _)) <| Eq.trans (e_iload_n D78_4 rfl rfl) <| Eq.trans (e_iload_n D78_5 rfl rfl) <| e_callV D78_6 rfl o_78 m_11_127 (by decide) rfl rfl
theorem b78_9 {d : Nat} {i0 : Nat} {x1 x2 xs0 : Int} {I L : Nat → Nat → Nat → Int} {t : Nat → Nat} : Res d 78 9 [vr 11 i0, vi x1, vi x2] [vi xs0] (mk I L t) = some (vi xs0, (mk I L t)) :=
  e_iret D78_9 rfl
/-! x_fault -/
theorem cc_79 : cod 79 = cX11_fault := rfl
theorem D79_0 : decode (cod 79) 0 = .ok (.iload_n 1, 1) := by rw [cc_79]; decide +kernel
theorem D79_1 : decode (cod 79) 1 = .ok (.ifCond .ne 14, 3) := by rw [cc_79]; decide +kernel
theorem D79_4 : decode (cod 79) 4 = .ok (.aload_n 0, 1) := by rw [cc_79]; decide +kernel
theorem D79_5 : decode (cod 79) 5 = .ok (.getfield 29, 3) := by rw [cc_79]; decide +kernel
theorem D79_8 : decode (cod 79) 8 = .ok (.getfield 116, 3) := by rw [cc_79]; decide +kernel
theorem D79_11 : decode (cod 79) 11 = .ok (.getfield 131, 3) := by rw [cc_79]; decide +kernel
theorem D79_14 : decode (cod 79) 14 = .ok (.ireturn, 1) := by rw [cc_79]; decide +kernel
theorem D79_15 : decode (cod 79) 15 = .ok (.iload_n 1, 1) := by rw [cc_79]; decide +kernel
theorem D79_16 : decode (cod 79) 16 = .ok (.iconst 1, 1) := by rw [cc_79]; decide +kernel
theorem D79_17 : decode (cod 79) 17 = .ok (.if_icmp .ne 16, 3) := by rw [cc_79]; decide +kernel
theorem D79_20 : decode (cod 79) 20 = .ok (.aload_n 0, 1) := by rw [cc_79]; decide +kernel
theorem D79_21 : decode (cod 79) 21 = .ok (.getfield 29, 3) := by rw [cc_79]; decide +kernel
theorem D79_24 : decode (cod 79) 24 = .ok (.getfield 116, 3) := by rw [cc_79]; decide +kernel
theorem D79_27 : decode (cod 79) 27 = .ok (.getfield 134, 3) := by rw [cc_79]; decide +kernel
theorem D79_30 : decode (cod 79) 30 = .ok (.goto 4, 3) := by rw [cc_79]; decide +kernel
theorem D79_33 : decode (cod 79) 33 = .ok (.iconst (-1), 1) := by rw [cc_79]; decide +kernel
theorem D79_34 : decode (cod 79) 34 = .ok (.ireturn, 1) := by rw [cc_79]; decide +kernel
theorem b79_0 {d : Nat} {i0 : Nat} {x1 : Int} {I L : Nat → Nat → Nat → Int} {t : Nat → Nat} : Res d 79 0 [vr 11 i0, vi x1] [] (mk I L t) = if ¬ x1 = 0 then Res d 79 15 [vr 11 i0, vi x1] [] (mk I L t) else Res d 79 4 [vr 11 i0, vi x1] [] (mk I L t) :=
  Eq.trans (e_iload_n D79_0 rfl rfl) <| e_ifne D79_1 rfl rfl
theorem b79_4 {d : Nat} {i0 : Nat} {x1 : Int} {I L : Nat → Nat → Nat → Int} {t : Nat → Nat} : Res d 79 4 [vr 11 i0, vi x1] [] (mk I L t) = some (vi (I 7 0 11), (mk I L t)) :=
  Eq.trans (e_aload_n D79_4 rfl rfl) <| Eq.trans (e_getP (p := (8, 0)) D79_5 rfl o_79 f_11_29 (sh_11 _) (by decide) (pp_11_3 _ _)) <| Eq.trans (e_getP (p := (7, 0)) D79_8 rfl o_79 f_11_116 (sh_8 _) (by decide) (pp_8_0 _)) <| Eq.trans (e_getI D79_11 rfl o_79 f_11_131 (sh_7 _) (by decide)) <| e_iret D79_14 rfl
theorem b79_15 {d : Nat} {i0 : Nat} {x1 : Int} {I L : Nat → Nat → Nat → Int} {t : Nat → Nat} : Res d 79 15 [vr 11 i0, vi x1] [] (mk I L t) = if ¬ x1 = 1 then Res d 79 33 [vr 11 i0, vi x1] [] (mk I L t) else Res d 79 20 [vr 11 i0, vi x1] [] (mk I L t) :=
  Eq.trans (e_iload_n D79_15 rfl rfl) <| Eq.trans (e_iconst (x := 1) D79_16 rfl rfl) <| e_icne D79_17 rfl rfl
theorem b79_20 {d : Nat} {i0 : Nat} {x1 : Int} {I L : Nat → Nat → Nat → Int} {t : Nat → Nat} : Res d 79 20 [vr 11 i0, vi x1] [] (mk I L t) = Res d 79 34 [vr 11 i0, vi x1] [vi (I 7 0 12)] (mk I L t) :=
  Eq.trans (e_aload_n D79_20 rfl rfl) <| Eq.trans (e_getP (p := (8, 0)) D79_21 rfl o_79 f_11_29 (sh_11 _) (by decide) (pp_11_3 _ _)) <| Eq.trans (e_getP (p := (7, 0)) D79_24 rfl o_79 f_11_116 (sh_8 _) (by decide) (pp_8_0 _)) <| Eq.trans (e_getI D79_27 rfl o_79 f_11_134 (sh_7 _) (by decide)) <| e_goto (q1 := 34) D79_30 rfl
theorem b79_33 {d : Nat} {i0 : Nat} {x1 : Int} {I L : Nat → Nat → Nat → Int} {t : Nat → Nat} : Res d 79 33 [vr 11 i0, vi x1] [] (mk I L t) = Res d 79 34 [vr 11 i0, vi x1] [vi (-1)] (mk I L t) :=
  e_iconst (x := -1) D79_33 rfl rfl
theorem b79_34 {d : Nat} {i0 : Nat} {x1 xs0 : Int} {I L : Nat → Nat → Nat → Int} {t : Nat → Nat} : Res d 79 34 [vr 11 i0, vi x1] [vi xs0] (mk I L t) = some (vi xs0, (mk I L t)) :=
  e_iret D79_34 rfl
/-! x_days -/
theorem cc_80 : cod 80 = cX11_days := rfl
theorem D80_0 : decode (cod 80) 0 = .ok (.iload_n 1, 1) := by rw [cc_80]; decide +kernel
theorem D80_1 : decode (cod 80) 1 = .ok (.iconst 1, 1) := by rw [cc_80]; decide +kernel
theorem D80_2 : decode (cod 80) 2 = .ok (.bipush 60, 2) := by rw [cc_80]; decide +kernel
theorem D80_4 : decode (cod 80) 4 = .ok (.invokestatic 76, 3) := by rw [cc_80]; decide +kernel
theorem D80_7 : decode (cod 80) 7 = .ok (.ifCond .eq 15, 3) := by rw [cc_80]; decide +kernel
theorem D80_10 : decode (cod 80) 10 = .ok (.aload_n 0, 1) := by rw [cc_80]; decide +kernel
theorem D80_11 : decode (cod 80) 11 = .ok (.getfield 137, 3) := by rw [cc_80]; decide +kernel
theorem D80_14 : decode (cod 80) 14 = .ok (.iload_n 1, 1) := by rw [cc_80]; decide +kernel
theorem D80_15 : decode (cod 80) 15 = .ok (.iadd, 1) := by rw [cc_80]; decide +kernel
theorem D80_16 : decode (cod 80) 16 = .ok (.sipush 999, 3) := by rw [cc_80]; decide +kernel
theorem D80_19 : decode (cod 80) 19 = .ok (.if_icmp .le 5, 3) := by rw [cc_80]; decide +kernel
theorem D80_22 : decode (cod 80) 22 = .ok (.iconst (-1), 1) := by rw [cc_80]; decide +kernel
theorem D80_23 : decode (cod 80) 23 = .ok (.ireturn, 1) := by rw [cc_80]; decide +kernel
theorem D80_24 : decode (cod 80) 24 = .ok (.iconst 0, 1) := by rw [cc_80]; decide +kernel
theorem D80_25 : decode (cod 80) 25 = .ok (.istore_n 2, 1) := by rw [cc_80]; decide +kernel
theorem D80_26 : decode (cod 80) 26 = .ok (.iload_n 2, 1) := by rw [cc_80]; decide +kernel
theorem D80_27 : decode (cod 80) 27 = .ok (.aload_n 0, 1) := by rw [cc_80]; decide +kernel
theorem D80_28 : decode (cod 80) 28 = .ok (.getfield 140, 3) := by rw [cc_80]; decide +kernel
theorem D80_31 : decode (cod 80) 31 = .ok (.if_icmp .ge 20, 3) := by rw [cc_80]; decide +kernel
theorem D80_34 : decode (cod 80) 34 = .ok (.aload_n 0, 1) := by rw [cc_80]; decide +kernel
theorem D80_35 : decode (cod 80) 35 = .ok (.aload_n 0, 1) := by rw [cc_80]; decide +kernel
theorem D80_36 : decode (cod 80) 36 = .ok (.getfield 35, 3) := by rw [cc_80]; decide +kernel
theorem D80_39 : decode (cod 80) 39 = .ok (.iload_n 2, 1) := by rw [cc_80]; decide +kernel
theorem D80_40 : decode (cod 80) 40 = .ok (.aaload, 1) := by rw [cc_80]; decide +kernel
theorem D80_41 : decode (cod 80) 41 = .ok (.iload_n 1, 1) := by rw [cc_80]; decide +kernel
theorem D80_42 : decode (cod 80) 42 = .ok (.invokevirtual 143, 3) := by rw [cc_80]; decide +kernel
theorem D80_45 : decode (cod 80) 45 = .ok (.iinc 2 1, 3) := by rw [cc_80]; decide +kernel
theorem D80_48 : decode (cod 80) 48 = .ok (.goto (-22), 3) := by rw [cc_80]; decide +kernel
theorem D80_51 : decode (cod 80) 51 = .ok (.aload_n 0, 1) := by rw [cc_80]; decide +kernel
theorem D80_52 : decode (cod 80) 52 = .ok (.dup, 1) := by rw [cc_80]; decide +kernel
theorem D80_53 : decode (cod 80) 53 = .ok (.getfield 137, 3) := by rw [cc_80]; decide +kernel
theorem D80_56 : decode (cod 80) 56 = .ok (.iload_n 1, 1) := by rw [cc_80]; decide +kernel
theorem D80_57 : decode (cod 80) 57 = .ok (.iadd, 1) := by rw [cc_80]; decide +kernel
theorem D80_58 : decode (cod 80) 58 = .ok (.putfield 137, 3) := by rw [cc_80]; decide +kernel
theorem D80_61 : decode (cod 80) 61 = .ok (.aload_n 0, 1) := by rw [cc_80]; decide +kernel
theorem D80_62 : decode (cod 80) 62 = .ok (.getfield 137, 3) := by rw [cc_80]; decide +kernel
theorem D80_65 : decode (cod 80) 65 = .ok (.ireturn, 1) := by rw [cc_80]; decide +kernel
theorem b80_0 {d : Nat} {i0 : Nat} {x1 : Int} {I L : Nat → Nat → Nat → Int} {t : Nat → Nat} : Res (d + 1) 80 0 [vr 11 i0, vi x1, vx] [] (mk I L t) = (Cal d 102 [vi x1, vi 1, vi 60] (mk I L t)).bind fun v => Res (d + 1) 80 7 [vr 11 i0, vi x1, vx] (psh 102 v.1 []) v.2 :=
  Eq.trans (e_iload_n D80_0 rfl rfl) <| Eq.trans (e_iconst (x := 1) D80_1 rfl rfl) <| Eq.trans (e_bipush (x := 60) D80_2 rfl rfl) <| e_callS D80_4 rfl o_80 m_11_76 (by decide) rfl rfl
theorem b80_7 {d : Nat} {i0 : Nat} {x1 xs0 : Int} {I L : Nat → Nat → Nat → Int} {t : Nat → Nat} : Res d 80 7 [vr 11 i0, vi x1, vx] [vi xs0] (mk I L t) = if xs0 = 0 then Res d 80 22 [vr 11 i0, vi x1, vx] [] (mk I L t) else Res d 80 10 [vr 11 i0, vi x1, vx] [] (mk I L t) :=
  e_ifeq D80_7 rfl rfl
theorem b80_10 {d : Nat} {i0 : Nat} {x1 : Int} {I L : Nat → Nat → Nat → Int} {t : Nat → Nat} : Res d 80 10 [vr 11 i0, vi x1, vx] [] (mk I L t) = if w32 ((I 11 i0 16) + x1) ≤ 999 then Res d 80 24 [vr 11 i0, vi x1, vx] [] (mk I L t) else Res d 80 22 [vr 11 i0, vi x1, vx] [] (mk I L t) :=
  Eq.trans (e_aload_n D80_10 rfl rfl) <| Eq.trans (e_getI D80_11 rfl o_80 f_11_137 (sh_11 _) (by decide)) <| Eq.trans (e_iload_n D80_14 rfl rfl) <| Eq.trans (e_iadd D80_15 rfl) <| Eq.trans (e_sipush (x := 999) D80_16 rfl rfl) <| e_icle D80_19 rfl rfl
theorem b80_22 {d : Nat} {i0 : Nat} {x1 : Int} {I L : Nat → Nat → Nat → Int} {t : Nat → Nat} : Res d 80 22 [vr 11 i0, vi x1, vx] [] (mk I L t) = some (vi (-1), (mk I L t)) :=
  Eq.trans (e_iconst (x := -1) D80_22 rfl rfl) <| e_iret D80_23 rfl
theorem b80_24 {d : Nat} {i0 : Nat} {x1 : Int} {I L : Nat → Nat → Nat → Int} {t : Nat → Nat} : Res d 80 24 [vr 11 i0, vi x1, vx] [] (mk I L t) = Res d 80 26 [vr 11 i0, vi x1, vi 0] [] (mk I L t) :=
  Eq.trans (e_iconst (x := 0) D80_24 rfl rfl) <| e_istore_n (ls1 := [vr 11 i0, vi x1, vi 0]) D80_25 rfl (show 2 < 3 by decide) rfl
theorem b80_26 {d : Nat} {i0 : Nat} {x1 x2 : Int} {I L : Nat → Nat → Nat → Int} {t : Nat → Nat} : Res d 80 26 [vr 11 i0, vi x1, vi x2] [] (mk I L t) = if I 11 i0 12 ≤ x2 then Res d 80 51 [vr 11 i0, vi x1, vi x2] [] (mk I L t) else Res d 80 34 [vr 11 i0, vi x1, vi x2] [] (mk I L t) :=
  Eq.trans (e_iload_n D80_26 rfl rfl) <| Eq.trans (e_aload_n D80_27 rfl rfl) <| Eq.trans (e_getI D80_28 rfl o_80 f_11_140 (sh_11 _) (by decide)) <| e_icge D80_31 rfl rfl
theorem b80_34 {d : Nat} {i0 : Nat} {x1 x2 : Int} {I L : Nat → Nat → Nat → Int} {t : Nat → Nat} (g1 : 0 ≤ x2 ∧ x2 < 20) : Res (d + 1) 80 34 [vr 11 i0, vi x1, vi x2] [] (mk I L t) = (Cal d 120 [vr 11 i0, vr 3 x2.toNat, vi x1] (mk I L t)).bind fun v => Res (d + 1) 80 45 [vr 11 i0, vi x1, vi x2] (psh 120 v.1 []) v.2 :=
  Eq.trans (e_aload_n D80_34 rfl rfl) <| Eq.trans (e_aload_n D80_35 rfl rfl) <| Eq.trans (e_getP (p := (43, i0)) D80_36 rfl o_80 f_11_35 (sh_11 _) (by decide) (pp_11_4 _ _)) <| Eq.trans (e_iload_n D80_39 rfl rfl) <| Eq.trans (e_aald (p := (3, x2.toNat)) D80_40 rfl (ae_43 _) (aq_43 _) (pa_43 _ _ _) g1) <| Eq.trans (e_iload_n D80_41 rfl rfl) <| e_callV D80_42 rfl o_80 m_11_143 (by decide) rfl rfl
theorem b80_45 {d : Nat} {i0 : Nat} {x1 x2 : Int} {I L : Nat → Nat → Nat → Int} {t : Nat → Nat} : Res d 80 45 [vr 11 i0, vi x1, vi x2] [] (mk I L t) = Res d 80 26 [vr 11 i0, vi x1, vi (w32 (x2 + 1))] [] (mk I L t) :=
  Eq.trans (e_iinc (ls1 := [vr 11 i0, vi x1, vi (w32 (x2 + 1))]) D80_45 rfl rfl rfl) <| e_goto (q1 := 26) D80_48 rfl
theorem b80_51 {d : Nat} {i0 : Nat} {x1 x2 : Int} {I L : Nat → Nat → Nat → Int} {t : Nat → Nat} : Res d 80 51 [vr 11 i0, vi x1, vi x2] [] (mk I L t) = some (vi ((up3 I 11 i0 16 (w32 ((I 11 i0 16) + x1))) 11 i0 16), (mk (up3 I 11 i0 16 (w32 ((I 11 i0 16) + x1))) L t)) :=
  Eq.trans (e_aload_n D80_51 rfl rfl) <| Eq.trans (e_dup D80_52 rfl) <| Eq.trans (e_getI D80_53 rfl o_80 f_11_137 (sh_11 _) (by decide)) <| Eq.trans (e_iload_n D80_56 rfl rfl) <| Eq.trans (e_iadd D80_57 rfl) <| Eq.trans (e_putI D80_58 rfl o_80 f_11_137 (sh_11 _) rfl (by decide) (Or.inl (by decide))) <| Eq.trans (e_aload_n D80_61 rfl rfl) <| Eq.trans (e_getI D80_62 rfl o_80 f_11_137 (sh_11 _) (by decide)) <| e_iret D80_65 rfl
/-! x_witness -/
theorem cc_81 : cod 81 = cX11_witness := rfl
theorem D81_0 : decode (cod 81) 0 = .ok (.aload_n 0, 1) := by rw [cc_81]; decide +kernel
theorem D81_1 : decode (cod 81) 1 = .ok (.iload_n 1, 1) := by rw [cc_81]; decide +kernel
theorem D81_2 : decode (cod 81) 2 = .ok (.iload_n 2, 1) := by rw [cc_81]; decide +kernel
theorem D81_3 : decode (cod 81) 3 = .ok (.iload_n 3, 1) := by rw [cc_81]; decide +kernel
theorem D81_4 : decode (cod 81) 4 = .ok (.iload 4, 2) := by rw [cc_81]; decide +kernel
theorem D81_6 : decode (cod 81) 6 = .ok (.iload 5, 2) := by rw [cc_81]; decide +kernel
theorem D81_8 : decode (cod 81) 8 = .ok (.iload 6, 2) := by rw [cc_81]; decide +kernel
theorem D81_10 : decode (cod 81) 10 = .ok (.invokevirtual 147, 3) := by rw [cc_81]; decide +kernel
theorem D81_13 : decode (cod 81) 13 = .ok (.ifCond .eq 12, 3) := by rw [cc_81]; decide +kernel
theorem D81_16 : decode (cod 81) 16 = .ok (.aload_n 0, 1) := by rw [cc_81]; decide +kernel
theorem D81_17 : decode (cod 81) 17 = .ok (.getfield 140, 3) := by rw [cc_81]; decide +kernel
theorem D81_20 : decode (cod 81) 20 = .ok (.bipush 20, 2) := by rw [cc_81]; decide +kernel
theorem D81_22 : decode (cod 81) 22 = .ok (.if_icmp .lt 5, 3) := by rw [cc_81]; decide +kernel
theorem D81_25 : decode (cod 81) 25 = .ok (.iconst (-1), 1) := by rw [cc_81]; decide +kernel
theorem D81_26 : decode (cod 81) 26 = .ok (.ireturn, 1) := by rw [cc_81]; decide +kernel
theorem D81_27 : decode (cod 81) 27 = .ok (.aload_n 0, 1) := by rw [cc_81]; decide +kernel
theorem D81_28 : decode (cod 81) 28 = .ok (.getfield 35, 3) := by rw [cc_81]; decide +kernel
theorem D81_31 : decode (cod 81) 31 = .ok (.aload_n 0, 1) := by rw [cc_81]; decide +kernel
theorem D81_32 : decode (cod 81) 32 = .ok (.getfield 140, 3) := by rw [cc_81]; decide +kernel
theorem D81_35 : decode (cod 81) 35 = .ok (.aaload, 1) := by rw [cc_81]; decide +kernel
theorem D81_36 : decode (cod 81) 36 = .ok (.astore 7, 2) := by rw [cc_81]; decide +kernel
theorem D81_38 : decode (cod 81) 38 = .ok (.aload 7, 2) := by rw [cc_81]; decide +kernel
theorem D81_40 : decode (cod 81) 40 = .ok (.iload_n 1, 1) := by rw [cc_81]; decide +kernel
theorem D81_41 : decode (cod 81) 41 = .ok (.iload_n 2, 1) := by rw [cc_81]; decide +kernel
theorem D81_42 : decode (cod 81) 42 = .ok (.iload_n 3, 1) := by rw [cc_81]; decide +kernel
theorem D81_43 : decode (cod 81) 43 = .ok (.iload 4, 2) := by rw [cc_81]; decide +kernel
theorem D81_45 : decode (cod 81) 45 = .ok (.iload 5, 2) := by rw [cc_81]; decide +kernel
theorem D81_47 : decode (cod 81) 47 = .ok (.iload 6, 2) := by rw [cc_81]; decide +kernel
theorem D81_49 : decode (cod 81) 49 = .ok (.invokevirtual 151, 3) := by rw [cc_81]; decide +kernel
theorem D81_52 : decode (cod 81) 52 = .ok (.aload 7, 2) := by rw [cc_81]; decide +kernel
theorem D81_54 : decode (cod 81) 54 = .ok (.aload_n 0, 1) := by rw [cc_81]; decide +kernel
theorem D81_55 : decode (cod 81) 55 = .ok (.getfield 137, 3) := by rw [cc_81]; decide +kernel
theorem D81_58 : decode (cod 81) 58 = .ok (.putfield 155, 3) := by rw [cc_81]; decide +kernel
theorem D81_61 : decode (cod 81) 61 = .ok (.aload_n 0, 1) := by rw [cc_81]; decide +kernel
theorem D81_62 : decode (cod 81) 62 = .ok (.aload 7, 2) := by rw [cc_81]; decide +kernel
theorem D81_64 : decode (cod 81) 64 = .ok (.aload_n 0, 1) := by rw [cc_81]; decide +kernel
theorem D81_65 : decode (cod 81) 65 = .ok (.aload 7, 2) := by rw [cc_81]; decide +kernel
theorem D81_67 : decode (cod 81) 67 = .ok (.invokevirtual 158, 3) := by rw [cc_81]; decide +kernel
theorem D81_70 : decode (cod 81) 70 = .ok (.invokevirtual 162, 3) := by rw [cc_81]; decide +kernel
theorem D81_73 : decode (cod 81) 73 = .ok (.aload_n 0, 1) := by rw [cc_81]; decide +kernel
theorem D81_74 : decode (cod 81) 74 = .ok (.dup, 1) := by rw [cc_81]; decide +kernel
theorem D81_75 : decode (cod 81) 75 = .ok (.getfield 140, 3) := by rw [cc_81]; decide +kernel
theorem D81_78 : decode (cod 81) 78 = .ok (.iconst 1, 1) := by rw [cc_81]; decide +kernel
theorem D81_79 : decode (cod 81) 79 = .ok (.iadd, 1) := by rw [cc_81]; decide +kernel
theorem D81_80 : decode (cod 81) 80 = .ok (.putfield 140, 3) := by rw [cc_81]; decide +kernel
theorem D81_83 : decode (cod 81) 83 = .ok (.aload_n 0, 1) := by rw [cc_81]; decide +kernel
theorem D81_84 : decode (cod 81) 84 = .ok (.getfield 140, 3) := by rw [cc_81]; decide +kernel
theorem D81_87 : decode (cod 81) 87 = .ok (.iconst 1, 1) := by rw [cc_81]; decide +kernel
theorem D81_88 : decode (cod 81) 88 = .ok (.isub, 1) := by rw [cc_81]; decide +kernel
theorem D81_89 : decode (cod 81) 89 = .ok (.ireturn, 1) := by rw [cc_81]; decide +kernel
theorem b81_0 {d : Nat} {i0 : Nat} {x1 x2 x3 x4 x5 x6 : Int} {I L : Nat → Nat → Nat → Int} {t : Nat → Nat} : Res (d + 1) 81 0 [vr 11 i0, vi x1, vi x2, vi x3, vi x4, vi x5, vi x6, vx] [] (mk I L t) = (Cal d 109 [vr 11 i0, vi x1, vi x2, vi x3, vi x4, vi x5, vi x6] (mk I L t)).bind fun v => Res (d + 1) 81 13 [vr 11 i0, vi x1, vi x2, vi x3, vi x4, vi x5, vi x6, vx] (psh 109 v.1 []) v.2 :=
  Eq.trans (e_aload_n D81_0 rfl rfl) <| Eq.trans (e_iload_n D81_1 rfl rfl) <| Eq.trans (e_iload_n D81_2 rfl rfl) <| Eq.trans (e_iload_n D81_3 rfl rfl) <| Eq.trans (e_iload D81_4 rfl rfl) <| Eq.trans (e_iload D81_6 rfl rfl) <| Eq.trans (e_iload D81_8 rfl rfl) <| e_callV D81_10 rfl o_81 m_11_147 (by decide) rfl rfl
theorem b81_13 {d : Nat} {i0 : Nat} {x1 x2 x3 x4 x5 x6 xs0 : Int} {I L : Nat → Nat → Nat → Int} {t : Nat → Nat} : Res d 81 13 [vr 11 i0, vi x1, vi x2, vi x3, vi x4, vi x5, vi x6, vx] [vi xs0] (mk I L t) = if xs0 = 0 then Res d 81 25 [vr 11 i0, vi x1, vi x2, vi x3, vi x4, vi x5, vi x6, vx] [] (mk I L t) else Res d 81 16 [vr 11 i0, vi x1, vi x2, vi x3, vi x4, vi x5, vi x6, vx] [] (mk I L t) :=
  e_ifeq D81_13 rfl rfl
theorem b81_16 {d : Nat} {i0 : Nat} {x1 x2 x3 x4 x5 x6 : Int} {I L : Nat → Nat → Nat → Int} {t : Nat → Nat} : Res d 81 16 [vr 11 i0, vi x1, vi x2, vi x3, vi x4, vi x5, vi x6, vx] [] (mk I L t) = if I 11 i0 12 < 20 then Res d 81 27 [vr 11 i0, vi x1, vi x2, vi x3, vi x4, vi x5, vi x6, vx] [] (mk I L t) else Res d 81 25 [vr 11 i0, vi x1, vi x2, vi x3, vi x4, vi x5, vi x6, vx] [] (mk I L t) :=
  Eq.trans (e_aload_n D81_16 rfl rfl) <| Eq.trans (e_getI D81_17 rfl o_81 f_11_140 (sh_11 _) (by decide)) <| Eq.trans (e_bipush (x := 20) D81_20 rfl rfl) <| e_iclt D81_22 rfl rfl
theorem b81_25 {d : Nat} {i0 : Nat} {x1 x2 x3 x4 x5 x6 : Int} {I L : Nat → Nat → Nat → Int} {t : Nat → Nat} : Res d 81 25 [vr 11 i0, vi x1, vi x2, vi x3, vi x4, vi x5, vi x6, vx] [] (mk I L t) = some (vi (-1), (mk I L t)) :=
  Eq.trans (e_iconst (x := -1) D81_25 rfl rfl) <| e_iret D81_26 rfl
theorem b81_27 {d : Nat} {i0 : Nat} {x1 x2 x3 x4 x5 x6 : Int} {I L : Nat → Nat → Nat → Int} {t : Nat → Nat} (g1 : 0 ≤ I 11 i0 12 ∧ I 11 i0 12 < 20) : Res (d + 1) 81 27 [vr 11 i0, vi x1, vi x2, vi x3, vi x4, vi x5, vi x6, vx] [] (mk I L t) = (Cal d 21 [vr 3 ((I 11 i0 12).toNat), vi x1, vi x2, vi x3, vi x4, vi x5, vi x6] (mk I L t)).bind fun v => Res (d + 1) 81 52 [vr 11 i0, vi x1, vi x2, vi x3, vi x4, vi x5, vi x6, vr 3 ((I 11 i0 12).toNat)] (psh 21 v.1 []) v.2 :=
  Eq.trans (e_aload_n D81_27 rfl rfl) <| Eq.trans (e_getP (p := (43, i0)) D81_28 rfl o_81 f_11_35 (sh_11 _) (by decide) (pp_11_4 _ _)) <| Eq.trans (e_aload_n D81_31 rfl rfl) <| Eq.trans (e_getI D81_32 rfl o_81 f_11_140 (sh_11 _) (by decide)) <| Eq.trans (e_aald (p := (3, (I 11 i0 12).toNat)) D81_35 rfl (ae_43 _) (aq_43 _) (pa_43 _ _ _) g1) <| Eq.trans (e_astore (ls1 := [vr 11 i0, vi x1, vi x2, vi x3, vi x4, vi x5, vi x6, vr 3 ((I 11 i0 12).toNat)]) D81_36 rfl (show 7 < 8 by decide) rfl) <| Eq.trans (e_aload D81_38 rfl rfl) <| Eq.trans (e_iload_n D81_40 rfl rfl) <| Eq.trans (e_iload_n D81_41 rfl rfl) <| Eq.trans (e_iload_n D81_42 rfl rfl) <| Eq.trans (e_iload D81_43 rfl rfl) <| Eq.trans (e_iload D81_45 rfl rfl) <| Eq.trans (e_iload D81_47 rfl rfl) <| e_callV D81_49 rfl o_81 m_11_151 (by decide) rfl rfl
theorem b81_52 {d : Nat} {i0 i7 : Nat} {x1 x2 x3 x4 x5 x6 : Int} {I L : Nat → Nat → Nat → Int} {t : Nat → Nat} : Res (d + 1) 81 52 [vr 11 i0, vi x1, vi x2, vi x3, vi x4, vi x5, vi x6, vr 3 i7] [] (mk I L t) = (Cal d 118 [vr 11 i0, vr 3 i7] (mk (up3 I 3 i7 9 (I 11 i0 16)) L t)).bind fun v => Res (d + 1) 81 70 [vr 11 i0, vi x1, vi x2, vi x3, vi x4, vi x5, vi x6, vr 3 i7] (psh 118 v.1 [vr 3 i7, vr 11 i0]) v.2 :=
  Eq.trans (e_aload D81_52 rfl rfl) <| Eq.trans (e_aload_n D81_54 rfl rfl) <| Eq.trans (e_getI D81_55 rfl o_81 f_11_137 (sh_11 _) (by decide)) <| Eq.trans (e_putI D81_58 rfl o_81 f_11_155 (sh_3 _) rfl (by decide) (Or.inl (by decide))) <| Eq.trans (e_aload_n D81_61 rfl rfl) <| Eq.trans (e_aload D81_62 rfl rfl) <| Eq.trans (e_aload_n D81_64 rfl rfl) <| Eq.trans (e_aload D81_65 rfl rfl) <| e_callV D81_67 rfl o_81 m_11_158 (by decide) rfl rfl
theorem b81_70 {d : Nat} {i0 i7 is2 rs2 is1 is0 : Nat} {x1 x2 x3 x4 x5 x6 : Int} {I L : Nat → Nat → Nat → Int} {t : Nat → Nat} : Res (d + 1) 81 70 [vr 11 i0, vi x1, vi x2, vi x3, vi x4, vi x5, vi x6, vr 3 i7] [vr rs2 is2, vr 3 is1, vr 11 is0] (mk I L t) = (Cal d 119 [vr 11 is0, vr 3 is1, vr rs2 is2] (mk I L t)).bind fun v => Res (d + 1) 81 73 [vr 11 i0, vi x1, vi x2, vi x3, vi x4, vi x5, vi x6, vr 3 i7] (psh 119 v.1 []) v.2 :=
  e_callV D81_70 rfl o_81 m_11_162 (by decide) rfl rfl
theorem b81_73 {d : Nat} {i0 i7 : Nat} {x1 x2 x3 x4 x5 x6 : Int} {I L : Nat → Nat → Nat → Int} {t : Nat → Nat} : Res d 81 73 [vr 11 i0, vi x1, vi x2, vi x3, vi x4, vi x5, vi x6, vr 3 i7] [] (mk I L t) = some (vi (w32 (((up3 I 11 i0 12 (w32 ((I 11 i0 12) + 1))) 11 i0 12) - 1)), (mk (up3 I 11 i0 12 (w32 ((I 11 i0 12) + 1))) L t)) :=
  Eq.trans (e_aload_n D81_73 rfl rfl) <| Eq.trans (e_dup D81_74 rfl) <| Eq.trans (e_getI D81_75 rfl o_81 f_11_140 (sh_11 _) (by decide)) <| Eq.trans (e_iconst (x := 1) D81_78 rfl rfl) <| Eq.trans (e_iadd D81_79 rfl) <| Eq.trans (e_putI D81_80 rfl o_81 f_11_140 (sh_11 _) rfl (by decide) (Or.inl (by decide))) <| Eq.trans (e_aload_n D81_83 rfl rfl) <| Eq.trans (e_getI D81_84 rfl o_81 f_11_140 (sh_11 _) (by decide)) <| Eq.trans (e_iconst (x := 1) D81_87 rfl rfl) <| Eq.trans (e_isub D81_88 rfl) <| e_iret D81_89 rfl
/-! x_memory -/
theorem cc_82 : cod 82 = cX11_memory := rfl
theorem D82_0 : decode (cod 82) 0 = .ok (.aload_n 0, 1) := by rw [cc_82]; decide +kernel
theorem D82_1 : decode (cod 82) 1 = .ok (.iload_n 1, 1) := by rw [cc_82]; decide +kernel
theorem D82_2 : decode (cod 82) 2 = .ok (.invokevirtual 166, 3) := by rw [cc_82]; decide +kernel
theorem D82_5 : decode (cod 82) 5 = .ok (.ifCond .eq 27, 3) := by rw [cc_82]; decide +kernel
theorem D82_8 : decode (cod 82) 8 = .ok (.iload_n 2, 1) := by rw [cc_82]; decide +kernel
theorem D82_9 : decode (cod 82) 9 = .ok (.iconst 0, 1) := by rw [cc_82]; decide +kernel
theorem D82_10 : decode (cod 82) 10 = .ok (.bipush 15, 2) := by rw [cc_82]; decide +kernel
theorem D82_12 : decode (cod 82) 12 = .ok (.invokestatic 76, 3) := by rw [cc_82]; decide +kernel
theorem D82_15 : decode (cod 82) 15 = .ok (.ifCond .eq 17, 3) := by rw [cc_82]; decide +kernel
theorem D82_18 : decode (cod 82) 18 = .ok (.aload_n 0, 1) := by rw [cc_82]; decide +kernel
theorem D82_19 : decode (cod 82) 19 = .ok (.getfield 35, 3) := by rw [cc_82]; decide +kernel
theorem D82_22 : decode (cod 82) 22 = .ok (.iload_n 1, 1) := by rw [cc_82]; decide +kernel
theorem D82_23 : decode (cod 82) 23 = .ok (.aaload, 1) := by rw [cc_82]; decide +kernel
theorem D82_24 : decode (cod 82) 24 = .ok (.getfield 169, 3) := by rw [cc_82]; decide +kernel
theorem D82_27 : decode (cod 82) 27 = .ok (.iload_n 2, 1) := by rw [cc_82]; decide +kernel
theorem D82_28 : decode (cod 82) 28 = .ok (.iaload, 1) := by rw [cc_82]; decide +kernel
theorem D82_29 : decode (cod 82) 29 = .ok (.goto 4, 3) := by rw [cc_82]; decide +kernel
theorem D82_32 : decode (cod 82) 32 = .ok (.iconst (-1), 1) := by rw [cc_82]; decide +kernel
theorem D82_33 : decode (cod 82) 33 = .ok (.ireturn, 1) := by rw [cc_82]; decide +kernel
theorem b82_0 {d : Nat} {i0 : Nat} {x1 x2 : Int} {I L : Nat → Nat → Nat → Int} {t : Nat → Nat} : Res (d + 1) 82 0 [vr 11 i0, vi x1, vi x2] [] (mk I L t) = (Cal d 106 [vr 11 i0, vi x1] (mk I L t)).bind fun v => Res (d + 1) 82 5 [vr 11 i0, vi x1, vi x2] (psh 106 v.1 []) v.2 :=
  Eq.trans (e_aload_n D82_0 rfl rfl) <| Eq.trans (e_iload_n D82_1 rfl rfl) <| e_callV D82_2 rfl o_82 m_11_166 (by decide) rfl rfl
theorem b82_5 {d : Nat} {i0 : Nat} {x1 x2 xs0 : Int} {I L : Nat → Nat → Nat → Int} {t : Nat → Nat} : Res d 82 5 [vr 11 i0, vi x1, vi x2] [vi xs0] (mk I L t) = if xs0 = 0 then Res d 82 32 [vr 11 i0, vi x1, vi x2] [] (mk I L t) else Res d 82 8 [vr 11 i0, vi x1, vi x2] [] (mk I L t) :=
  e_ifeq D82_5 rfl rfl
theorem b82_8 {d : Nat} {i0 : Nat} {x1 x2 : Int} {I L : Nat → Nat → Nat → Int} {t : Nat → Nat} : Res (d + 1) 82 8 [vr 11 i0, vi x1, vi x2] [] (mk I L t) = (Cal d 102 [vi x2, vi 0, vi 15] (mk I L t)).bind fun v => Res (d + 1) 82 15 [vr 11 i0, vi x1, vi x2] (psh 102 v.1 []) v.2 :=
  Eq.trans (e_iload_n D82_8 rfl rfl) <| Eq.trans (e_iconst (x := 0) D82_9 rfl rfl) <| Eq.trans (e_bipush (x := 15) D82_10 rfl rfl) <| e_callS D82_12 rfl o_82 m_11_76 (by decide) rfl rfl
theorem b82_15 {d : Nat} {i0 : Nat} {x1 x2 xs0 : Int} {I L : Nat → Nat → Nat → Int} {t : Nat → Nat} : Res d 82 15 [vr 11 i0, vi x1, vi x2] [vi xs0] (mk I L t) = if xs0 = 0 then Res d 82 32 [vr 11 i0, vi x1, vi x2] [] (mk I L t) else Res d 82 18 [vr 11 i0, vi x1, vi x2] [] (mk I L t) :=
  e_ifeq D82_15 rfl rfl
theorem b82_18 {d : Nat} {i0 : Nat} {x1 x2 : Int} {I L : Nat → Nat → Nat → Int} {t : Nat → Nat} (g1 : 0 ≤ x1 ∧ x1 < 20) (g2 : 0 ≤ x2 ∧ x2 < 16) : Res d 82 18 [vr 11 i0, vi x1, vi x2] [] (mk I L t) = Res d 82 33 [vr 11 i0, vi x1, vi x2] [vi (I 28 x1.toNat x2.toNat)] (mk I L t) :=
  Eq.trans (e_aload_n D82_18 rfl rfl) <| Eq.trans (e_getP (p := (43, i0)) D82_19 rfl o_82 f_11_35 (sh_11 _) (by decide) (pp_11_4 _ _)) <| Eq.trans (e_iload_n D82_22 rfl rfl) <| Eq.trans (e_aald (p := (3, x1.toNat)) D82_23 rfl (ae_43 _) (aq_43 _) (pa_43 _ _ _) g1) <| Eq.trans (e_getP (p := (28, x1.toNat)) D82_24 rfl o_82 f_11_169 (sh_3 _) (by decide) (pp_3_0 _ _)) <| Eq.trans (e_iload_n D82_27 rfl rfl) <| Eq.trans (e_iald D82_28 rfl (al_28 _) g2) <| e_goto (q1 := 33) D82_29 rfl
theorem b82_32 {d : Nat} {i0 : Nat} {x1 x2 : Int} {I L : Nat → Nat → Nat → Int} {t : Nat → Nat} : Res d 82 32 [vr 11 i0, vi x1, vi x2] [] (mk I L t) = Res d 82 33 [vr 11 i0, vi x1, vi x2] [vi (-1)] (mk I L t) :=
  e_iconst (x := -1) D82_32 rfl rfl
theorem b82_33 {d : Nat} {i0 : Nat} {x1 x2 xs0 : Int} {I L : Nat → Nat → Nat → Int} {t : Nat → Nat} : Res d 82 33 [vr 11 i0, vi x1, vi x2] [vi xs0] (mk I L t) = some (vi xs0, (mk I L t)) :=
  e_iret D82_33 rfl
/-! x_far -/
theorem cc_83 : cod 83 = cX11_far := rfl
theorem D83_0 : decode (cod 83) 0 = .ok (.aload_n 0, 1) := by rw [cc_83]; decide +kernel
theorem D83_1 : decode (cod 83) 1 = .ok (.iload_n 1, 1) := by rw [cc_83]; decide +kernel
theorem D83_2 : decode (cod 83) 2 = .ok (.invokevirtual 166, 3) := by rw [cc_83]; decide +kernel
theorem D83_5 : decode (cod 83) 5 = .ok (.ifCond .eq 30, 3) := by rw [cc_83]; decide +kernel
theorem D83_8 : decode (cod 83) 8 = .ok (.aload_n 0, 1) := by rw [cc_83]; decide +kernel
theorem D83_9 : decode (cod 83) 9 = .ok (.iload_n 2, 1) := by rw [cc_83]; decide +kernel
theorem D83_10 : decode (cod 83) 10 = .ok (.invokevirtual 94, 3) := by rw [cc_83]; decide +kernel
theorem D83_13 : decode (cod 83) 13 = .ok (.ifCond .eq 22, 3) := by rw [cc_83]; decide +kernel
theorem D83_16 : decode (cod 83) 16 = .ok (.aload_n 0, 1) := by rw [cc_83]; decide +kernel
theorem D83_17 : decode (cod 83) 17 = .ok (.aload_n 0, 1) := by rw [cc_83]; decide +kernel
theorem D83_18 : decode (cod 83) 18 = .ok (.getfield 35, 3) := by rw [cc_83]; decide +kernel
theorem D83_21 : decode (cod 83) 21 = .ok (.iload_n 1, 1) := by rw [cc_83]; decide +kernel
theorem D83_22 : decode (cod 83) 22 = .ok (.aaload, 1) := by rw [cc_83]; decide +kernel
theorem D83_23 : decode (cod 83) 23 = .ok (.aload_n 0, 1) := by rw [cc_83]; decide +kernel
theorem D83_24 : decode (cod 83) 24 = .ok (.getfield 11, 3) := by rw [cc_83]; decide +kernel
theorem D83_27 : decode (cod 83) 27 = .ok (.iload_n 2, 1) := by rw [cc_83]; decide +kernel
theorem D83_28 : decode (cod 83) 28 = .ok (.aaload, 1) := by rw [cc_83]; decide +kernel
theorem D83_29 : decode (cod 83) 29 = .ok (.invokevirtual 172, 3) := by rw [cc_83]; decide +kernel
theorem D83_32 : decode (cod 83) 32 = .ok (.goto 4, 3) := by rw [cc_83]; decide +kernel
theorem D83_35 : decode (cod 83) 35 = .ok (.iconst (-1), 1) := by rw [cc_83]; decide +kernel
theorem D83_36 : decode (cod 83) 36 = .ok (.ireturn, 1) := by rw [cc_83]; decide +kernel
theorem b83_0 {d : Nat} {i0 : Nat} {x1 x2 : Int} {I L : Nat → Nat → Nat → Int} {t : Nat → Nat} : Res (d + 1) 83 0 [vr 11 i0, vi x1, vi x2] [] (mk I L t) = (Cal d 106 [vr 11 i0, vi x1] (mk I L t)).bind fun v => Res (d + 1) 83 5 [vr 11 i0, vi x1, vi x2] (psh 106 v.1 []) v.2 :=
  Eq.trans (e_aload_n D83_0 rfl rfl) <| Eq.trans (e_iload_n D83_1 rfl rfl) <| e_callV D83_2 rfl o_83 m_11_166 (by decide) rfl rfl
theorem b83_5 {d : Nat} {i0 : Nat} {x1 x2 xs0 : Int} {I L : Nat → Nat → Nat → Int} {t : Nat → Nat} : Res d 83 5 [vr 11 i0, vi x1, vi x2] [vi xs0] (mk I L t) = if xs0 = 0 then Res d 83 35 [vr 11 i0, vi x1, vi x2] [] (mk I L t) else Res d 83 8 [vr 11 i0, vi x1, vi x2] [] (mk I L t) :=
  e_ifeq D83_5 rfl rfl
theorem b83_8 {d : Nat} {i0 : Nat} {x1 x2 : Int} {I L : Nat → Nat → Nat → Int} {t : Nat → Nat} : Res (d + 1) 83 8 [vr 11 i0, vi x1, vi x2] [] (mk I L t) = (Cal d 104 [vr 11 i0, vi x2] (mk I L t)).bind fun v => Res (d + 1) 83 13 [vr 11 i0, vi x1, vi x2] (psh 104 v.1 []) v.2 :=
  Eq.trans (e_aload_n D83_8 rfl rfl) <| Eq.trans (e_iload_n D83_9 rfl rfl) <| e_callV D83_10 rfl o_83 m_11_94 (by decide) rfl rfl
theorem b83_13 {d : Nat} {i0 : Nat} {x1 x2 xs0 : Int} {I L : Nat → Nat → Nat → Int} {t : Nat → Nat} : Res d 83 13 [vr 11 i0, vi x1, vi x2] [vi xs0] (mk I L t) = if xs0 = 0 then Res d 83 35 [vr 11 i0, vi x1, vi x2] [] (mk I L t) else Res d 83 16 [vr 11 i0, vi x1, vi x2] [] (mk I L t) :=
  e_ifeq D83_13 rfl rfl
theorem b83_16 {d : Nat} {i0 : Nat} {x1 x2 : Int} {I L : Nat → Nat → Nat → Int} {t : Nat → Nat} (g1 : 0 ≤ x1 ∧ x1 < 20) (g2 : 0 ≤ x2 ∧ x2 < 120) : Res (d + 1) 83 16 [vr 11 i0, vi x1, vi x2] [] (mk I L t) = (Cal d 115 [vr 11 i0, vr 3 x1.toNat, vr 1 x2.toNat] (mk I L t)).bind fun v => Res (d + 1) 83 32 [vr 11 i0, vi x1, vi x2] (psh 115 v.1 []) v.2 :=
  Eq.trans (e_aload_n D83_16 rfl rfl) <| Eq.trans (e_aload_n D83_17 rfl rfl) <| Eq.trans (e_getP (p := (43, i0)) D83_18 rfl o_83 f_11_35 (sh_11 _) (by decide) (pp_11_4 _ _)) <| Eq.trans (e_iload_n D83_21 rfl rfl) <| Eq.trans (e_aald (p := (3, x1.toNat)) D83_22 rfl (ae_43 _) (aq_43 _) (pa_43 _ _ _) g1) <| Eq.trans (e_aload_n D83_23 rfl rfl) <| Eq.trans (e_getP (p := (40, i0)) D83_24 rfl o_83 f_11_11 (sh_11 _) (by decide) (pp_11_0 _ _)) <| Eq.trans (e_iload_n D83_27 rfl rfl) <| Eq.trans (e_aald (p := (1, x2.toNat)) D83_28 rfl (ae_40 _) (aq_40 _) (pa_40 _ _ _) g2) <| e_callV D83_29 rfl o_83 m_11_172 (by decide) rfl rfl
theorem b83_32 {d : Nat} {i0 : Nat} {x1 x2 xs0 : Int} {I L : Nat → Nat → Nat → Int} {t : Nat → Nat} : Res d 83 32 [vr 11 i0, vi x1, vi x2] [vi xs0] (mk I L t) = Res d 83 36 [vr 11 i0, vi x1, vi x2] [vi xs0] (mk I L t) :=
  e_goto (q1 := 36) D83_32 rfl
theorem b83_35 {d : Nat} {i0 : Nat} {x1 x2 : Int} {I L : Nat → Nat → Nat → Int} {t : Nat → Nat} : Res d 83 35 [vr 11 i0, vi x1, vi x2] [] (mk I L t) = Res d 83 36 [vr 11 i0, vi x1, vi x2] [vi (-1)] (mk I L t) :=
  e_iconst (x := -1) D83_35 rfl rfl
theorem b83_36 {d : Nat} {i0 : Nat} {x1 x2 xs0 : Int} {I L : Nat → Nat → Nat → Int} {t : Nat → Nat} : Res d 83 36 [vr 11 i0, vi x1, vi x2] [vi xs0] (mk I L t) = some (vi xs0, (mk I L t)) :=
  e_iret D83_36 rfl
/-! x_odds -/
theorem cc_84 : cod 84 = cX11_odds := rfl
theorem D84_0 : decode (cod 84) 0 = .ok (.aload_n 0, 1) := by rw [cc_84]; decide +kernel
theorem D84_1 : decode (cod 84) 1 = .ok (.iload_n 1, 1) := by rw [cc_84]; decide +kernel
theorem D84_2 : decode (cod 84) 2 = .ok (.invokevirtual 166, 3) := by rw [cc_84]; decide +kernel
theorem D84_5 : decode (cod 84) 5 = .ok (.ifCond .eq 20, 3) := by rw [cc_84]; decide +kernel
theorem D84_8 : decode (cod 84) 8 = .ok (.aload_n 0, 1) := by rw [cc_84]; decide +kernel
theorem D84_9 : decode (cod 84) 9 = .ok (.iload_n 2, 1) := by rw [cc_84]; decide +kernel
theorem D84_10 : decode (cod 84) 10 = .ok (.invokevirtual 107, 3) := by rw [cc_84]; decide +kernel
theorem D84_13 : decode (cod 84) 13 = .ok (.ifCond .eq 12, 3) := by rw [cc_84]; decide +kernel
theorem D84_16 : decode (cod 84) 16 = .ok (.iload_n 3, 1) := by rw [cc_84]; decide +kernel
theorem D84_17 : decode (cod 84) 17 = .ok (.ifCond .eq 10, 3) := by rw [cc_84]; decide +kernel
theorem D84_20 : decode (cod 84) 20 = .ok (.iload_n 3, 1) := by rw [cc_84]; decide +kernel
theorem D84_21 : decode (cod 84) 21 = .ok (.iconst 1, 1) := by rw [cc_84]; decide +kernel
theorem D84_22 : decode (cod 84) 22 = .ok (.if_icmp .eq 5, 3) := by rw [cc_84]; decide +kernel
theorem D84_25 : decode (cod 84) 25 = .ok (.iconst (-1), 1) := by rw [cc_84]; decide +kernel
theorem D84_26 : decode (cod 84) 26 = .ok (.ireturn, 1) := by rw [cc_84]; decide +kernel
theorem D84_27 : decode (cod 84) 27 = .ok (.aload_n 0, 1) := by rw [cc_84]; decide +kernel
theorem D84_28 : decode (cod 84) 28 = .ok (.getfield 22, 3) := by rw [cc_84]; decide +kernel
theorem D84_31 : decode (cod 84) 31 = .ok (.iload_n 2, 1) := by rw [cc_84]; decide +kernel
theorem D84_32 : decode (cod 84) 32 = .ok (.aaload, 1) := by rw [cc_84]; decide +kernel
theorem D84_33 : decode (cod 84) 33 = .ok (.iload 4, 2) := by rw [cc_84]; decide +kernel
theorem D84_35 : decode (cod 84) 35 = .ok (.iload 5, 2) := by rw [cc_84]; decide +kernel
theorem D84_37 : decode (cod 84) 37 = .ok (.invokestatic 176, 3) := by rw [cc_84]; decide +kernel
theorem D84_40 : decode (cod 84) 40 = .ok (.ifCond .eq 23, 3) := by rw [cc_84]; decide +kernel
theorem D84_43 : decode (cod 84) 43 = .ok (.iload 6, 2) := by rw [cc_84]; decide +kernel
theorem D84_45 : decode (cod 84) 45 = .ok (.iconst (-1), 1) := by rw [cc_84]; decide +kernel
theorem D84_46 : decode (cod 84) 46 = .ok (.if_icmp .eq 19, 3) := by rw [cc_84]; decide +kernel
theorem D84_49 : decode (cod 84) 49 = .ok (.aload_n 0, 1) := by rw [cc_84]; decide +kernel
theorem D84_50 : decode (cod 84) 50 = .ok (.getfield 22, 3) := by rw [cc_84]; decide +kernel
theorem D84_53 : decode (cod 84) 53 = .ok (.iload_n 2, 1) := by rw [cc_84]; decide +kernel
theorem D84_54 : decode (cod 84) 54 = .ok (.aaload, 1) := by rw [cc_84]; decide +kernel
theorem D84_55 : decode (cod 84) 55 = .ok (.iload 6, 2) := by rw [cc_84]; decide +kernel
theorem D84_57 : decode (cod 84) 57 = .ok (.invokevirtual 180, 3) := by rw [cc_84]; decide +kernel
theorem D84_60 : decode (cod 84) 60 = .ok (.ifCond .ne 5, 3) := by rw [cc_84]; decide +kernel
theorem D84_63 : decode (cod 84) 63 = .ok (.iconst (-1), 1) := by rw [cc_84]; decide +kernel
theorem D84_64 : decode (cod 84) 64 = .ok (.ireturn, 1) := by rw [cc_84]; decide +kernel
theorem D84_65 : decode (cod 84) 65 = .ok (.aload_n 0, 1) := by rw [cc_84]; decide +kernel
theorem D84_66 : decode (cod 84) 66 = .ok (.aload_n 0, 1) := by rw [cc_84]; decide +kernel
theorem D84_67 : decode (cod 84) 67 = .ok (.getfield 35, 3) := by rw [cc_84]; decide +kernel
theorem D84_70 : decode (cod 84) 70 = .ok (.iload_n 1, 1) := by rw [cc_84]; decide +kernel
theorem D84_71 : decode (cod 84) 71 = .ok (.aaload, 1) := by rw [cc_84]; decide +kernel
theorem D84_72 : decode (cod 84) 72 = .ok (.aload_n 0, 1) := by rw [cc_84]; decide +kernel
theorem D84_73 : decode (cod 84) 73 = .ok (.getfield 22, 3) := by rw [cc_84]; decide +kernel
theorem D84_76 : decode (cod 84) 76 = .ok (.iload_n 2, 1) := by rw [cc_84]; decide +kernel
theorem D84_77 : decode (cod 84) 77 = .ok (.aaload, 1) := by rw [cc_84]; decide +kernel
theorem D84_78 : decode (cod 84) 78 = .ok (.iload_n 3, 1) := by rw [cc_84]; decide +kernel
theorem D84_79 : decode (cod 84) 79 = .ok (.iload 4, 2) := by rw [cc_84]; decide +kernel
theorem D84_81 : decode (cod 84) 81 = .ok (.iload 5, 2) := by rw [cc_84]; decide +kernel
theorem D84_83 : decode (cod 84) 83 = .ok (.invokevirtual 183, 3) := by rw [cc_84]; decide +kernel
theorem D84_86 : decode (cod 84) 86 = .ok (.aload_n 0, 1) := by rw [cc_84]; decide +kernel
theorem D84_87 : decode (cod 84) 87 = .ok (.getfield 61, 3) := by rw [cc_84]; decide +kernel
theorem D84_90 : decode (cod 84) 90 = .ok (.iload 6, 2) := by rw [cc_84]; decide +kernel
theorem D84_92 : decode (cod 84) 92 = .ok (.invokevirtual 187, 3) := by rw [cc_84]; decide +kernel
theorem D84_95 : decode (cod 84) 95 = .ok (.ireturn, 1) := by rw [cc_84]; decide +kernel
theorem b84_0 {d : Nat} {i0 : Nat} {x1 x2 x3 x4 x5 x6 : Int} {I L : Nat → Nat → Nat → Int} {t : Nat → Nat} : Res (d + 1) 84 0 [vr 11 i0, vi x1, vi x2, vi x3, vi x4, vi x5, vi x6] [] (mk I L t) = (Cal d 106 [vr 11 i0, vi x1] (mk I L t)).bind fun v => Res (d + 1) 84 5 [vr 11 i0, vi x1, vi x2, vi x3, vi x4, vi x5, vi x6] (psh 106 v.1 []) v.2 :=
  Eq.trans (e_aload_n D84_0 rfl rfl) <| Eq.trans (e_iload_n D84_1 rfl rfl) <| e_callV D84_2 rfl o_84 m_11_166 (by decide) rfl rfl
theorem b84_5 {d : Nat} {i0 : Nat} {x1 x2 x3 x4 x5 x6 xs0 : Int} {I L : Nat → Nat → Nat → Int} {t : Nat → Nat} : Res d 84 5 [vr 11 i0, vi x1, vi x2, vi x3, vi x4, vi x5, vi x6] [vi xs0] (mk I L t) = if xs0 = 0 then Res d 84 25 [vr 11 i0, vi x1, vi x2, vi x3, vi x4, vi x5, vi x6] [] (mk I L t) else Res d 84 8 [vr 11 i0, vi x1, vi x2, vi x3, vi x4, vi x5, vi x6] [] (mk I L t) :=
  e_ifeq D84_5 rfl rfl
theorem b84_8 {d : Nat} {i0 : Nat} {x1 x2 x3 x4 x5 x6 : Int} {I L : Nat → Nat → Nat → Int} {t : Nat → Nat} : Res (d + 1) 84 8 [vr 11 i0, vi x1, vi x2, vi x3, vi x4, vi x5, vi x6] [] (mk I L t) = (Cal d 105 [vr 11 i0, vi x2] (mk I L t)).bind fun v => Res (d + 1) 84 13 [vr 11 i0, vi x1, vi x2, vi x3, vi x4, vi x5, vi x6] (psh 105 v.1 []) v.2 :=
  Eq.trans (e_aload_n D84_8 rfl rfl) <| Eq.trans (e_iload_n D84_9 rfl rfl) <| e_callV D84_10 rfl o_84 m_11_107 (by decide) rfl rfl
theorem b84_13 {d : Nat} {i0 : Nat} {x1 x2 x3 x4 x5 x6 xs0 : Int} {I L : Nat → Nat → Nat → Int} {t : Nat → Nat} : Res d 84 13 [vr 11 i0, vi x1, vi x2, vi x3, vi x4, vi x5, vi x6] [vi xs0] (mk I L t) = if xs0 = 0 then Res d 84 25 [vr 11 i0, vi x1, vi x2, vi x3, vi x4, vi x5, vi x6] [] (mk I L t) else Res d 84 16 [vr 11 i0, vi x1, vi x2, vi x3, vi x4, vi x5, vi x6] [] (mk I L t) :=
  e_ifeq D84_13 rfl rfl
theorem b84_16 {d : Nat} {i0 : Nat} {x1 x2 x3 x4 x5 x6 : Int} {I L : Nat → Nat → Nat → Int} {t : Nat → Nat} : Res d 84 16 [vr 11 i0, vi x1, vi x2, vi x3, vi x4, vi x5, vi x6] [] (mk I L t) = if x3 = 0 then Res d 84 27 [vr 11 i0, vi x1, vi x2, vi x3, vi x4, vi x5, vi x6] [] (mk I L t) else Res d 84 20 [vr 11 i0, vi x1, vi x2, vi x3, vi x4, vi x5, vi x6] [] (mk I L t) :=
  Eq.trans (e_iload_n D84_16 rfl rfl) <| e_ifeq D84_17 rfl rfl
theorem b84_20 {d : Nat} {i0 : Nat} {x1 x2 x3 x4 x5 x6 : Int} {I L : Nat → Nat → Nat → Int} {t : Nat → Nat} : Res d 84 20 [vr 11 i0, vi x1, vi x2, vi x3, vi x4, vi x5, vi x6] [] (mk I L t) = if x3 = 1 then Res d 84 27 [vr 11 i0, vi x1, vi x2, vi x3, vi x4, vi x5, vi x6] [] (mk I L t) else Res d 84 25 [vr 11 i0, vi x1, vi x2, vi x3, vi x4, vi x5, vi x6] [] (mk I L t) :=
  Eq.trans (e_iload_n D84_20 rfl rfl) <| Eq.trans (e_iconst (x := 1) D84_21 rfl rfl) <| e_iceq D84_22 rfl rfl
theorem b84_25 {d : Nat} {i0 : Nat} {x1 x2 x3 x4 x5 x6 : Int} {I L : Nat → Nat → Nat → Int} {t : Nat → Nat} : Res d 84 25 [vr 11 i0, vi x1, vi x2, vi x3, vi x4, vi x5, vi x6] [] (mk I L t) = some (vi (-1), (mk I L t)) :=
  Eq.trans (e_iconst (x := -1) D84_25 rfl rfl) <| e_iret D84_26 rfl
theorem b84_27 {d : Nat} {i0 : Nat} {x1 x2 x3 x4 x5 x6 : Int} {I L : Nat → Nat → Nat → Int} {t : Nat → Nat} (g1 : 0 ≤ x2 ∧ x2 < 6) : Res (d + 1) 84 27 [vr 11 i0, vi x1, vi x2, vi x3, vi x4, vi x5, vi x6] [] (mk I L t) = (Cal d 110 [vr 4 x2.toNat, vi x4, vi x5] (mk I L t)).bind fun v => Res (d + 1) 84 40 [vr 11 i0, vi x1, vi x2, vi x3, vi x4, vi x5, vi x6] (psh 110 v.1 []) v.2 :=
  Eq.trans (e_aload_n D84_27 rfl rfl) <| Eq.trans (e_getP (p := (42, i0)) D84_28 rfl o_84 f_11_22 (sh_11 _) (by decide) (pp_11_2 _ _)) <| Eq.trans (e_iload_n D84_31 rfl rfl) <| Eq.trans (e_aald (p := (4, x2.toNat)) D84_32 rfl (ae_42 _) (aq_42 _) (pa_42 _ _ _) g1) <| Eq.trans (e_iload D84_33 rfl rfl) <| Eq.trans (e_iload D84_35 rfl rfl) <| e_callS D84_37 rfl o_84 m_11_176 (by decide) rfl rfl
theorem b84_40 {d : Nat} {i0 : Nat} {x1 x2 x3 x4 x5 x6 xs0 : Int} {I L : Nat → Nat → Nat → Int} {t : Nat → Nat} : Res d 84 40 [vr 11 i0, vi x1, vi x2, vi x3, vi x4, vi x5, vi x6] [vi xs0] (mk I L t) = if xs0 = 0 then Res d 84 63 [vr 11 i0, vi x1, vi x2, vi x3, vi x4, vi x5, vi x6] [] (mk I L t) else Res d 84 43 [vr 11 i0, vi x1, vi x2, vi x3, vi x4, vi x5, vi x6] [] (mk I L t) :=
  e_ifeq D84_40 rfl rfl
theorem b84_43 {d : Nat} {i0 : Nat} {x1 x2 x3 x4 x5 x6 : Int} {I L : Nat → Nat → Nat → Int} {t : Nat → Nat} : Res d 84 43 [vr 11 i0, vi x1, vi x2, vi x3, vi x4, vi x5, vi x6] [] (mk I L t) = if x6 = -1 then Res d 84 65 [vr 11 i0, vi x1, vi x2, vi x3, vi x4, vi x5, vi x6] [] (mk I L t) else Res d 84 49 [vr 11 i0, vi x1, vi x2, vi x3, vi x4, vi x5, vi x6] [] (mk I L t) :=
  Eq.trans (e_iload D84_43 rfl rfl) <| Eq.trans (e_iconst (x := -1) D84_45 rfl rfl) <| e_iceq D84_46 rfl rfl
theorem b84_49 {d : Nat} {i0 : Nat} {x1 x2 x3 x4 x5 x6 : Int} {I L : Nat → Nat → Nat → Int} {t : Nat → Nat} (g1 : 0 ≤ x2 ∧ x2 < 6) : Res (d + 1) 84 49 [vr 11 i0, vi x1, vi x2, vi x3, vi x4, vi x5, vi x6] [] (mk I L t) = (Cal d 25 [vr 4 x2.toNat, vi x6] (mk I L t)).bind fun v => Res (d + 1) 84 60 [vr 11 i0, vi x1, vi x2, vi x3, vi x4, vi x5, vi x6] (psh 25 v.1 []) v.2 :=
  Eq.trans (e_aload_n D84_49 rfl rfl) <| Eq.trans (e_getP (p := (42, i0)) D84_50 rfl o_84 f_11_22 (sh_11 _) (by decide) (pp_11_2 _ _)) <| Eq.trans (e_iload_n D84_53 rfl rfl) <| Eq.trans (e_aald (p := (4, x2.toNat)) D84_54 rfl (ae_42 _) (aq_42 _) (pa_42 _ _ _) g1) <| Eq.trans (e_iload D84_55 rfl rfl) <| e_callV D84_57 rfl o_84 m_11_180 (by decide) rfl rfl
theorem b84_60 {d : Nat} {i0 : Nat} {x1 x2 x3 x4 x5 x6 xs0 : Int} {I L : Nat → Nat → Nat → Int} {t : Nat → Nat} : Res d 84 60 [vr 11 i0, vi x1, vi x2, vi x3, vi x4, vi x5, vi x6] [vi xs0] (mk I L t) = if ¬ xs0 = 0 then Res d 84 65 [vr 11 i0, vi x1, vi x2, vi x3, vi x4, vi x5, vi x6] [] (mk I L t) else Res d 84 63 [vr 11 i0, vi x1, vi x2, vi x3, vi x4, vi x5, vi x6] [] (mk I L t) :=
  e_ifne D84_60 rfl rfl
theorem b84_63 {d : Nat} {i0 : Nat} {x1 x2 x3 x4 x5 x6 : Int} {I L : Nat → Nat → Nat → Int} {t : Nat → Nat} : Res d 84 63 [vr 11 i0, vi x1, vi x2, vi x3, vi x4, vi x5, vi x6] [] (mk I L t) = some (vi (-1), (mk I L t)) :=
  Eq.trans (e_iconst (x := -1) D84_63 rfl rfl) <| e_iret D84_64 rfl
theorem b84_65 {d : Nat} {i0 : Nat} {x1 x2 x3 x4 x5 x6 : Int} {I L : Nat → Nat → Nat → Int} {t : Nat → Nat} (g1 : 0 ≤ x1 ∧ x1 < 20) (g2 : 0 ≤ x2 ∧ x2 < 6) : Res (d + 1) 84 65 [vr 11 i0, vi x1, vi x2, vi x3, vi x4, vi x5, vi x6] [] (mk I L t) = (Cal d 127 [vr 11 i0, vr 3 x1.toNat, vr 4 x2.toNat, vi x3, vi x4, vi x5] (mk I L t)).bind fun v => Res (d + 1) 84 86 [vr 11 i0, vi x1, vi x2, vi x3, vi x4, vi x5, vi x6] (psh 127 v.1 []) v.2 :=
  Eq.trans (e_aload_n D84_65 rfl rfl) <| Eq.trans (e_aload_n D84_66 rfl rfl) <| Eq.trans (e_getP (p := (43, i0)) D84_67 rfl o_84 f_11_35 (sh_11 _) (by decide) (pp_11_4 _ _)) <| Eq.trans (e_iload_n D84_70 rfl rfl) <| Eq.trans (e_aald (p := (3, x1.toNat)) D84_71 rfl (ae_43 _) (aq_43 _) (pa_43 _ _ _) g1) <| Eq.trans (e_aload_n D84_72 rfl rfl) <| Eq.trans (e_getP (p := (42, i0)) D84_73 rfl o_84 f_11_22 (sh_11 _) (by decide) (pp_11_2 _ _)) <| Eq.trans (e_iload_n D84_76 rfl rfl) <| Eq.trans (e_aald (p := (4, x2.toNat)) D84_77 rfl (ae_42 _) (aq_42 _) (pa_42 _ _ _) g2) <| Eq.trans (e_iload_n D84_78 rfl rfl) <| Eq.trans (e_iload D84_79 rfl rfl) <| Eq.trans (e_iload D84_81 rfl rfl) <| e_callV D84_83 rfl o_84 m_11_183 (by decide) rfl rfl
theorem b84_86 {d : Nat} {i0 : Nat} {x1 x2 x3 x4 x5 x6 : Int} {I L : Nat → Nat → Nat → Int} {t : Nat → Nat} : Res (d + 1) 84 86 [vr 11 i0, vi x1, vi x2, vi x3, vi x4, vi x5, vi x6] [] (mk I L t) = (Cal d 1 [vr 0 0, vi x6] (mk I L t)).bind fun v => Res (d + 1) 84 95 [vr 11 i0, vi x1, vi x2, vi x3, vi x4, vi x5, vi x6] (psh 1 v.1 []) v.2 :=
  Eq.trans (e_aload_n D84_86 rfl rfl) <| Eq.trans (e_getP (p := (0, 0)) D84_87 rfl o_84 f_11_61 (sh_11 _) (by decide) (pp_11_9 _ _)) <| Eq.trans (e_iload D84_90 rfl rfl) <| e_callV D84_92 rfl o_84 m_11_187 (by decide) rfl rfl
theorem b84_95 {d : Nat} {i0 : Nat} {x1 x2 x3 x4 x5 x6 xs0 : Int} {I L : Nat → Nat → Nat → Int} {t : Nat → Nat} : Res d 84 95 [vr 11 i0, vi x1, vi x2, vi x3, vi x4, vi x5, vi x6] [vi xs0] (mk I L t) = some (vi xs0, (mk I L t)) :=
  e_iret D84_95 rfl
/-! x_show -/
theorem cc_85 : cod 85 = cX11_show := rfl
theorem D85_0 : decode (cod 85) 0 = .ok (.aload_n 0, 1) := by rw [cc_85]; decide +kernel
theorem D85_1 : decode (cod 85) 1 = .ok (.iload_n 1, 1) := by rw [cc_85]; decide +kernel
theorem D85_2 : decode (cod 85) 2 = .ok (.invokevirtual 166, 3) := by rw [cc_85]; decide +kernel
theorem D85_5 : decode (cod 85) 5 = .ok (.ifCond .eq 29, 3) := by rw [cc_85]; decide +kernel
theorem D85_8 : decode (cod 85) 8 = .ok (.aload_n 0, 1) := by rw [cc_85]; decide +kernel
theorem D85_9 : decode (cod 85) 9 = .ok (.iload_n 2, 1) := by rw [cc_85]; decide +kernel
theorem D85_10 : decode (cod 85) 10 = .ok (.invokevirtual 107, 3) := by rw [cc_85]; decide +kernel
theorem D85_13 : decode (cod 85) 13 = .ok (.ifCond .eq 21, 3) := by rw [cc_85]; decide +kernel
theorem D85_16 : decode (cod 85) 16 = .ok (.iload_n 3, 1) := by rw [cc_85]; decide +kernel
theorem D85_17 : decode (cod 85) 17 = .ok (.iconst 0, 1) := by rw [cc_85]; decide +kernel
theorem D85_18 : decode (cod 85) 18 = .ok (.iconst 2, 1) := by rw [cc_85]; decide +kernel
theorem D85_19 : decode (cod 85) 19 = .ok (.invokestatic 76, 3) := by rw [cc_85]; decide +kernel
theorem D85_22 : decode (cod 85) 22 = .ok (.ifCond .eq 12, 3) := by rw [cc_85]; decide +kernel
theorem D85_25 : decode (cod 85) 25 = .ok (.aload_n 0, 1) := by rw [cc_85]; decide +kernel
theorem D85_26 : decode (cod 85) 26 = .ok (.getfield 191, 3) := by rw [cc_85]; decide +kernel
theorem D85_29 : decode (cod 85) 29 = .ok (.bipush 100, 2) := by rw [cc_85]; decide +kernel
theorem D85_31 : decode (cod 85) 31 = .ok (.if_icmp .lt 5, 3) := by rw [cc_85]; decide +kernel
theorem D85_34 : decode (cod 85) 34 = .ok (.iconst (-1), 1) := by rw [cc_85]; decide +kernel
theorem D85_35 : decode (cod 85) 35 = .ok (.ireturn, 1) := by rw [cc_85]; decide +kernel
theorem D85_36 : decode (cod 85) 36 = .ok (.aload_n 0, 1) := by rw [cc_85]; decide +kernel
theorem D85_37 : decode (cod 85) 37 = .ok (.getfield 22, 3) := by rw [cc_85]; decide +kernel
theorem D85_40 : decode (cod 85) 40 = .ok (.iload_n 2, 1) := by rw [cc_85]; decide +kernel
theorem D85_41 : decode (cod 85) 41 = .ok (.aaload, 1) := by rw [cc_85]; decide +kernel
theorem D85_42 : decode (cod 85) 42 = .ok (.iload 4, 2) := by rw [cc_85]; decide +kernel
theorem D85_44 : decode (cod 85) 44 = .ok (.iload 5, 2) := by rw [cc_85]; decide +kernel
theorem D85_46 : decode (cod 85) 46 = .ok (.invokestatic 176, 3) := by rw [cc_85]; decide +kernel
theorem D85_49 : decode (cod 85) 49 = .ok (.ifCond .eq 18, 3) := by rw [cc_85]; decide +kernel
theorem D85_52 : decode (cod 85) 52 = .ok (.aload_n 0, 1) := by rw [cc_85]; decide +kernel
theorem D85_53 : decode (cod 85) 53 = .ok (.getfield 22, 3) := by rw [cc_85]; decide +kernel
theorem D85_56 : decode (cod 85) 56 = .ok (.iload_n 2, 1) := by rw [cc_85]; decide +kernel
theorem D85_57 : decode (cod 85) 57 = .ok (.aaload, 1) := by rw [cc_85]; decide +kernel
theorem D85_58 : decode (cod 85) 58 = .ok (.iload_n 3, 1) := by rw [cc_85]; decide +kernel
theorem D85_59 : decode (cod 85) 59 = .ok (.iload 6, 2) := by rw [cc_85]; decide +kernel
theorem D85_61 : decode (cod 85) 61 = .ok (.invokestatic 194, 3) := by rw [cc_85]; decide +kernel
theorem D85_64 : decode (cod 85) 64 = .ok (.ifCond .ne 5, 3) := by rw [cc_85]; decide +kernel
theorem D85_67 : decode (cod 85) 67 = .ok (.iconst (-1), 1) := by rw [cc_85]; decide +kernel
theorem D85_68 : decode (cod 85) 68 = .ok (.ireturn, 1) := by rw [cc_85]; decide +kernel
theorem D85_69 : decode (cod 85) 69 = .ok (.aload_n 0, 1) := by rw [cc_85]; decide +kernel
theorem D85_70 : decode (cod 85) 70 = .ok (.getfield 41, 3) := by rw [cc_85]; decide +kernel
theorem D85_73 : decode (cod 85) 73 = .ok (.aload_n 0, 1) := by rw [cc_85]; decide +kernel
theorem D85_74 : decode (cod 85) 74 = .ok (.getfield 191, 3) := by rw [cc_85]; decide +kernel
theorem D85_77 : decode (cod 85) 77 = .ok (.aaload, 1) := by rw [cc_85]; decide +kernel
theorem D85_78 : decode (cod 85) 78 = .ok (.astore 7, 2) := by rw [cc_85]; decide +kernel
theorem D85_80 : decode (cod 85) 80 = .ok (.aload 7, 2) := by rw [cc_85]; decide +kernel
theorem D85_82 : decode (cod 85) 82 = .ok (.iload_n 1, 1) := by rw [cc_85]; decide +kernel
theorem D85_83 : decode (cod 85) 83 = .ok (.putfield 197, 3) := by rw [cc_85]; decide +kernel
theorem D85_86 : decode (cod 85) 86 = .ok (.aload 7, 2) := by rw [cc_85]; decide +kernel
theorem D85_88 : decode (cod 85) 88 = .ok (.iload_n 3, 1) := by rw [cc_85]; decide +kernel
theorem D85_89 : decode (cod 85) 89 = .ok (.putfield 200, 3) := by rw [cc_85]; decide +kernel
theorem D85_92 : decode (cod 85) 92 = .ok (.aload 7, 2) := by rw [cc_85]; decide +kernel
theorem D85_94 : decode (cod 85) 94 = .ok (.aload_n 0, 1) := by rw [cc_85]; decide +kernel
theorem D85_95 : decode (cod 85) 95 = .ok (.getfield 137, 3) := by rw [cc_85]; decide +kernel
theorem D85_98 : decode (cod 85) 98 = .ok (.putfield 203, 3) := by rw [cc_85]; decide +kernel
theorem D85_101 : decode (cod 85) 101 = .ok (.aload 7, 2) := by rw [cc_85]; decide +kernel
theorem D85_103 : decode (cod 85) 103 = .ok (.getfield 206, 3) := by rw [cc_85]; decide +kernel
theorem D85_106 : decode (cod 85) 106 = .ok (.aload_n 0, 1) := by rw [cc_85]; decide +kernel
theorem D85_107 : decode (cod 85) 107 = .ok (.getfield 22, 3) := by rw [cc_85]; decide +kernel
theorem D85_110 : decode (cod 85) 110 = .ok (.iload_n 2, 1) := by rw [cc_85]; decide +kernel
theorem D85_111 : decode (cod 85) 111 = .ok (.aaload, 1) := by rw [cc_85]; decide +kernel
theorem D85_112 : decode (cod 85) 112 = .ok (.invokevirtual 210, 3) := by rw [cc_85]; decide +kernel
theorem D85_115 : decode (cod 85) 115 = .ok (.aload 7, 2) := by rw [cc_85]; decide +kernel
theorem D85_117 : decode (cod 85) 117 = .ok (.iload 4, 2) := by rw [cc_85]; decide +kernel
theorem D85_119 : decode (cod 85) 119 = .ok (.putfield 214, 3) := by rw [cc_85]; decide +kernel
theorem D85_122 : decode (cod 85) 122 = .ok (.aload 7, 2) := by rw [cc_85]; decide +kernel
theorem D85_124 : decode (cod 85) 124 = .ok (.iload 5, 2) := by rw [cc_85]; decide +kernel
theorem D85_126 : decode (cod 85) 126 = .ok (.putfield 217, 3) := by rw [cc_85]; decide +kernel
theorem D85_129 : decode (cod 85) 129 = .ok (.aload 7, 2) := by rw [cc_85]; decide +kernel
theorem D85_131 : decode (cod 85) 131 = .ok (.iload 6, 2) := by rw [cc_85]; decide +kernel
theorem D85_133 : decode (cod 85) 133 = .ok (.putfield 220, 3) := by rw [cc_85]; decide +kernel
theorem D85_136 : decode (cod 85) 136 = .ok (.aload 7, 2) := by rw [cc_85]; decide +kernel
theorem D85_138 : decode (cod 85) 138 = .ok (.iload_n 3, 1) := by rw [cc_85]; decide +kernel
theorem D85_139 : decode (cod 85) 139 = .ok (.iconst 2, 1) := by rw [cc_85]; decide +kernel
theorem D85_140 : decode (cod 85) 140 = .ok (.if_icmp .ne 7, 3) := by rw [cc_85]; decide +kernel
theorem D85_143 : decode (cod 85) 143 = .ok (.iconst 0, 1) := by rw [cc_85]; decide +kernel
theorem D85_144 : decode (cod 85) 144 = .ok (.goto 15, 3) := by rw [cc_85]; decide +kernel
theorem D85_147 : decode (cod 85) 147 = .ok (.aload_n 0, 1) := by rw [cc_85]; decide +kernel
theorem D85_148 : decode (cod 85) 148 = .ok (.aload_n 0, 1) := by rw [cc_85]; decide +kernel
theorem D85_149 : decode (cod 85) 149 = .ok (.getfield 35, 3) := by rw [cc_85]; decide +kernel
theorem D85_152 : decode (cod 85) 152 = .ok (.iload_n 1, 1) := by rw [cc_85]; decide +kernel
theorem D85_153 : decode (cod 85) 153 = .ok (.aaload, 1) := by rw [cc_85]; decide +kernel
theorem D85_154 : decode (cod 85) 154 = .ok (.aload 7, 2) := by rw [cc_85]; decide +kernel
theorem D85_156 : decode (cod 85) 156 = .ok (.invokevirtual 223, 3) := by rw [cc_85]; decide +kernel
theorem D85_159 : decode (cod 85) 159 = .ok (.putfield 227, 3) := by rw [cc_85]; decide +kernel
theorem D85_162 : decode (cod 85) 162 = .ok (.aload 7, 2) := by rw [cc_85]; decide +kernel
theorem D85_164 : decode (cod 85) 164 = .ok (.iload 6, 2) := by rw [cc_85]; decide +kernel
theorem D85_166 : decode (cod 85) 166 = .ok (.iconst (-1), 1) := by rw [cc_85]; decide +kernel
theorem D85_167 : decode (cod 85) 167 = .ok (.if_icmp .ne 7, 3) := by rw [cc_85]; decide +kernel
theorem D85_170 : decode (cod 85) 170 = .ok (.iconst (-1), 1) := by rw [cc_85]; decide +kernel
theorem D85_171 : decode (cod 85) 171 = .ok (.goto 20, 3) := by rw [cc_85]; decide +kernel
theorem D85_174 : decode (cod 85) 174 = .ok (.aload_n 0, 1) := by rw [cc_85]; decide +kernel
theorem D85_175 : decode (cod 85) 175 = .ok (.aload_n 0, 1) := by rw [cc_85]; decide +kernel
theorem D85_176 : decode (cod 85) 176 = .ok (.getfield 35, 3) := by rw [cc_85]; decide +kernel
theorem D85_179 : decode (cod 85) 179 = .ok (.iload_n 1, 1) := by rw [cc_85]; decide +kernel
theorem D85_180 : decode (cod 85) 180 = .ok (.aaload, 1) := by rw [cc_85]; decide +kernel
theorem D85_181 : decode (cod 85) 181 = .ok (.aload 7, 2) := by rw [cc_85]; decide +kernel
theorem D85_183 : decode (cod 85) 183 = .ok (.getfield 206, 3) := by rw [cc_85]; decide +kernel
theorem D85_186 : decode (cod 85) 186 = .ok (.iload 6, 2) := by rw [cc_85]; decide +kernel
theorem D85_188 : decode (cod 85) 188 = .ok (.invokevirtual 230, 3) := by rw [cc_85]; decide +kernel
theorem D85_191 : decode (cod 85) 191 = .ok (.putfield 234, 3) := by rw [cc_85]; decide +kernel
theorem D85_194 : decode (cod 85) 194 = .ok (.aload_n 0, 1) := by rw [cc_85]; decide +kernel
theorem D85_195 : decode (cod 85) 195 = .ok (.aload_n 0, 1) := by rw [cc_85]; decide +kernel
theorem D85_196 : decode (cod 85) 196 = .ok (.getfield 35, 3) := by rw [cc_85]; decide +kernel
theorem D85_199 : decode (cod 85) 199 = .ok (.iload_n 1, 1) := by rw [cc_85]; decide +kernel
theorem D85_200 : decode (cod 85) 200 = .ok (.aaload, 1) := by rw [cc_85]; decide +kernel
theorem D85_201 : decode (cod 85) 201 = .ok (.aload 7, 2) := by rw [cc_85]; decide +kernel
theorem D85_203 : decode (cod 85) 203 = .ok (.invokevirtual 237, 3) := by rw [cc_85]; decide +kernel
theorem D85_206 : decode (cod 85) 206 = .ok (.aload_n 0, 1) := by rw [cc_85]; decide +kernel
theorem D85_207 : decode (cod 85) 207 = .ok (.aload_n 0, 1) := by rw [cc_85]; decide +kernel
theorem D85_208 : decode (cod 85) 208 = .ok (.getfield 191, 3) := by rw [cc_85]; decide +kernel
theorem D85_211 : decode (cod 85) 211 = .ok (.invokevirtual 241, 3) := by rw [cc_85]; decide +kernel
theorem D85_214 : decode (cod 85) 214 = .ok (.aload_n 0, 1) := by rw [cc_85]; decide +kernel
theorem D85_215 : decode (cod 85) 215 = .ok (.dup, 1) := by rw [cc_85]; decide +kernel
theorem D85_216 : decode (cod 85) 216 = .ok (.getfield 191, 3) := by rw [cc_85]; decide +kernel
theorem D85_219 : decode (cod 85) 219 = .ok (.iconst 1, 1) := by rw [cc_85]; decide +kernel
theorem D85_220 : decode (cod 85) 220 = .ok (.iadd, 1) := by rw [cc_85]; decide +kernel
theorem D85_221 : decode (cod 85) 221 = .ok (.putfield 191, 3) := by rw [cc_85]; decide +kernel
theorem D85_224 : decode (cod 85) 224 = .ok (.aload_n 0, 1) := by rw [cc_85]; decide +kernel
theorem D85_225 : decode (cod 85) 225 = .ok (.getfield 191, 3) := by rw [cc_85]; decide +kernel
theorem D85_228 : decode (cod 85) 228 = .ok (.iconst 1, 1) := by rw [cc_85]; decide +kernel
theorem D85_229 : decode (cod 85) 229 = .ok (.isub, 1) := by rw [cc_85]; decide +kernel
theorem D85_230 : decode (cod 85) 230 = .ok (.ireturn, 1) := by rw [cc_85]; decide +kernel
theorem b85_0 {d : Nat} {i0 : Nat} {x1 x2 x3 x4 x5 x6 : Int} {I L : Nat → Nat → Nat → Int} {t : Nat → Nat} : Res (d + 1) 85 0 [vr 11 i0, vi x1, vi x2, vi x3, vi x4, vi x5, vi x6, vx] [] (mk I L t) = (Cal d 106 [vr 11 i0, vi x1] (mk I L t)).bind fun v => Res (d + 1) 85 5 [vr 11 i0, vi x1, vi x2, vi x3, vi x4, vi x5, vi x6, vx] (psh 106 v.1 []) v.2 :=
  Eq.trans (e_aload_n D85_0 rfl rfl) <| Eq.trans (e_iload_n D85_1 rfl rfl) <| e_callV D85_2 rfl o_85 m_11_166 (by decide) rfl rfl
theorem b85_5 {d : Nat} {i0 : Nat} {x1 x2 x3 x4 x5 x6 xs0 : Int} {I L : Nat → Nat → Nat → Int} {t : Nat → Nat} : Res d 85 5 [vr 11 i0, vi x1, vi x2, vi x3, vi x4, vi x5, vi x6, vx] [vi xs0] (mk I L t) = if xs0 = 0 then Res d 85 34 [vr 11 i0, vi x1, vi x2, vi x3, vi x4, vi x5, vi x6, vx] [] (mk I L t) else Res d 85 8 [vr 11 i0, vi x1, vi x2, vi x3, vi x4, vi x5, vi x6, vx] [] (mk I L t) :=
  e_ifeq D85_5 rfl rfl
theorem b85_8 {d : Nat} {i0 : Nat} {x1 x2 x3 x4 x5 x6 : Int} {I L : Nat → Nat → Nat → Int} {t : Nat → Nat} : Res (d + 1) 85 8 [vr 11 i0, vi x1, vi x2, vi x3, vi x4, vi x5, vi x6, vx] [] (mk I L t) = (Cal d 105 [vr 11 i0, vi x2] (mk I L t)).bind fun v => Res (d + 1) 85 13 [vr 11 i0, vi x1, vi x2, vi x3, vi x4, vi x5, vi x6, vx] (psh 105 v.1 []) v.2 :=
  Eq.trans (e_aload_n D85_8 rfl rfl) <| Eq.trans (e_iload_n D85_9 rfl rfl) <| e_callV D85_10 rfl o_85 m_11_107 (by decide) rfl rfl
theorem b85_13 {d : Nat} {i0 : Nat} {x1 x2 x3 x4 x5 x6 xs0 : Int} {I L : Nat → Nat → Nat → Int} {t : Nat → Nat} : Res d 85 13 [vr 11 i0, vi x1, vi x2, vi x3, vi x4, vi x5, vi x6, vx] [vi xs0] (mk I L t) = if xs0 = 0 then Res d 85 34 [vr 11 i0, vi x1, vi x2, vi x3, vi x4, vi x5, vi x6, vx] [] (mk I L t) else Res d 85 16 [vr 11 i0, vi x1, vi x2, vi x3, vi x4, vi x5, vi x6, vx] [] (mk I L t) :=
  e_ifeq D85_13 rfl rfl
theorem b85_16 {d : Nat} {i0 : Nat} {x1 x2 x3 x4 x5 x6 : Int} {I L : Nat → Nat → Nat → Int} {t : Nat → Nat} : Res (d + 1) 85 16 [vr 11 i0, vi x1, vi x2, vi x3, vi x4, vi x5, vi x6, vx] [] (mk I L t) = (Cal d 102 [vi x3, vi 0, vi 2] (mk I L t)).bind fun v => Res (d + 1) 85 22 [vr 11 i0, vi x1, vi x2, vi x3, vi x4, vi x5, vi x6, vx] (psh 102 v.1 []) v.2 :=
  Eq.trans (e_iload_n D85_16 rfl rfl) <| Eq.trans (e_iconst (x := 0) D85_17 rfl rfl) <| Eq.trans (e_iconst (x := 2) D85_18 rfl rfl) <| e_callS D85_19 rfl o_85 m_11_76 (by decide) rfl rfl
theorem b85_22 {d : Nat} {i0 : Nat} {x1 x2 x3 x4 x5 x6 xs0 : Int} {I L : Nat → Nat → Nat → Int} {t : Nat → Nat} : Res d 85 22 [vr 11 i0, vi x1, vi x2, vi x3, vi x4, vi x5, vi x6, vx] [vi xs0] (mk I L t) = if xs0 = 0 then Res d 85 34 [vr 11 i0, vi x1, vi x2, vi x3, vi x4, vi x5, vi x6, vx] [] (mk I L t) else Res d 85 25 [vr 11 i0, vi x1, vi x2, vi x3, vi x4, vi x5, vi x6, vx] [] (mk I L t) :=
  e_ifeq D85_22 rfl rfl
theorem b85_25 {d : Nat} {i0 : Nat} {x1 x2 x3 x4 x5 x6 : Int} {I L : Nat → Nat → Nat → Int} {t : Nat → Nat} : Res d 85 25 [vr 11 i0, vi x1, vi x2, vi x3, vi x4, vi x5, vi x6, vx] [] (mk I L t) = if I 11 i0 13 < 100 then Res d 85 36 [vr 11 i0, vi x1, vi x2, vi x3, vi x4, vi x5, vi x6, vx] [] (mk I L t) else Res d 85 34 [vr 11 i0, vi x1, vi x2, vi x3, vi x4, vi x5, vi x6, vx] [] (mk I L t) :=
  Eq.trans (e_aload_n D85_25 rfl rfl) <| Eq.trans (e_getI D85_26 rfl o_85 f_11_191 (sh_11 _) (by decide)) <| Eq.trans (e_bipush (x := 100) D85_29 rfl rfl) <| e_iclt D85_31 rfl rfl
theorem b85_34 {d : Nat} {i0 : Nat} {x1 x2 x3 x4 x5 x6 : Int} {I L : Nat → Nat → Nat → Int} {t : Nat → Nat} : Res d 85 34 [vr 11 i0, vi x1, vi x2, vi x3, vi x4, vi x5, vi x6, vx] [] (mk I L t) = some (vi (-1), (mk I L t)) :=
  Eq.trans (e_iconst (x := -1) D85_34 rfl rfl) <| e_iret D85_35 rfl
theorem b85_36 {d : Nat} {i0 : Nat} {x1 x2 x3 x4 x5 x6 : Int} {I L : Nat → Nat → Nat → Int} {t : Nat → Nat} (g1 : 0 ≤ x2 ∧ x2 < 6) : Res (d + 1) 85 36 [vr 11 i0, vi x1, vi x2, vi x3, vi x4, vi x5, vi x6, vx] [] (mk I L t) = (Cal d 110 [vr 4 x2.toNat, vi x4, vi x5] (mk I L t)).bind fun v => Res (d + 1) 85 49 [vr 11 i0, vi x1, vi x2, vi x3, vi x4, vi x5, vi x6, vx] (psh 110 v.1 []) v.2 :=
  Eq.trans (e_aload_n D85_36 rfl rfl) <| Eq.trans (e_getP (p := (42, i0)) D85_37 rfl o_85 f_11_22 (sh_11 _) (by decide) (pp_11_2 _ _)) <| Eq.trans (e_iload_n D85_40 rfl rfl) <| Eq.trans (e_aald (p := (4, x2.toNat)) D85_41 rfl (ae_42 _) (aq_42 _) (pa_42 _ _ _) g1) <| Eq.trans (e_iload D85_42 rfl rfl) <| Eq.trans (e_iload D85_44 rfl rfl) <| e_callS D85_46 rfl o_85 m_11_176 (by decide) rfl rfl
theorem b85_49 {d : Nat} {i0 : Nat} {x1 x2 x3 x4 x5 x6 xs0 : Int} {I L : Nat → Nat → Nat → Int} {t : Nat → Nat} : Res d 85 49 [vr 11 i0, vi x1, vi x2, vi x3, vi x4, vi x5, vi x6, vx] [vi xs0] (mk I L t) = if xs0 = 0 then Res d 85 67 [vr 11 i0, vi x1, vi x2, vi x3, vi x4, vi x5, vi x6, vx] [] (mk I L t) else Res d 85 52 [vr 11 i0, vi x1, vi x2, vi x3, vi x4, vi x5, vi x6, vx] [] (mk I L t) :=
  e_ifeq D85_49 rfl rfl
theorem b85_52 {d : Nat} {i0 : Nat} {x1 x2 x3 x4 x5 x6 : Int} {I L : Nat → Nat → Nat → Int} {t : Nat → Nat} (g1 : 0 ≤ x2 ∧ x2 < 6) : Res (d + 1) 85 52 [vr 11 i0, vi x1, vi x2, vi x3, vi x4, vi x5, vi x6, vx] [] (mk I L t) = (Cal d 111 [vr 4 x2.toNat, vi x3, vi x6] (mk I L t)).bind fun v => Res (d + 1) 85 64 [vr 11 i0, vi x1, vi x2, vi x3, vi x4, vi x5, vi x6, vx] (psh 111 v.1 []) v.2 :=
  Eq.trans (e_aload_n D85_52 rfl rfl) <| Eq.trans (e_getP (p := (42, i0)) D85_53 rfl o_85 f_11_22 (sh_11 _) (by decide) (pp_11_2 _ _)) <| Eq.trans (e_iload_n D85_56 rfl rfl) <| Eq.trans (e_aald (p := (4, x2.toNat)) D85_57 rfl (ae_42 _) (aq_42 _) (pa_42 _ _ _) g1) <| Eq.trans (e_iload_n D85_58 rfl rfl) <| Eq.trans (e_iload D85_59 rfl rfl) <| e_callS D85_61 rfl o_85 m_11_194 (by decide) rfl rfl
theorem b85_64 {d : Nat} {i0 : Nat} {x1 x2 x3 x4 x5 x6 xs0 : Int} {I L : Nat → Nat → Nat → Int} {t : Nat → Nat} : Res d 85 64 [vr 11 i0, vi x1, vi x2, vi x3, vi x4, vi x5, vi x6, vx] [vi xs0] (mk I L t) = if ¬ xs0 = 0 then Res d 85 69 [vr 11 i0, vi x1, vi x2, vi x3, vi x4, vi x5, vi x6, vx] [] (mk I L t) else Res d 85 67 [vr 11 i0, vi x1, vi x2, vi x3, vi x4, vi x5, vi x6, vx] [] (mk I L t) :=
  e_ifne D85_64 rfl rfl
theorem b85_67 {d : Nat} {i0 : Nat} {x1 x2 x3 x4 x5 x6 : Int} {I L : Nat → Nat → Nat → Int} {t : Nat → Nat} : Res d 85 67 [vr 11 i0, vi x1, vi x2, vi x3, vi x4, vi x5, vi x6, vx] [] (mk I L t) = some (vi (-1), (mk I L t)) :=
  Eq.trans (e_iconst (x := -1) D85_67 rfl rfl) <| e_iret D85_68 rfl
theorem b85_69 {d : Nat} {i0 : Nat} {x1 x2 x3 x4 x5 x6 : Int} {I L : Nat → Nat → Nat → Int} {t : Nat → Nat} (g1 : 0 ≤ I 11 i0 13 ∧ I 11 i0 13 < 100) (g2 : 0 ≤ x2 ∧ x2 < 6) : Res (d + 1) 85 69 [vr 11 i0, vi x1, vi x2, vi x3, vi x4, vi x5, vi x6, vx] [] (mk I L t) = (Cal d 28 [vr 4 (6 + ((I 11 i0 13).toNat)), vr 4 x2.toNat] (mk (up3 (up3 (up3 I 6 ((I 11 i0 13).toNat) 1 x1) 6 ((I 11 i0 13).toNat) 2 x3) 6 ((I 11 i0 13).toNat) 3 ((up3 (up3 I 6 ((I 11 i0 13).toNat) 1 x1) 6 ((I 11 i0 13).toNat) 2 x3) 11 i0 16)) L t)).bind fun v => Res (d + 1) 85 115 [vr 11 i0, vi x1, vi x2, vi x3, vi x4, vi x5, vi x6, vr 6 ((I 11 i0 13).toNat)] (psh 28 v.1 []) v.2 :=
  Eq.trans (e_aload_n D85_69 rfl rfl) <| Eq.trans (e_getP (p := (44, i0)) D85_70 rfl o_85 f_11_41 (sh_11 _) (by decide) (pp_11_5 _ _)) <| Eq.trans (e_aload_n D85_73 rfl rfl) <| Eq.trans (e_getI D85_74 rfl o_85 f_11_191 (sh_11 _) (by decide)) <| Eq.trans (e_aald (p := (6, (I 11 i0 13).toNat)) D85_77 rfl (ae_44 _) (aq_44 _) (pa_44 _ _ _) g1) <| Eq.trans (e_astore (ls1 := [vr 11 i0, vi x1, vi x2, vi x3, vi x4, vi x5, vi x6, vr 6 ((I 11 i0 13).toNat)]) D85_78 rfl (show 7 < 8 by decide) rfl) <| Eq.trans (e_aload D85_80 rfl rfl) <| Eq.trans (e_iload_n D85_82 rfl rfl) <| Eq.trans (e_putI D85_83 rfl o_85 f_11_197 (sh_6 _) rfl (by decide) (Or.inl (by decide))) <| Eq.trans (e_aload D85_86 rfl rfl) <| Eq.trans (e_iload_n D85_88 rfl rfl) <| Eq.trans (e_putI D85_89 rfl o_85 f_11_200 (sh_6 _) rfl (by decide) (Or.inl (by decide))) <| Eq.trans (e_aload D85_92 rfl rfl) <| Eq.trans (e_aload_n D85_94 rfl rfl) <| Eq.trans (e_getI D85_95 rfl o_85 f_11_137 (sh_11 _) (by decide)) <| Eq.trans (e_putI D85_98 rfl o_85 f_11_203 (sh_6 _) rfl (by decide) (Or.inl (by decide))) <| Eq.trans (e_aload D85_101 rfl rfl) <| Eq.trans (e_getP (p := (4, 6 + ((I 11 i0 13).toNat))) D85_103 rfl o_85 f_11_206 (sh_6 _) (by decide) (pp_6_0 _ _)) <| Eq.trans (e_aload_n D85_106 rfl rfl) <| Eq.trans (e_getP (p := (42, i0)) D85_107 rfl o_85 f_11_22 (sh_11 _) (by decide) (pp_11_2 _ _)) <| Eq.trans (e_iload_n D85_110 rfl rfl) <| Eq.trans (e_aald (p := (4, x2.toNat)) D85_111 rfl (ae_42 _) (aq_42 _) (pa_42 _ _ _) g2) <| e_callV D85_112 rfl o_85 m_11_210 (by decide) rfl rfl
theorem b85_115 {d : Nat} {i0 i7 : Nat} {x1 x2 x3 x4 x5 x6 : Int} {I L : Nat → Nat → Nat → Int} {t : Nat → Nat} : Res d 85 115 [vr 11 i0, vi x1, vi x2, vi x3, vi x4, vi x5, vi x6, vr 6 i7] [] (mk I L t) = if ¬ x3 = 2 then Res d 85 147 [vr 11 i0, vi x1, vi x2, vi x3, vi x4, vi x5, vi x6, vr 6 i7] [vr 6 i7] (mk (up3 (up3 (up3 I 6 i7 4 x4) 6 i7 5 x5) 6 i7 6 x6) L t) else Res d 85 143 [vr 11 i0, vi x1, vi x2, vi x3, vi x4, vi x5, vi x6, vr 6 i7] [vr 6 i7] (mk (up3 (up3 (up3 I 6 i7 4 x4) 6 i7 5 x5) 6 i7 6 x6) L t) :=
  Eq.trans (e_aload D85_115 rfl rfl) <| Eq.trans (e_iload D85_117 rfl rfl) <| Eq.trans (e_putI D85_119 rfl o_85 f_11_214 (sh_6 _) rfl (by decide) (Or.inl (by decide))) <| Eq.trans (e_aload D85_122 rfl rfl) <| Eq.trans (e_iload D85_124 rfl rfl) <| Eq.trans (e_putI D85_126 rfl o_85 f_11_217 (sh_6 _) rfl (by decide) (Or.inl (by decide))) <| Eq.trans (e_aload D85_129 rfl rfl) <| Eq.trans (e_iload D85_131 rfl rfl) <| Eq.trans (e_putI D85_133 rfl o_85 f_11_220 (sh_6 _) rfl (by decide) (Or.inl (by decide))) <| Eq.trans (e_aload D85_136 rfl rfl) <| Eq.trans (e_iload_n D85_138 rfl rfl) <| Eq.trans (e_iconst (x := 2) D85_139 rfl rfl) <| e_icne D85_140 rfl rfl
theorem b85_143 {d : Nat} {i0 i7 is0 : Nat} {x1 x2 x3 x4 x5 x6 : Int} {I L : Nat → Nat → Nat → Int} {t : Nat → Nat} : Res d 85 143 [vr 11 i0, vi x1, vi x2, vi x3, vi x4, vi x5, vi x6, vr 6 i7] [vr 6 is0] (mk I L t) = Res d 85 159 [vr 11 i0, vi x1, vi x2, vi x3, vi x4, vi x5, vi x6, vr 6 i7] [vi 0, vr 6 is0] (mk I L t) :=
  Eq.trans (e_iconst (x := 0) D85_143 rfl rfl) <| e_goto (q1 := 159) D85_144 rfl
theorem b85_147 {d : Nat} {i0 i7 is0 : Nat} {x1 x2 x3 x4 x5 x6 : Int} {I L : Nat → Nat → Nat → Int} {t : Nat → Nat} (g1 : 0 ≤ x1 ∧ x1 < 20) : Res (d + 1) 85 147 [vr 11 i0, vi x1, vi x2, vi x3, vi x4, vi x5, vi x6, vr 6 i7] [vr 6 is0] (mk I L t) = (Cal d 128 [vr 11 i0, vr 3 x1.toNat, vr 6 i7] (mk I L t)).bind fun v => Res (d + 1) 85 159 [vr 11 i0, vi x1, vi x2, vi x3, vi x4, vi x5, vi x6, vr 6 i7] (psh 128 v.1 [vr 6 is0]) v.2 :=
  Eq.trans (e_aload_n D85_147 rfl rfl) <| Eq.trans (e_aload_n D85_148 rfl rfl) <| Eq.trans (e_getP (p := (43, i0)) D85_149 rfl o_85 f_11_35 (sh_11 _) (by decide) (pp_11_4 _ _)) <| Eq.trans (e_iload_n D85_152 rfl rfl) <| Eq.trans (e_aald (p := (3, x1.toNat)) D85_153 rfl (ae_43 _) (aq_43 _) (pa_43 _ _ _) g1) <| Eq.trans (e_aload D85_154 rfl rfl) <| e_callV D85_156 rfl o_85 m_11_223 (by decide) rfl rfl
theorem b85_159 {d : Nat} {i0 i7 is0 : Nat} {x1 x2 x3 x4 x5 x6 xs1 : Int} {I L : Nat → Nat → Nat → Int} {t : Nat → Nat} : Res d 85 159 [vr 11 i0, vi x1, vi x2, vi x3, vi x4, vi x5, vi x6, vr 6 i7] [vi xs1, vr 6 is0] (mk I L t) = if ¬ x6 = -1 then Res d 85 174 [vr 11 i0, vi x1, vi x2, vi x3, vi x4, vi x5, vi x6, vr 6 i7] [vr 6 i7] (mk (up3 I 6 is0 7 xs1) L t) else Res d 85 170 [vr 11 i0, vi x1, vi x2, vi x3, vi x4, vi x5, vi x6, vr 6 i7] [vr 6 i7] (mk (up3 I 6 is0 7 xs1) L t) :=
  Eq.trans (e_putI D85_159 rfl o_85 f_11_227 (sh_6 _) rfl (by decide) (Or.inl (by decide))) <| Eq.trans (e_aload D85_162 rfl rfl) <| Eq.trans (e_iload D85_164 rfl rfl) <| Eq.trans (e_iconst (x := -1) D85_166 rfl rfl) <| e_icne D85_167 rfl rfl
theorem b85_170 {d : Nat} {i0 i7 is0 : Nat} {x1 x2 x3 x4 x5 x6 : Int} {I L : Nat → Nat → Nat → Int} {t : Nat → Nat} : Res d 85 170 [vr 11 i0, vi x1, vi x2, vi x3, vi x4, vi x5, vi x6, vr 6 i7] [vr 6 is0] (mk I L t) = Res d 85 191 [vr 11 i0, vi x1, vi x2, vi x3, vi x4, vi x5, vi x6, vr 6 i7] [vi (-1), vr 6 is0] (mk I L t) :=
  Eq.trans (e_iconst (x := -1) D85_170 rfl rfl) <| e_goto (q1 := 191) D85_171 rfl
theorem b85_174 {d : Nat} {i0 i7 is0 : Nat} {x1 x2 x3 x4 x5 x6 : Int} {I L : Nat → Nat → Nat → Int} {t : Nat → Nat} (g1 : 0 ≤ x1 ∧ x1 < 20) : Res (d + 1) 85 174 [vr 11 i0, vi x1, vi x2, vi x3, vi x4, vi x5, vi x6, vr 6 i7] [vr 6 is0] (mk I L t) = (Cal d 116 [vr 11 i0, vr 3 x1.toNat, vr 4 (6 + i7), vi x6] (mk I L t)).bind fun v => Res (d + 1) 85 191 [vr 11 i0, vi x1, vi x2, vi x3, vi x4, vi x5, vi x6, vr 6 i7] (psh 116 v.1 [vr 6 is0]) v.2 :=
  Eq.trans (e_aload_n D85_174 rfl rfl) <| Eq.trans (e_aload_n D85_175 rfl rfl) <| Eq.trans (e_getP (p := (43, i0)) D85_176 rfl o_85 f_11_35 (sh_11 _) (by decide) (pp_11_4 _ _)) <| Eq.trans (e_iload_n D85_179 rfl rfl) <| Eq.trans (e_aald (p := (3, x1.toNat)) D85_180 rfl (ae_43 _) (aq_43 _) (pa_43 _ _ _) g1) <| Eq.trans (e_aload D85_181 rfl rfl) <| Eq.trans (e_getP (p := (4, 6 + i7)) D85_183 rfl o_85 f_11_206 (sh_6 _) (by decide) (pp_6_0 _ _)) <| Eq.trans (e_iload D85_186 rfl rfl) <| e_callV D85_188 rfl o_85 m_11_230 (by decide) rfl rfl
theorem b85_191 {d : Nat} {i0 i7 is0 : Nat} {x1 x2 x3 x4 x5 x6 xs1 : Int} {I L : Nat → Nat → Nat → Int} {t : Nat → Nat} (g1 : 0 ≤ x1 ∧ x1 < 20) : Res (d + 1) 85 191 [vr 11 i0, vi x1, vi x2, vi x3, vi x4, vi x5, vi x6, vr 6 i7] [vi xs1, vr 6 is0] (mk I L t) = (Cal d 121 [vr 11 i0, vr 3 x1.toNat, vr 6 i7] (mk (up3 I 6 is0 8 xs1) L t)).bind fun v => Res (d + 1) 85 206 [vr 11 i0, vi x1, vi x2, vi x3, vi x4, vi x5, vi x6, vr 6 i7] (psh 121 v.1 []) v.2 :=
  Eq.trans (e_putI D85_191 rfl o_85 f_11_234 (sh_6 _) rfl (by decide) (Or.inl (by decide))) <| Eq.trans (e_aload_n D85_194 rfl rfl) <| Eq.trans (e_aload_n D85_195 rfl rfl) <| Eq.trans (e_getP (p := (43, i0)) D85_196 rfl o_85 f_11_35 (sh_11 _) (by decide) (pp_11_4 _ _)) <| Eq.trans (e_iload_n D85_199 rfl rfl) <| Eq.trans (e_aald (p := (3, x1.toNat)) D85_200 rfl (ae_43 _) (aq_43 _) (pa_43 _ _ _) g1) <| Eq.trans (e_aload D85_201 rfl rfl) <| e_callV D85_203 rfl o_85 m_11_237 (by decide) rfl rfl
theorem b85_206 {d : Nat} {i0 i7 : Nat} {x1 x2 x3 x4 x5 x6 : Int} {I L : Nat → Nat → Nat → Int} {t : Nat → Nat} : Res (d + 1) 85 206 [vr 11 i0, vi x1, vi x2, vi x3, vi x4, vi x5, vi x6, vr 6 i7] [] (mk I L t) = (Cal d 139 [vr 11 i0, vi (I 11 i0 13)] (mk I L t)).bind fun v => Res (d + 1) 85 214 [vr 11 i0, vi x1, vi x2, vi x3, vi x4, vi x5, vi x6, vr 6 i7] (psh 139 v.1 []) v.2 :=
  Eq.trans (e_aload_n D85_206 rfl rfl) <| Eq.trans (e_aload_n D85_207 rfl rfl) <| Eq.trans (e_getI D85_208 rfl o_85 f_11_191 (sh_11 _) (by decide)) <| e_callV D85_211 rfl o_85 m_11_241 (by decide) rfl rfl
theorem b85_214 {d : Nat} {i0 i7 : Nat} {x1 x2 x3 x4 x5 x6 : Int} {I L : Nat → Nat → Nat → Int} {t : Nat → Nat} : Res d 85 214 [vr 11 i0, vi x1, vi x2, vi x3, vi x4, vi x5, vi x6, vr 6 i7] [] (mk I L t) = some (vi (w32 (((up3 I 11 i0 13 (w32 ((I 11 i0 13) + 1))) 11 i0 13) - 1)), (mk (up3 I 11 i0 13 (w32 ((I 11 i0 13) + 1))) L t)) :=
  Eq.trans (e_aload_n D85_214 rfl rfl) <| Eq.trans (e_dup D85_215 rfl) <| Eq.trans (e_getI D85_216 rfl o_85 f_11_191 (sh_11 _) (by decide)) <| Eq.trans (e_iconst (x := 1) D85_219 rfl rfl) <| Eq.trans (e_iadd D85_220 rfl) <| Eq.trans (e_putI D85_221 rfl o_85 f_11_191 (sh_11 _) rfl (by decide) (Or.inl (by decide))) <| Eq.trans (e_aload_n D85_224 rfl rfl) <| Eq.trans (e_getI D85_225 rfl o_85 f_11_191 (sh_11 _) (by decide)) <| Eq.trans (e_iconst (x := 1) D85_228 rfl rfl) <| Eq.trans (e_isub D85_229 rfl) <| e_iret D85_230 rfl
/-! x_showing -/
theorem cc_86 : cod 86 = cX11_showing := rfl
theorem D86_0 : decode (cod 86) 0 = .ok (.aload_n 0, 1) := by rw [cc_86]; decide +kernel
theorem D86_1 : decode (cod 86) 1 = .ok (.iload_n 1, 1) := by rw [cc_86]; decide +kernel
theorem D86_2 : decode (cod 86) 2 = .ok (.invokevirtual 244, 3) := by rw [cc_86]; decide +kernel
theorem D86_5 : decode (cod 86) 5 = .ok (.ifCond .ne 5, 3) := by rw [cc_86]; decide +kernel
theorem D86_8 : decode (cod 86) 8 = .ok (.iconst (-1), 1) := by rw [cc_86]; decide +kernel
theorem D86_9 : decode (cod 86) 9 = .ok (.ireturn, 1) := by rw [cc_86]; decide +kernel
theorem D86_10 : decode (cod 86) 10 = .ok (.aload_n 0, 1) := by rw [cc_86]; decide +kernel
theorem D86_11 : decode (cod 86) 11 = .ok (.getfield 41, 3) := by rw [cc_86]; decide +kernel
theorem D86_14 : decode (cod 86) 14 = .ok (.iload_n 1, 1) := by rw [cc_86]; decide +kernel
theorem D86_15 : decode (cod 86) 15 = .ok (.aaload, 1) := by rw [cc_86]; decide +kernel
theorem D86_16 : decode (cod 86) 16 = .ok (.astore_n 3, 1) := by rw [cc_86]; decide +kernel
theorem D86_17 : decode (cod 86) 17 = .ok (.iload_n 2, 1) := by rw [cc_86]; decide +kernel
theorem D86_18 : decode (cod 86) 18 = .ok (.tableswitch 68 0 5 #[38, 43, 48, 53, 58, 63], 38) := by rw [cc_86]; decide +kernel
theorem D86_56 : decode (cod 86) 56 = .ok (.aload_n 3, 1) := by rw [cc_86]; decide +kernel
theorem D86_57 : decode (cod 86) 57 = .ok (.getfield 197, 3) := by rw [cc_86]; decide +kernel
theorem D86_60 : decode (cod 86) 60 = .ok (.ireturn, 1) := by rw [cc_86]; decide +kernel
theorem D86_61 : decode (cod 86) 61 = .ok (.aload_n 3, 1) := by rw [cc_86]; decide +kernel
theorem D86_62 : decode (cod 86) 62 = .ok (.getfield 200, 3) := by rw [cc_86]; decide +kernel
theorem D86_65 : decode (cod 86) 65 = .ok (.ireturn, 1) := by rw [cc_86]; decide +kernel
theorem D86_66 : decode (cod 86) 66 = .ok (.aload_n 3, 1) := by rw [cc_86]; decide +kernel
theorem D86_67 : decode (cod 86) 67 = .ok (.getfield 203, 3) := by rw [cc_86]; decide +kernel
theorem D86_70 : decode (cod 86) 70 = .ok (.ireturn, 1) := by rw [cc_86]; decide +kernel
theorem D86_71 : decode (cod 86) 71 = .ok (.aload_n 3, 1) := by rw [cc_86]; decide +kernel
theorem D86_72 : decode (cod 86) 72 = .ok (.getfield 220, 3) := by rw [cc_86]; decide +kernel
theorem D86_75 : decode (cod 86) 75 = .ok (.ireturn, 1) := by rw [cc_86]; decide +kernel
theorem D86_76 : decode (cod 86) 76 = .ok (.aload_n 3, 1) := by rw [cc_86]; decide +kernel
theorem D86_77 : decode (cod 86) 77 = .ok (.getfield 227, 3) := by rw [cc_86]; decide +kernel
theorem D86_80 : decode (cod 86) 80 = .ok (.ireturn, 1) := by rw [cc_86]; decide +kernel
theorem D86_81 : decode (cod 86) 81 = .ok (.aload_n 3, 1) := by rw [cc_86]; decide +kernel
theorem D86_82 : decode (cod 86) 82 = .ok (.getfield 234, 3) := by rw [cc_86]; decide +kernel
theorem D86_85 : decode (cod 86) 85 = .ok (.ireturn, 1) := by rw [cc_86]; decide +kernel
theorem D86_86 : decode (cod 86) 86 = .ok (.iload_n 2, 1) := by rw [cc_86]; decide +kernel
theorem D86_87 : decode (cod 86) 87 = .ok (.bipush 10, 2) := by rw [cc_86]; decide +kernel
theorem D86_89 : decode (cod 86) 89 = .ok (.bipush 18, 2) := by rw [cc_86]; decide +kernel
theorem D86_91 : decode (cod 86) 91 = .ok (.invokestatic 76, 3) := by rw [cc_86]; decide +kernel
theorem D86_94 : decode (cod 86) 94 = .ok (.ifCond .eq 17, 3) := by rw [cc_86]; decide +kernel
theorem D86_97 : decode (cod 86) 97 = .ok (.aload_n 3, 1) := by rw [cc_86]; decide +kernel
theorem D86_98 : decode (cod 86) 98 = .ok (.getfield 206, 3) := by rw [cc_86]; decide +kernel
theorem D86_101 : decode (cod 86) 101 = .ok (.iload_n 2, 1) := by rw [cc_86]; decide +kernel
theorem D86_102 : decode (cod 86) 102 = .ok (.bipush 10, 2) := by rw [cc_86]; decide +kernel
theorem D86_104 : decode (cod 86) 104 = .ok (.isub, 1) := by rw [cc_86]; decide +kernel
theorem D86_105 : decode (cod 86) 105 = .ok (.invokevirtual 247, 3) := by rw [cc_86]; decide +kernel
theorem D86_108 : decode (cod 86) 108 = .ok (.goto 4, 3) := by rw [cc_86]; decide +kernel
theorem D86_111 : decode (cod 86) 111 = .ok (.iconst (-1), 1) := by rw [cc_86]; decide +kernel
theorem D86_112 : decode (cod 86) 112 = .ok (.ireturn, 1) := by rw [cc_86]; decide +kernel
theorem b86_0 {d : Nat} {i0 : Nat} {x1 x2 : Int} {I L : Nat → Nat → Nat → Int} {t : Nat → Nat} : Res (d + 1) 86 0 [vr 11 i0, vi x1, vi x2, vx] [] (mk I L t) = (Cal d 107 [vr 11 i0, vi x1] (mk I L t)).bind fun v => Res (d + 1) 86 5 [vr 11 i0, vi x1, vi x2, vx] (psh 107 v.1 []) v.2 :=
  Eq.trans (e_aload_n D86_0 rfl rfl) <| Eq.trans (e_iload_n D86_1 rfl rfl) <| e_callV D86_2 rfl o_86 m_11_244 (by decide) rfl rfl
theorem b86_5 {d : Nat} {i0 : Nat} {x1 x2 xs0 : Int} {I L : Nat → Nat → Nat → Int} {t : Nat → Nat} : Res d 86 5 [vr 11 i0, vi x1, vi x2, vx] [vi xs0] (mk I L t) = if ¬ xs0 = 0 then Res d 86 10 [vr 11 i0, vi x1, vi x2, vx] [] (mk I L t) else Res d 86 8 [vr 11 i0, vi x1, vi x2, vx] [] (mk I L t) :=
  e_ifne D86_5 rfl rfl
theorem b86_8 {d : Nat} {i0 : Nat} {x1 x2 : Int} {I L : Nat → Nat → Nat → Int} {t : Nat → Nat} : Res d 86 8 [vr 11 i0, vi x1, vi x2, vx] [] (mk I L t) = some (vi (-1), (mk I L t)) :=
  Eq.trans (e_iconst (x := -1) D86_8 rfl rfl) <| e_iret D86_9 rfl
theorem b86_10_d {d : Nat} {i0 : Nat} {x1 x2 : Int} {I L : Nat → Nat → Nat → Int} {t : Nat → Nat} (g1 : 0 ≤ x1 ∧ x1 < 100) (gx : x2 < 0 ∨ 5 < x2) : Res d 86 10 [vr 11 i0, vi x1, vi x2, vx] [] (mk I L t) = Res d 86 86 [vr 11 i0, vi x1, vi x2, vr 6 x1.toNat] [] (mk I L t) :=
  Eq.trans (e_aload_n D86_10 rfl rfl) <| Eq.trans (e_getP (p := (44, i0)) D86_11 rfl o_86 f_11_41 (sh_11 _) (by decide) (pp_11_5 _ _)) <| Eq.trans (e_iload_n D86_14 rfl rfl) <| Eq.trans (e_aald (p := (6, x1.toNat)) D86_15 rfl (ae_44 _) (aq_44 _) (pa_44 _ _ _) g1) <| Eq.trans (e_astore_n (ls1 := [vr 11 i0, vi x1, vi x2, vr 6 x1.toNat]) D86_16 rfl (show 3 < 4 by decide) rfl) <| Eq.trans (e_iload_n D86_17 rfl rfl) <| e_tswD (q1 := 86) D86_18 gx rfl
theorem b86_10_c0 {d : Nat} {i0 : Nat} {x1 x2 : Int} {I L : Nat → Nat → Nat → Int} {t : Nat → Nat} (g1 : 0 ≤ x1 ∧ x1 < 100) (gx : x2 = 0) : Res d 86 10 [vr 11 i0, vi x1, vi x2, vx] [] (mk I L t) = Res d 86 56 [vr 11 i0, vi x1, vi x2, vr 6 x1.toNat] [] (mk I L t) :=
  Eq.trans (e_aload_n D86_10 rfl rfl) <| Eq.trans (e_getP (p := (44, i0)) D86_11 rfl o_86 f_11_41 (sh_11 _) (by decide) (pp_11_5 _ _)) <| Eq.trans (e_iload_n D86_14 rfl rfl) <| Eq.trans (e_aald (p := (6, x1.toNat)) D86_15 rfl (ae_44 _) (aq_44 _) (pa_44 _ _ _) g1) <| Eq.trans (e_astore_n (ls1 := [vr 11 i0, vi x1, vi x2, vr 6 x1.toNat]) D86_16 rfl (show 3 < 4 by decide) rfl) <| Eq.trans (e_iload_n D86_17 rfl rfl) <| e_tswK (k := 0) (q1 := 56) D86_18 gx (by decide) rfl rfl
theorem b86_10_c1 {d : Nat} {i0 : Nat} {x1 x2 : Int} {I L : Nat → Nat → Nat → Int} {t : Nat → Nat} (g1 : 0 ≤ x1 ∧ x1 < 100) (gx : x2 = 1) : Res d 86 10 [vr 11 i0, vi x1, vi x2, vx] [] (mk I L t) = Res d 86 61 [vr 11 i0, vi x1, vi x2, vr 6 x1.toNat] [] (mk I L t) :=
  Eq.trans (e_aload_n D86_10 rfl rfl) <| Eq.trans (e_getP (p := (44, i0)) D86_11 rfl o_86 f_11_41 (sh_11 _) (by decide) (pp_11_5 _ _)) <| Eq.trans (e_iload_n D86_14 rfl rfl) <| Eq.trans (e_aald (p := (6, x1.toNat)) D86_15 rfl (ae_44 _) (aq_44 _) (pa_44 _ _ _) g1) <| Eq.trans (e_astore_n (ls1 := [vr 11 i0, vi x1, vi x2, vr 6 x1.toNat]) D86_16 rfl (show 3 < 4 by decide) rfl) <| Eq.trans (e_iload_n D86_17 rfl rfl) <| e_tswK (k := 1) (q1 := 61) D86_18 gx (by decide) rfl rfl
theorem b86_10_c2 {d : Nat} {i0 : Nat} {x1 x2 : Int} {I L : Nat → Nat → Nat → Int} {t : Nat → Nat} (g1 : 0 ≤ x1 ∧ x1 < 100) (gx : x2 = 2) : Res d 86 10 [vr 11 i0, vi x1, vi x2, vx] [] (mk I L t) = Res d 86 66 [vr 11 i0, vi x1, vi x2, vr 6 x1.toNat] [] (mk I L t) :=
  Eq.trans (e_aload_n D86_10 rfl rfl) <| Eq.trans (e_getP (p := (44, i0)) D86_11 rfl o_86 f_11_41 (sh_11 _) (by decide) (pp_11_5 _ _)) <| Eq.trans (e_iload_n D86_14 rfl rfl) <| Eq.trans (e_aald (p := (6, x1.toNat)) D86_15 rfl (ae_44 _) (aq_44 _) (pa_44 _ _ _) g1) <| Eq.trans (e_astore_n (ls1 := [vr 11 i0, vi x1, vi x2, vr 6 x1.toNat]) D86_16 rfl (show 3 < 4 by decide) rfl) <| Eq.trans (e_iload_n D86_17 rfl rfl) <| e_tswK (k := 2) (q1 := 66) D86_18 gx (by decide) rfl rfl
theorem b86_10_c3 {d : Nat} {i0 : Nat} {x1 x2 : Int} {I L : Nat → Nat → Nat → Int} {t : Nat → Nat} (g1 : 0 ≤ x1 ∧ x1 < 100) (gx : x2 = 3) : Res d 86 10 [vr 11 i0, vi x1, vi x2, vx] [] (mk I L t) = Res d 86 71 [vr 11 i0, vi x1, vi x2, vr 6 x1.toNat] [] (mk I L t) :=
  Eq.trans (e_aload_n D86_10 rfl rfl) <| Eq.trans (e_getP (p := (44, i0)) D86_11 rfl o_86 f_11_41 (sh_11 _) (by decide) (pp_11_5 _ _)) <| Eq.trans (e_iload_n D86_14 rfl rfl) <| Eq.trans (e_aald (p := (6, x1.toNat)) D86_15 rfl (ae_44 _) (aq_44 _) (pa_44 _ _ _) g1) <| Eq.trans (e_astore_n (ls1 := [vr 11 i0, vi x1, vi x2, vr 6 x1.toNat]) D86_16 rfl (show 3 < 4 by decide) rfl) <| Eq.trans (e_iload_n D86_17 rfl rfl) <| e_tswK (k := 3) (q1 := 71) D86_18 gx (by decide) rfl rfl
theorem b86_10_c4 {d : Nat} {i0 : Nat} {x1 x2 : Int} {I L : Nat → Nat → Nat → Int} {t : Nat → Nat} (g1 : 0 ≤ x1 ∧ x1 < 100) (gx : x2 = 4) : Res d 86 10 [vr 11 i0, vi x1, vi x2, vx] [] (mk I L t) = Res d 86 76 [vr 11 i0, vi x1, vi x2, vr 6 x1.toNat] [] (mk I L t) :=
  Eq.trans (e_aload_n D86_10 rfl rfl) <| Eq.trans (e_getP (p := (44, i0)) D86_11 rfl o_86 f_11_41 (sh_11 _) (by decide) (pp_11_5 _ _)) <| Eq.trans (e_iload_n D86_14 rfl rfl) <| Eq.trans (e_aald (p := (6, x1.toNat)) D86_15 rfl (ae_44 _) (aq_44 _) (pa_44 _ _ _) g1) <| Eq.trans (e_astore_n (ls1 := [vr 11 i0, vi x1, vi x2, vr 6 x1.toNat]) D86_16 rfl (show 3 < 4 by decide) rfl) <| Eq.trans (e_iload_n D86_17 rfl rfl) <| e_tswK (k := 4) (q1 := 76) D86_18 gx (by decide) rfl rfl
theorem b86_10_c5 {d : Nat} {i0 : Nat} {x1 x2 : Int} {I L : Nat → Nat → Nat → Int} {t : Nat → Nat} (g1 : 0 ≤ x1 ∧ x1 < 100) (gx : x2 = 5) : Res d 86 10 [vr 11 i0, vi x1, vi x2, vx] [] (mk I L t) = Res d 86 81 [vr 11 i0, vi x1, vi x2, vr 6 x1.toNat] [] (mk I L t) :=
  Eq.trans (e_aload_n D86_10 rfl rfl) <| Eq.trans (e_getP (p := (44, i0)) D86_11 rfl o_86 f_11_41 (sh_11 _) (by decide) (pp_11_5 _ _)) <| Eq.trans (e_iload_n D86_14 rfl rfl) <| Eq.trans (e_aald (p := (6, x1.toNat)) D86_15 rfl (ae_44 _) (aq_44 _) (pa_44 _ _ _) g1) <| Eq.trans (e_astore_n (ls1 := [vr 11 i0, vi x1, vi x2, vr 6 x1.toNat]) D86_16 rfl (show 3 < 4 by decide) rfl) <| Eq.trans (e_iload_n D86_17 rfl rfl) <| e_tswK (k := 5) (q1 := 81) D86_18 gx (by decide) rfl rfl
theorem b86_56 {d : Nat} {i0 i3 : Nat} {x1 x2 : Int} {I L : Nat → Nat → Nat → Int} {t : Nat → Nat} : Res d 86 56 [vr 11 i0, vi x1, vi x2, vr 6 i3] [] (mk I L t) = some (vi (I 6 i3 1), (mk I L t)) :=
  Eq.trans (e_aload_n D86_56 rfl rfl) <| Eq.trans (e_getI D86_57 rfl o_86 f_11_197 (sh_6 _) (by decide)) <| e_iret D86_60 rfl
theorem b86_61 {d : Nat} {i0 i3 : Nat} {x1 x2 : Int} {I L : Nat → Nat → Nat → Int} {t : Nat → Nat} : Res d 86 61 [vr 11 i0, vi x1, vi x2, vr 6 i3] [] (mk I L t) = some (vi (I 6 i3 2), (mk I L t)) :=
  Eq.trans (e_aload_n D86_61 rfl rfl) <| Eq.trans (e_getI D86_62 rfl o_86 f_11_200 (sh_6 _) (by decide)) <| e_iret D86_65 rfl
theorem b86_66 {d : Nat} {i0 i3 : Nat} {x1 x2 : Int} {I L : Nat → Nat → Nat → Int} {t : Nat → Nat} : Res d 86 66 [vr 11 i0, vi x1, vi x2, vr 6 i3] [] (mk I L t) = some (vi (I 6 i3 3), (mk I L t)) :=
  Eq.trans (e_aload_n D86_66 rfl rfl) <| Eq.trans (e_getI D86_67 rfl o_86 f_11_203 (sh_6 _) (by decide)) <| e_iret D86_70 rfl
theorem b86_71 {d : Nat} {i0 i3 : Nat} {x1 x2 : Int} {I L : Nat → Nat → Nat → Int} {t : Nat → Nat} : Res d 86 71 [vr 11 i0, vi x1, vi x2, vr 6 i3] [] (mk I L t) = some (vi (I 6 i3 6), (mk I L t)) :=
  Eq.trans (e_aload_n D86_71 rfl rfl) <| Eq.trans (e_getI D86_72 rfl o_86 f_11_220 (sh_6 _) (by decide)) <| e_iret D86_75 rfl
theorem b86_76 {d : Nat} {i0 i3 : Nat} {x1 x2 : Int} {I L : Nat → Nat → Nat → Int} {t : Nat → Nat} : Res d 86 76 [vr 11 i0, vi x1, vi x2, vr 6 i3] [] (mk I L t) = some (vi (I 6 i3 7), (mk I L t)) :=
  Eq.trans (e_aload_n D86_76 rfl rfl) <| Eq.trans (e_getI D86_77 rfl o_86 f_11_227 (sh_6 _) (by decide)) <| e_iret D86_80 rfl
theorem b86_81 {d : Nat} {i0 i3 : Nat} {x1 x2 : Int} {I L : Nat → Nat → Nat → Int} {t : Nat → Nat} : Res d 86 81 [vr 11 i0, vi x1, vi x2, vr 6 i3] [] (mk I L t) = some (vi (I 6 i3 8), (mk I L t)) :=
  Eq.trans (e_aload_n D86_81 rfl rfl) <| Eq.trans (e_getI D86_82 rfl o_86 f_11_234 (sh_6 _) (by decide)) <| e_iret D86_85 rfl
theorem b86_86 {d : Nat} {i0 i3 : Nat} {x1 x2 : Int} {I L : Nat → Nat → Nat → Int} {t : Nat → Nat} : Res (d + 1) 86 86 [vr 11 i0, vi x1, vi x2, vr 6 i3] [] (mk I L t) = (Cal d 102 [vi x2, vi 10, vi 18] (mk I L t)).bind fun v => Res (d + 1) 86 94 [vr 11 i0, vi x1, vi x2, vr 6 i3] (psh 102 v.1 []) v.2 :=
  Eq.trans (e_iload_n D86_86 rfl rfl) <| Eq.trans (e_bipush (x := 10) D86_87 rfl rfl) <| Eq.trans (e_bipush (x := 18) D86_89 rfl rfl) <| e_callS D86_91 rfl o_86 m_11_76 (by decide) rfl rfl
theorem b86_94 {d : Nat} {i0 i3 : Nat} {x1 x2 xs0 : Int} {I L : Nat → Nat → Nat → Int} {t : Nat → Nat} : Res d 86 94 [vr 11 i0, vi x1, vi x2, vr 6 i3] [vi xs0] (mk I L t) = if xs0 = 0 then Res d 86 111 [vr 11 i0, vi x1, vi x2, vr 6 i3] [] (mk I L t) else Res d 86 97 [vr 11 i0, vi x1, vi x2, vr 6 i3] [] (mk I L t) :=
  e_ifeq D86_94 rfl rfl
theorem b86_97 {d : Nat} {i0 i3 : Nat} {x1 x2 : Int} {I L : Nat → Nat → Nat → Int} {t : Nat → Nat} : Res (d + 1) 86 97 [vr 11 i0, vi x1, vi x2, vr 6 i3] [] (mk I L t) = (Cal d 26 [vr 4 (6 + i3), vi (w32 (x2 - 10))] (mk I L t)).bind fun v => Res (d + 1) 86 108 [vr 11 i0, vi x1, vi x2, vr 6 i3] (psh 26 v.1 []) v.2 :=
  Eq.trans (e_aload_n D86_97 rfl rfl) <| Eq.trans (e_getP (p := (4, 6 + i3)) D86_98 rfl o_86 f_11_206 (sh_6 _) (by decide) (pp_6_0 _ _)) <| Eq.trans (e_iload_n D86_101 rfl rfl) <| Eq.trans (e_bipush (x := 10) D86_102 rfl rfl) <| Eq.trans (e_isub D86_104 rfl) <| e_callV D86_105 rfl o_86 m_11_247 (by decide) rfl rfl
theorem b86_108 {d : Nat} {i0 i3 : Nat} {x1 x2 xs0 : Int} {I L : Nat → Nat → Nat → Int} {t : Nat → Nat} : Res d 86 108 [vr 11 i0, vi x1, vi x2, vr 6 i3] [vi xs0] (mk I L t) = Res d 86 112 [vr 11 i0, vi x1, vi x2, vr 6 i3] [vi xs0] (mk I L t) :=
  e_goto (q1 := 112) D86_108 rfl
theorem b86_111 {d : Nat} {i0 i3 : Nat} {x1 x2 : Int} {I L : Nat → Nat → Nat → Int} {t : Nat → Nat} : Res d 86 111 [vr 11 i0, vi x1, vi x2, vr 6 i3] [] (mk I L t) = Res d 86 112 [vr 11 i0, vi x1, vi x2, vr 6 i3] [vi (-1)] (mk I L t) :=
  e_iconst (x := -1) D86_111 rfl rfl
theorem b86_112 {d : Nat} {i0 i3 : Nat} {x1 x2 xs0 : Int} {I L : Nat → Nat → Nat → Int} {t : Nat → Nat} : Res d 86 112 [vr 11 i0, vi x1, vi x2, vr 6 i3] [vi xs0] (mk I L t) = some (vi xs0, (mk I L t)) :=
  e_iret D86_112 rfl
/-! x_praise -/
theorem cc_87 : cod 87 = cX11_praise := rfl
theorem D87_0 : decode (cod 87) 0 = .ok (.aload_n 0, 1) := by rw [cc_87]; decide +kernel
theorem D87_1 : decode (cod 87) 1 = .ok (.iload_n 1, 1) := by rw [cc_87]; decide +kernel
theorem D87_2 : decode (cod 87) 2 = .ok (.invokevirtual 166, 3) := by rw [cc_87]; decide +kernel
theorem D87_5 : decode (cod 87) 5 = .ok (.ifCond .ne 5, 3) := by rw [cc_87]; decide +kernel
theorem D87_8 : decode (cod 87) 8 = .ok (.iconst (-1), 1) := by rw [cc_87]; decide +kernel
theorem D87_9 : decode (cod 87) 9 = .ok (.ireturn, 1) := by rw [cc_87]; decide +kernel
theorem D87_10 : decode (cod 87) 10 = .ok (.aload_n 0, 1) := by rw [cc_87]; decide +kernel
theorem D87_11 : decode (cod 87) 11 = .ok (.getfield 35, 3) := by rw [cc_87]; decide +kernel
theorem D87_14 : decode (cod 87) 14 = .ok (.iload_n 1, 1) := by rw [cc_87]; decide +kernel
theorem D87_15 : decode (cod 87) 15 = .ok (.aaload, 1) := by rw [cc_87]; decide +kernel
theorem D87_16 : decode (cod 87) 16 = .ok (.bipush 9, 2) := by rw [cc_87]; decide +kernel
theorem D87_18 : decode (cod 87) 18 = .ok (.aload_n 0, 1) := by rw [cc_87]; decide +kernel
theorem D87_19 : decode (cod 87) 19 = .ok (.getfield 35, 3) := by rw [cc_87]; decide +kernel
theorem D87_22 : decode (cod 87) 22 = .ok (.iload_n 1, 1) := by rw [cc_87]; decide +kernel
theorem D87_23 : decode (cod 87) 23 = .ok (.aaload, 1) := by rw [cc_87]; decide +kernel
theorem D87_24 : decode (cod 87) 24 = .ok (.getfield 250, 3) := by rw [cc_87]; decide +kernel
theorem D87_27 : decode (cod 87) 27 = .ok (.iconst 1, 1) := by rw [cc_87]; decide +kernel
theorem D87_28 : decode (cod 87) 28 = .ok (.iadd, 1) := by rw [cc_87]; decide +kernel
theorem D87_29 : decode (cod 87) 29 = .ok (.invokestatic 253, 3) := by rw [cc_87]; decide +kernel
theorem D87_32 : decode (cod 87) 32 = .ok (.putfield 250, 3) := by rw [cc_87]; decide +kernel
theorem D87_35 : decode (cod 87) 35 = .ok (.aload_n 0, 1) := by rw [cc_87]; decide +kernel
theorem D87_36 : decode (cod 87) 36 = .ok (.getfield 35, 3) := by rw [cc_87]; decide +kernel
theorem D87_39 : decode (cod 87) 39 = .ok (.iload_n 1, 1) := by rw [cc_87]; decide +kernel
theorem D87_40 : decode (cod 87) 40 = .ok (.aaload, 1) := by rw [cc_87]; decide +kernel
theorem D87_41 : decode (cod 87) 41 = .ok (.getfield 250, 3) := by rw [cc_87]; decide +kernel
theorem D87_44 : decode (cod 87) 44 = .ok (.ireturn, 1) := by rw [cc_87]; decide +kernel
theorem b87_0 {d : Nat} {i0 : Nat} {x1 : Int} {I L : Nat → Nat → Nat → Int} {t : Nat → Nat} : Res (d + 1) 87 0 [vr 11 i0, vi x1] [] (mk I L t) = (Cal d 106 [vr 11 i0, vi x1] (mk I L t)).bind fun v => Res (d + 1) 87 5 [vr 11 i0, vi x1] (psh 106 v.1 []) v.2 :=
  Eq.trans (e_aload_n D87_0 rfl rfl) <| Eq.trans (e_iload_n D87_1 rfl rfl) <| e_callV D87_2 rfl o_87 m_11_166 (by decide) rfl rfl
theorem b87_5 {d : Nat} {i0 : Nat} {x1 xs0 : Int} {I L : Nat → Nat → Nat → Int} {t : Nat → Nat} : Res d 87 5 [vr 11 i0, vi x1] [vi xs0] (mk I L t) = if ¬ xs0 = 0 then Res d 87 10 [vr 11 i0, vi x1] [] (mk I L t) else Res d 87 8 [vr 11 i0, vi x1] [] (mk I L t) :=
  e_ifne D87_5 rfl rfl
theorem b87_8 {d : Nat} {i0 : Nat} {x1 : Int} {I L : Nat → Nat → Nat → Int} {t : Nat → Nat} : Res d 87 8 [vr 11 i0, vi x1] [] (mk I L t) = some (vi (-1), (mk I L t)) :=
  Eq.trans (e_iconst (x := -1) D87_8 rfl rfl) <| e_iret D87_9 rfl
theorem b87_10 {d : Nat} {i0 : Nat} {x1 : Int} {I L : Nat → Nat → Nat → Int} {t : Nat → Nat} (g1 : 0 ≤ x1 ∧ x1 < 20) : Res (d + 1) 87 10 [vr 11 i0, vi x1] [] (mk I L t) = some (vi ((up3 I 3 x1.toNat 8 ((if w32 ((I 3 x1.toNat 8) + 1) < 9 then w32 ((I 3 x1.toNat 8) + 1) else 9))) 3 x1.toNat 8), (mk (up3 I 3 x1.toNat 8 ((if w32 ((I 3 x1.toNat 8) + 1) < 9 then w32 ((I 3 x1.toNat 8) + 1) else 9))) L t)) :=
  Eq.trans (e_aload_n D87_10 rfl rfl) <| Eq.trans (e_getP (p := (43, i0)) D87_11 rfl o_87 f_11_35 (sh_11 _) (by decide) (pp_11_4 _ _)) <| Eq.trans (e_iload_n D87_14 rfl rfl) <| Eq.trans (e_aald (p := (3, x1.toNat)) D87_15 rfl (ae_43 _) (aq_43 _) (pa_43 _ _ _) g1) <| Eq.trans (e_bipush (x := 9) D87_16 rfl rfl) <| Eq.trans (e_aload_n D87_18 rfl rfl) <| Eq.trans (e_getP (p := (43, i0)) D87_19 rfl o_87 f_11_35 (sh_11 _) (by decide) (pp_11_4 _ _)) <| Eq.trans (e_iload_n D87_22 rfl rfl) <| Eq.trans (e_aald (p := (3, x1.toNat)) D87_23 rfl (ae_43 _) (aq_43 _) (pa_43 _ _ _) g1) <| Eq.trans (e_getI D87_24 rfl o_87 f_11_250 (sh_3 _) (by decide)) <| Eq.trans (e_iconst (x := 1) D87_27 rfl rfl) <| Eq.trans (e_iadd D87_28 rfl) <| Eq.trans (e_min (by omega) D87_29 rfl o_87 m_11_253 (by simp [cw])) <| Eq.trans (e_putI D87_32 rfl o_87 f_11_250 (sh_3 _) rfl (by decide) (Or.inl (by decide))) <| Eq.trans (e_aload_n D87_35 rfl rfl) <| Eq.trans (e_getP (p := (43, i0)) D87_36 rfl o_87 f_11_35 (sh_11 _) (by decide) (pp_11_4 _ _)) <| Eq.trans (e_iload_n D87_39 rfl rfl) <| Eq.trans (e_aald (p := (3, x1.toNat)) D87_40 rfl (ae_43 _) (aq_43 _) (pa_43 _ _ _) g1) <| Eq.trans (e_getI D87_41 rfl o_87 f_11_250 (sh_3 _) (by decide)) <| e_iret D87_44 rfl
/-! x_sure -/
theorem cc_88 : cod 88 = cX11_sure := rfl
theorem D88_0 : decode (cod 88) 0 = .ok (.aload_n 0, 1) := by rw [cc_88]; decide +kernel
theorem D88_1 : decode (cod 88) 1 = .ok (.iload_n 1, 1) := by rw [cc_88]; decide +kernel
theorem D88_2 : decode (cod 88) 2 = .ok (.invokevirtual 166, 3) := by rw [cc_88]; decide +kernel
theorem D88_5 : decode (cod 88) 5 = .ok (.ifCond .eq 25, 3) := by rw [cc_88]; decide +kernel
theorem D88_8 : decode (cod 88) 8 = .ok (.aload_n 0, 1) := by rw [cc_88]; decide +kernel
theorem D88_9 : decode (cod 88) 9 = .ok (.iload_n 2, 1) := by rw [cc_88]; decide +kernel
theorem D88_10 : decode (cod 88) 10 = .ok (.invokevirtual 107, 3) := by rw [cc_88]; decide +kernel
theorem D88_13 : decode (cod 88) 13 = .ok (.ifCond .eq 17, 3) := by rw [cc_88]; decide +kernel
theorem D88_16 : decode (cod 88) 16 = .ok (.aload_n 0, 1) := by rw [cc_88]; decide +kernel
theorem D88_17 : decode (cod 88) 17 = .ok (.getfield 22, 3) := by rw [cc_88]; decide +kernel
theorem D88_20 : decode (cod 88) 20 = .ok (.iload_n 2, 1) := by rw [cc_88]; decide +kernel
theorem D88_21 : decode (cod 88) 21 = .ok (.aaload, 1) := by rw [cc_88]; decide +kernel
theorem D88_22 : decode (cod 88) 22 = .ok (.iload_n 3, 1) := by rw [cc_88]; decide +kernel
theorem D88_23 : decode (cod 88) 23 = .ok (.invokevirtual 247, 3) := by rw [cc_88]; decide +kernel
theorem D88_26 : decode (cod 88) 26 = .ok (.iconst (-1), 1) := by rw [cc_88]; decide +kernel
theorem D88_27 : decode (cod 88) 27 = .ok (.if_icmp .ne 5, 3) := by rw [cc_88]; decide +kernel
theorem D88_30 : decode (cod 88) 30 = .ok (.iconst (-1), 1) := by rw [cc_88]; decide +kernel
theorem D88_31 : decode (cod 88) 31 = .ok (.ireturn, 1) := by rw [cc_88]; decide +kernel
theorem D88_32 : decode (cod 88) 32 = .ok (.aload_n 0, 1) := by rw [cc_88]; decide +kernel
theorem D88_33 : decode (cod 88) 33 = .ok (.aload_n 0, 1) := by rw [cc_88]; decide +kernel
theorem D88_34 : decode (cod 88) 34 = .ok (.getfield 35, 3) := by rw [cc_88]; decide +kernel
theorem D88_37 : decode (cod 88) 37 = .ok (.iload_n 1, 1) := by rw [cc_88]; decide +kernel
theorem D88_38 : decode (cod 88) 38 = .ok (.aaload, 1) := by rw [cc_88]; decide +kernel
theorem D88_39 : decode (cod 88) 39 = .ok (.aload_n 0, 1) := by rw [cc_88]; decide +kernel
theorem D88_40 : decode (cod 88) 40 = .ok (.getfield 22, 3) := by rw [cc_88]; decide +kernel
theorem D88_43 : decode (cod 88) 43 = .ok (.iload_n 2, 1) := by rw [cc_88]; decide +kernel
theorem D88_44 : decode (cod 88) 44 = .ok (.aaload, 1) := by rw [cc_88]; decide +kernel
theorem D88_45 : decode (cod 88) 45 = .ok (.iload_n 3, 1) := by rw [cc_88]; decide +kernel
theorem D88_46 : decode (cod 88) 46 = .ok (.invokevirtual 230, 3) := by rw [cc_88]; decide +kernel
theorem D88_49 : decode (cod 88) 49 = .ok (.ireturn, 1) := by rw [cc_88]; decide +kernel
theorem b88_0 {d : Nat} {i0 : Nat} {x1 x2 x3 : Int} {I L : Nat → Nat → Nat → Int} {t : Nat → Nat} : Res (d + 1) 88 0 [vr 11 i0, vi x1, vi x2, vi x3] [] (mk I L t) = (Cal d 106 [vr 11 i0, vi x1] (mk I L t)).bind fun v => Res (d + 1) 88 5 [vr 11 i0, vi x1, vi x2, vi x3] (psh 106 v.1 []) v.2 :=
  Eq.trans (e_aload_n D88_0 rfl rfl) <| Eq.trans (e_iload_n D88_1 rfl rfl) <| e_callV D88_2 rfl o_88 m_11_166 (by decide) rfl rfl
theorem b88_5 {d : Nat} {i0 : Nat} {x1 x2 x3 xs0 : Int} {I L : Nat → Nat → Nat → Int} {t : Nat → Nat} : Res d 88 5 [vr 11 i0, vi x1, vi x2, vi x3] [vi xs0] (mk I L t) = if xs0 = 0 then Res d 88 30 [vr 11 i0, vi x1, vi x2, vi x3] [] (mk I L t) else Res d 88 8 [vr 11 i0, vi x1, vi x2, vi x3] [] (mk I L t) :=
  e_ifeq D88_5 rfl rfl
theorem b88_8 {d : Nat} {i0 : Nat} {x1 x2 x3 : Int} {I L : Nat → Nat → Nat → Int} {t : Nat → Nat} : Res (d + 1) 88 8 [vr 11 i0, vi x1, vi x2, vi x3] [] (mk I L t) = (Cal d 105 [vr 11 i0, vi x2] (mk I L t)).bind fun v => Res (d + 1) 88 13 [vr 11 i0, vi x1, vi x2, vi x3] (psh 105 v.1 []) v.2 :=
  Eq.trans (e_aload_n D88_8 rfl rfl) <| Eq.trans (e_iload_n D88_9 rfl rfl) <| e_callV D88_10 rfl o_88 m_11_107 (by decide) rfl rfl
theorem b88_13 {d : Nat} {i0 : Nat} {x1 x2 x3 xs0 : Int} {I L : Nat → Nat → Nat → Int} {t : Nat → Nat} : Res d 88 13 [vr 11 i0, vi x1, vi x2, vi x3] [vi xs0] (mk I L t) = if xs0 = 0 then Res d 88 30 [vr 11 i0, vi x1, vi x2, vi x3] [] (mk I L t) else Res d 88 16 [vr 11 i0, vi x1, vi x2, vi x3] [] (mk I L t) :=
  e_ifeq D88_13 rfl rfl
theorem b88_16 {d : Nat} {i0 : Nat} {x1 x2 x3 : Int} {I L : Nat → Nat → Nat → Int} {t : Nat → Nat} (g1 : 0 ≤ x2 ∧ x2 < 6) : Res (d + 1) 88 16 [vr 11 i0, vi x1, vi x2, vi x3] [] (mk I L t) = (Cal d 26 [vr 4 x2.toNat, vi x3] (mk I L t)).bind fun v => Res (d + 1) 88 26 [vr 11 i0, vi x1, vi x2, vi x3] (psh 26 v.1 []) v.2 :=
  Eq.trans (e_aload_n D88_16 rfl rfl) <| Eq.trans (e_getP (p := (42, i0)) D88_17 rfl o_88 f_11_22 (sh_11 _) (by decide) (pp_11_2 _ _)) <| Eq.trans (e_iload_n D88_20 rfl rfl) <| Eq.trans (e_aald (p := (4, x2.toNat)) D88_21 rfl (ae_42 _) (aq_42 _) (pa_42 _ _ _) g1) <| Eq.trans (e_iload_n D88_22 rfl rfl) <| e_callV D88_23 rfl o_88 m_11_247 (by decide) rfl rfl
theorem b88_26 {d : Nat} {i0 : Nat} {x1 x2 x3 xs0 : Int} {I L : Nat → Nat → Nat → Int} {t : Nat → Nat} : Res d 88 26 [vr 11 i0, vi x1, vi x2, vi x3] [vi xs0] (mk I L t) = if ¬ xs0 = -1 then Res d 88 32 [vr 11 i0, vi x1, vi x2, vi x3] [] (mk I L t) else Res d 88 30 [vr 11 i0, vi x1, vi x2, vi x3] [] (mk I L t) :=
  Eq.trans (e_iconst (x := -1) D88_26 rfl rfl) <| e_icne D88_27 rfl rfl
theorem b88_30 {d : Nat} {i0 : Nat} {x1 x2 x3 : Int} {I L : Nat → Nat → Nat → Int} {t : Nat → Nat} : Res d 88 30 [vr 11 i0, vi x1, vi x2, vi x3] [] (mk I L t) = some (vi (-1), (mk I L t)) :=
  Eq.trans (e_iconst (x := -1) D88_30 rfl rfl) <| e_iret D88_31 rfl
theorem b88_32 {d : Nat} {i0 : Nat} {x1 x2 x3 : Int} {I L : Nat → Nat → Nat → Int} {t : Nat → Nat} (g1 : 0 ≤ x1 ∧ x1 < 20) (g2 : 0 ≤ x2 ∧ x2 < 6) : Res (d + 1) 88 32 [vr 11 i0, vi x1, vi x2, vi x3] [] (mk I L t) = (Cal d 116 [vr 11 i0, vr 3 x1.toNat, vr 4 x2.toNat, vi x3] (mk I L t)).bind fun v => Res (d + 1) 88 49 [vr 11 i0, vi x1, vi x2, vi x3] (psh 116 v.1 []) v.2 :=
  Eq.trans (e_aload_n D88_32 rfl rfl) <| Eq.trans (e_aload_n D88_33 rfl rfl) <| Eq.trans (e_getP (p := (43, i0)) D88_34 rfl o_88 f_11_35 (sh_11 _) (by decide) (pp_11_4 _ _)) <| Eq.trans (e_iload_n D88_37 rfl rfl) <| Eq.trans (e_aald (p := (3, x1.toNat)) D88_38 rfl (ae_43 _) (aq_43 _) (pa_43 _ _ _) g1) <| Eq.trans (e_aload_n D88_39 rfl rfl) <| Eq.trans (e_getP (p := (42, i0)) D88_40 rfl o_88 f_11_22 (sh_11 _) (by decide) (pp_11_2 _ _)) <| Eq.trans (e_iload_n D88_43 rfl rfl) <| Eq.trans (e_aald (p := (4, x2.toNat)) D88_44 rfl (ae_42 _) (aq_42 _) (pa_42 _ _ _) g2) <| Eq.trans (e_iload_n D88_45 rfl rfl) <| e_callV D88_46 rfl o_88 m_11_230 (by decide) rfl rfl
theorem b88_49 {d : Nat} {i0 : Nat} {x1 x2 x3 xs0 : Int} {I L : Nat → Nat → Nat → Int} {t : Nat → Nat} : Res d 88 49 [vr 11 i0, vi x1, vi x2, vi x3] [vi xs0] (mk I L t) = some (vi xs0, (mk I L t)) :=
  e_iret D88_49 rfl
/-! x_together -/
theorem cc_89 : cod 89 = cX11_together := rfl
theorem D89_0 : decode (cod 89) 0 = .ok (.aload_n 0, 1) := by rw [cc_89]; decide +kernel
theorem D89_1 : decode (cod 89) 1 = .ok (.iload_n 1, 1) := by rw [cc_89]; decide +kernel
theorem D89_2 : decode (cod 89) 2 = .ok (.invokevirtual 166, 3) := by rw [cc_89]; decide +kernel
theorem D89_5 : decode (cod 89) 5 = .ok (.ifCond .eq 32, 3) := by rw [cc_89]; decide +kernel
theorem D89_8 : decode (cod 89) 8 = .ok (.aload_n 0, 1) := by rw [cc_89]; decide +kernel
theorem D89_9 : decode (cod 89) 9 = .ok (.iload_n 2, 1) := by rw [cc_89]; decide +kernel
theorem D89_10 : decode (cod 89) 10 = .ok (.invokevirtual 107, 3) := by rw [cc_89]; decide +kernel
theorem D89_13 : decode (cod 89) 13 = .ok (.ifCond .eq 24, 3) := by rw [cc_89]; decide +kernel
theorem D89_16 : decode (cod 89) 16 = .ok (.aload_n 0, 1) := by rw [cc_89]; decide +kernel
theorem D89_17 : decode (cod 89) 17 = .ok (.getfield 22, 3) := by rw [cc_89]; decide +kernel
theorem D89_20 : decode (cod 89) 20 = .ok (.iload_n 2, 1) := by rw [cc_89]; decide +kernel
theorem D89_21 : decode (cod 89) 21 = .ok (.aaload, 1) := by rw [cc_89]; decide +kernel
theorem D89_22 : decode (cod 89) 22 = .ok (.invokevirtual 258, 3) := by rw [cc_89]; decide +kernel
theorem D89_25 : decode (cod 89) 25 = .ok (.ifCond .eq 12, 3) := by rw [cc_89]; decide +kernel
theorem D89_28 : decode (cod 89) 28 = .ok (.aload_n 0, 1) := by rw [cc_89]; decide +kernel
theorem D89_29 : decode (cod 89) 29 = .ok (.getfield 80, 3) := by rw [cc_89]; decide +kernel
theorem D89_32 : decode (cod 89) 32 = .ok (.bipush 120, 2) := by rw [cc_89]; decide +kernel
theorem D89_34 : decode (cod 89) 34 = .ok (.if_icmp .lt 5, 3) := by rw [cc_89]; decide +kernel
theorem D89_37 : decode (cod 89) 37 = .ok (.iconst (-1), 1) := by rw [cc_89]; decide +kernel
theorem D89_38 : decode (cod 89) 38 = .ok (.ireturn, 1) := by rw [cc_89]; decide +kernel
theorem D89_39 : decode (cod 89) 39 = .ok (.aload_n 0, 1) := by rw [cc_89]; decide +kernel
theorem D89_40 : decode (cod 89) 40 = .ok (.getfield 35, 3) := by rw [cc_89]; decide +kernel
theorem D89_43 : decode (cod 89) 43 = .ok (.iload_n 1, 1) := by rw [cc_89]; decide +kernel
theorem D89_44 : decode (cod 89) 44 = .ok (.aaload, 1) := by rw [cc_89]; decide +kernel
theorem D89_45 : decode (cod 89) 45 = .ok (.astore_n 3, 1) := by rw [cc_89]; decide +kernel
theorem D89_46 : decode (cod 89) 46 = .ok (.aload_n 0, 1) := by rw [cc_89]; decide +kernel
theorem D89_47 : decode (cod 89) 47 = .ok (.aload_n 3, 1) := by rw [cc_89]; decide +kernel
theorem D89_48 : decode (cod 89) 48 = .ok (.aload_n 0, 1) := by rw [cc_89]; decide +kernel
theorem D89_49 : decode (cod 89) 49 = .ok (.getfield 22, 3) := by rw [cc_89]; decide +kernel
theorem D89_52 : decode (cod 89) 52 = .ok (.iload_n 2, 1) := by rw [cc_89]; decide +kernel
theorem D89_53 : decode (cod 89) 53 = .ok (.aaload, 1) := by rw [cc_89]; decide +kernel
theorem D89_54 : decode (cod 89) 54 = .ok (.invokevirtual 262, 3) := by rw [cc_89]; decide +kernel
theorem D89_57 : decode (cod 89) 57 = .ok (.aload_n 0, 1) := by rw [cc_89]; decide +kernel
theorem D89_58 : decode (cod 89) 58 = .ok (.getfield 11, 3) := by rw [cc_89]; decide +kernel
theorem D89_61 : decode (cod 89) 61 = .ok (.aload_n 0, 1) := by rw [cc_89]; decide +kernel
theorem D89_62 : decode (cod 89) 62 = .ok (.getfield 80, 3) := by rw [cc_89]; decide +kernel
theorem D89_65 : decode (cod 89) 65 = .ok (.aaload, 1) := by rw [cc_89]; decide +kernel
theorem D89_66 : decode (cod 89) 66 = .ok (.astore 4, 2) := by rw [cc_89]; decide +kernel
theorem D89_68 : decode (cod 89) 68 = .ok (.aload 4, 2) := by rw [cc_89]; decide +kernel
theorem D89_70 : decode (cod 89) 70 = .ok (.aload_n 0, 1) := by rw [cc_89]; decide +kernel
theorem D89_71 : decode (cod 89) 71 = .ok (.getfield 11, 3) := by rw [cc_89]; decide +kernel
theorem D89_74 : decode (cod 89) 74 = .ok (.aload_n 3, 1) := by rw [cc_89]; decide +kernel
theorem D89_75 : decode (cod 89) 75 = .ok (.getfield 266, 3) := by rw [cc_89]; decide +kernel
theorem D89_78 : decode (cod 89) 78 = .ok (.aaload, 1) := by rw [cc_89]; decide +kernel
theorem D89_79 : decode (cod 89) 79 = .ok (.getfield 84, 3) := by rw [cc_89]; decide +kernel
theorem D89_82 : decode (cod 89) 82 = .ok (.putfield 84, 3) := by rw [cc_89]; decide +kernel
theorem D89_85 : decode (cod 89) 85 = .ok (.aload 4, 2) := by rw [cc_89]; decide +kernel
theorem D89_87 : decode (cod 89) 87 = .ok (.iload_n 1, 1) := by rw [cc_89]; decide +kernel
theorem D89_88 : decode (cod 89) 88 = .ok (.putfield 87, 3) := by rw [cc_89]; decide +kernel
theorem D89_91 : decode (cod 89) 91 = .ok (.aload_n 0, 1) := by rw [cc_89]; decide +kernel
theorem D89_92 : decode (cod 89) 92 = .ok (.getfield 61, 3) := by rw [cc_89]; decide +kernel
theorem D89_95 : decode (cod 89) 95 = .ok (.getfield 269, 3) := by rw [cc_89]; decide +kernel
theorem D89_98 : decode (cod 89) 98 = .ok (.iconst 0, 1) := by rw [cc_89]; decide +kernel
theorem D89_99 : decode (cod 89) 99 = .ok (.aload 4, 2) := by rw [cc_89]; decide +kernel
theorem D89_101 : decode (cod 89) 101 = .ok (.getfield 98, 3) := by rw [cc_89]; decide +kernel
theorem D89_104 : decode (cod 89) 104 = .ok (.iconst 0, 1) := by rw [cc_89]; decide +kernel
theorem D89_105 : decode (cod 89) 105 = .ok (.bipush 16, 2) := by rw [cc_89]; decide +kernel
theorem D89_107 : decode (cod 89) 107 = .ok (.invokestatic 101, 3) := by rw [cc_89]; decide +kernel
theorem D89_110 : decode (cod 89) 110 = .ok (.aload_n 3, 1) := by rw [cc_89]; decide +kernel
theorem D89_111 : decode (cod 89) 111 = .ok (.aload 4, 2) := by rw [cc_89]; decide +kernel
theorem D89_113 : decode (cod 89) 113 = .ok (.getfield 98, 3) := by rw [cc_89]; decide +kernel
theorem D89_116 : decode (cod 89) 116 = .ok (.aload_n 0, 1) := by rw [cc_89]; decide +kernel
theorem D89_117 : decode (cod 89) 117 = .ok (.aload_n 3, 1) := by rw [cc_89]; decide +kernel
theorem D89_118 : decode (cod 89) 118 = .ok (.iconst 3, 1) := by rw [cc_89]; decide +kernel
theorem D89_119 : decode (cod 89) 119 = .ok (.invokevirtual 272, 3) := by rw [cc_89]; decide +kernel
theorem D89_122 : decode (cod 89) 122 = .ok (.invokevirtual 276, 3) := by rw [cc_89]; decide +kernel
theorem D89_125 : decode (cod 89) 125 = .ok (.aload_n 0, 1) := by rw [cc_89]; decide +kernel
theorem D89_126 : decode (cod 89) 126 = .ok (.iconst (-1), 1) := by rw [cc_89]; decide +kernel
theorem D89_127 : decode (cod 89) 127 = .ok (.aload_n 0, 1) := by rw [cc_89]; decide +kernel
theorem D89_128 : decode (cod 89) 128 = .ok (.getfield 80, 3) := by rw [cc_89]; decide +kernel
theorem D89_131 : decode (cod 89) 131 = .ok (.isub, 1) := by rw [cc_89]; decide +kernel
theorem D89_132 : decode (cod 89) 132 = .ok (.invokevirtual 241, 3) := by rw [cc_89]; decide +kernel
theorem D89_135 : decode (cod 89) 135 = .ok (.aload_n 0, 1) := by rw [cc_89]; decide +kernel
theorem D89_136 : decode (cod 89) 136 = .ok (.dup, 1) := by rw [cc_89]; decide +kernel
theorem D89_137 : decode (cod 89) 137 = .ok (.getfield 80, 3) := by rw [cc_89]; decide +kernel
theorem D89_140 : decode (cod 89) 140 = .ok (.iconst 1, 1) := by rw [cc_89]; decide +kernel
theorem D89_141 : decode (cod 89) 141 = .ok (.iadd, 1) := by rw [cc_89]; decide +kernel
theorem D89_142 : decode (cod 89) 142 = .ok (.putfield 80, 3) := by rw [cc_89]; decide +kernel
theorem D89_145 : decode (cod 89) 145 = .ok (.aload_n 0, 1) := by rw [cc_89]; decide +kernel
theorem D89_146 : decode (cod 89) 146 = .ok (.dup, 1) := by rw [cc_89]; decide +kernel
theorem D89_147 : decode (cod 89) 147 = .ok (.getfield 279, 3) := by rw [cc_89]; decide +kernel
theorem D89_150 : decode (cod 89) 150 = .ok (.iconst 1, 1) := by rw [cc_89]; decide +kernel
theorem D89_151 : decode (cod 89) 151 = .ok (.iadd, 1) := by rw [cc_89]; decide +kernel
theorem D89_152 : decode (cod 89) 152 = .ok (.putfield 279, 3) := by rw [cc_89]; decide +kernel
theorem D89_155 : decode (cod 89) 155 = .ok (.aload_n 0, 1) := by rw [cc_89]; decide +kernel
theorem D89_156 : decode (cod 89) 156 = .ok (.getfield 80, 3) := by rw [cc_89]; decide +kernel
theorem D89_159 : decode (cod 89) 159 = .ok (.iconst 1, 1) := by rw [cc_89]; decide +kernel
theorem D89_160 : decode (cod 89) 160 = .ok (.isub, 1) := by rw [cc_89]; decide +kernel
theorem D89_161 : decode (cod 89) 161 = .ok (.ireturn, 1) := by rw [cc_89]; decide +kernel
theorem b89_0 {d : Nat} {i0 : Nat} {x1 x2 : Int} {I L : Nat → Nat → Nat → Int} {t : Nat → Nat} : Res (d + 1) 89 0 [vr 11 i0, vi x1, vi x2, vx, vx] [] (mk I L t) = (Cal d 106 [vr 11 i0, vi x1] (mk I L t)).bind fun v => Res (d + 1) 89 5 [vr 11 i0, vi x1, vi x2, vx, vx] (psh 106 v.1 []) v.2 :=
  Eq.trans (e_aload_n D89_0 rfl rfl) <| Eq.trans (e_iload_n D89_1 rfl rfl) <| e_callV D89_2 rfl o_89 m_11_166 (by decide) rfl rfl
theorem b89_5 {d : Nat} {i0 : Nat} {x1 x2 xs0 : Int} {I L : Nat → Nat → Nat → Int} {t : Nat → Nat} : Res d 89 5 [vr 11 i0, vi x1, vi x2, vx, vx] [vi xs0] (mk I L t) = if xs0 = 0 then Res d 89 37 [vr 11 i0, vi x1, vi x2, vx, vx] [] (mk I L t) else Res d 89 8 [vr 11 i0, vi x1, vi x2, vx, vx] [] (mk I L t) :=
  e_ifeq D89_5 rfl rfl
theorem b89_8 {d : Nat} {i0 : Nat} {x1 x2 : Int} {I L : Nat → Nat → Nat → Int} {t : Nat → Nat} : Res (d + 1) 89 8 [vr 11 i0, vi x1, vi x2, vx, vx] [] (mk I L t) = (Cal d 105 [vr 11 i0, vi x2] (mk I L t)).bind fun v => Res (d + 1) 89 13 [vr 11 i0, vi x1, vi x2, vx, vx] (psh 105 v.1 []) v.2 :=
  Eq.trans (e_aload_n D89_8 rfl rfl) <| Eq.trans (e_iload_n D89_9 rfl rfl) <| e_callV D89_10 rfl o_89 m_11_107 (by decide) rfl rfl
theorem b89_13 {d : Nat} {i0 : Nat} {x1 x2 xs0 : Int} {I L : Nat → Nat → Nat → Int} {t : Nat → Nat} : Res d 89 13 [vr 11 i0, vi x1, vi x2, vx, vx] [vi xs0] (mk I L t) = if xs0 = 0 then Res d 89 37 [vr 11 i0, vi x1, vi x2, vx, vx] [] (mk I L t) else Res d 89 16 [vr 11 i0, vi x1, vi x2, vx, vx] [] (mk I L t) :=
  e_ifeq D89_13 rfl rfl
theorem b89_16 {d : Nat} {i0 : Nat} {x1 x2 : Int} {I L : Nat → Nat → Nat → Int} {t : Nat → Nat} (g1 : 0 ≤ x2 ∧ x2 < 6) : Res (d + 1) 89 16 [vr 11 i0, vi x1, vi x2, vx, vx] [] (mk I L t) = (Cal d 27 [vr 4 x2.toNat] (mk I L t)).bind fun v => Res (d + 1) 89 25 [vr 11 i0, vi x1, vi x2, vx, vx] (psh 27 v.1 []) v.2 :=
  Eq.trans (e_aload_n D89_16 rfl rfl) <| Eq.trans (e_getP (p := (42, i0)) D89_17 rfl o_89 f_11_22 (sh_11 _) (by decide) (pp_11_2 _ _)) <| Eq.trans (e_iload_n D89_20 rfl rfl) <| Eq.trans (e_aald (p := (4, x2.toNat)) D89_21 rfl (ae_42 _) (aq_42 _) (pa_42 _ _ _) g1) <| e_callV D89_22 rfl o_89 m_11_258 (by decide) rfl rfl
theorem b89_25 {d : Nat} {i0 : Nat} {x1 x2 xs0 : Int} {I L : Nat → Nat → Nat → Int} {t : Nat → Nat} : Res d 89 25 [vr 11 i0, vi x1, vi x2, vx, vx] [vi xs0] (mk I L t) = if xs0 = 0 then Res d 89 37 [vr 11 i0, vi x1, vi x2, vx, vx] [] (mk I L t) else Res d 89 28 [vr 11 i0, vi x1, vi x2, vx, vx] [] (mk I L t) :=
  e_ifeq D89_25 rfl rfl
theorem b89_28 {d : Nat} {i0 : Nat} {x1 x2 : Int} {I L : Nat → Nat → Nat → Int} {t : Nat → Nat} : Res d 89 28 [vr 11 i0, vi x1, vi x2, vx, vx] [] (mk I L t) = if I 11 i0 10 < 120 then Res d 89 39 [vr 11 i0, vi x1, vi x2, vx, vx] [] (mk I L t) else Res d 89 37 [vr 11 i0, vi x1, vi x2, vx, vx] [] (mk I L t) :=
  Eq.trans (e_aload_n D89_28 rfl rfl) <| Eq.trans (e_getI D89_29 rfl o_89 f_11_80 (sh_11 _) (by decide)) <| Eq.trans (e_bipush (x := 120) D89_32 rfl rfl) <| e_iclt D89_34 rfl rfl
theorem b89_37 {d : Nat} {i0 : Nat} {x1 x2 : Int} {I L : Nat → Nat → Nat → Int} {t : Nat → Nat} : Res d 89 37 [vr 11 i0, vi x1, vi x2, vx, vx] [] (mk I L t) = some (vi (-1), (mk I L t)) :=
  Eq.trans (e_iconst (x := -1) D89_37 rfl rfl) <| e_iret D89_38 rfl
theorem b89_39 {d : Nat} {i0 : Nat} {x1 x2 : Int} {I L : Nat → Nat → Nat → Int} {t : Nat → Nat} (g1 : 0 ≤ x1 ∧ x1 < 20) (g2 : 0 ≤ x2 ∧ x2 < 6) : Res (d + 1) 89 39 [vr 11 i0, vi x1, vi x2, vx, vx] [] (mk I L t) = (Cal d 122 [vr 11 i0, vr 3 x1.toNat, vr 4 x2.toNat] (mk I L t)).bind fun v => Res (d + 1) 89 57 [vr 11 i0, vi x1, vi x2, vr 3 x1.toNat, vx] (psh 122 v.1 []) v.2 :=
  Eq.trans (e_aload_n D89_39 rfl rfl) <| Eq.trans (e_getP (p := (43, i0)) D89_40 rfl o_89 f_11_35 (sh_11 _) (by decide) (pp_11_4 _ _)) <| Eq.trans (e_iload_n D89_43 rfl rfl) <| Eq.trans (e_aald (p := (3, x1.toNat)) D89_44 rfl (ae_43 _) (aq_43 _) (pa_43 _ _ _) g1) <| Eq.trans (e_astore_n (ls1 := [vr 11 i0, vi x1, vi x2, vr 3 x1.toNat, vx]) D89_45 rfl (show 3 < 5 by decide) rfl) <| Eq.trans (e_aload_n D89_46 rfl rfl) <| Eq.trans (e_aload_n D89_47 rfl rfl) <| Eq.trans (e_aload_n D89_48 rfl rfl) <| Eq.trans (e_getP (p := (42, i0)) D89_49 rfl o_89 f_11_22 (sh_11 _) (by decide) (pp_11_2 _ _)) <| Eq.trans (e_iload_n D89_52 rfl rfl) <| Eq.trans (e_aald (p := (4, x2.toNat)) D89_53 rfl (ae_42 _) (aq_42 _) (pa_42 _ _ _) g2) <| e_callV D89_54 rfl o_89 m_11_262 (by decide) rfl rfl
theorem b89_57 {d : Nat} {i0 i3 : Nat} {x1 x2 : Int} {I L : Nat → Nat → Nat → Int} {t : Nat → Nat} (g1 : 0 ≤ I 11 i0 10 ∧ I 11 i0 10 < 120) (g2 : 0 ≤ I 3 i3 4 ∧ I 3 i3 4 < 120) : Res (d + 1) 89 57 [vr 11 i0, vi x1, vi x2, vr 3 i3, vx] [] (mk I L t) = (Cal d 114 [vr 11 i0, vr 3 i3, vi 3] (mk (cpI (up3 (up3 I 1 ((I 11 i0 10).toNat) 1 (I 1 ((I 3 i3 4).toNat) 1)) 1 ((I 11 i0 10).toNat) 2 x1) 16 0 0 22 (((I 11 i0 10).toNat)) 0 16) L t)).bind fun v => Res (d + 1) 89 122 [vr 11 i0, vi x1, vi x2, vr 3 i3, vr 1 ((I 11 i0 10).toNat)] (psh 114 v.1 [vr 22 (((I 11 i0 10).toNat)), vr 3 i3]) v.2 :=
  Eq.trans (e_aload_n D89_57 rfl rfl) <| Eq.trans (e_getP (p := (40, i0)) D89_58 rfl o_89 f_11_11 (sh_11 _) (by decide) (pp_11_0 _ _)) <| Eq.trans (e_aload_n D89_61 rfl rfl) <| Eq.trans (e_getI D89_62 rfl o_89 f_11_80 (sh_11 _) (by decide)) <| Eq.trans (e_aald (p := (1, (I 11 i0 10).toNat)) D89_65 rfl (ae_40 _) (aq_40 _) (pa_40 _ _ _) g1) <| Eq.trans (e_astore (ls1 := [vr 11 i0, vi x1, vi x2, vr 3 i3, vr 1 ((I 11 i0 10).toNat)]) D89_66 rfl (show 4 < 5 by decide) rfl) <| Eq.trans (e_aload D89_68 rfl rfl) <| Eq.trans (e_aload_n D89_70 rfl rfl) <| Eq.trans (e_getP (p := (40, i0)) D89_71 rfl o_89 f_11_11 (sh_11 _) (by decide) (pp_11_0 _ _)) <| Eq.trans (e_aload_n D89_74 rfl rfl) <| Eq.trans (e_getI D89_75 rfl o_89 f_11_266 (sh_3 _) (by decide)) <| Eq.trans (e_aald (p := (1, (I 3 i3 4).toNat)) D89_78 rfl (ae_40 _) (aq_40 _) (pa_40 _ _ _) g2) <| Eq.trans (e_getI D89_79 rfl o_89 f_11_84 (sh_1 _) (by decide)) <| Eq.trans (e_putI D89_82 rfl o_89 f_11_84 (sh_1 _) rfl (by decide) (Or.inl (by decide))) <| Eq.trans (e_aload D89_85 rfl rfl) <| Eq.trans (e_iload_n D89_87 rfl rfl) <| Eq.trans (e_putI D89_88 rfl o_89 f_11_87 (sh_1 _) rfl (by decide) (Or.inl (by decide))) <| Eq.trans (e_aload_n D89_91 rfl rfl) <| Eq.trans (e_getP (p := (0, 0)) D89_92 rfl o_89 f_11_61 (sh_11 _) (by decide) (pp_11_9 _ _)) <| Eq.trans (e_getP (p := (16, 0)) D89_95 rfl o_89 f_11_269 (sh_0 _) (by decide) (pp_0_3 _ _)) <| Eq.trans (e_iconst (x := 0) D89_98 rfl rfl) <| Eq.trans (e_aload D89_99 rfl rfl) <| Eq.trans (e_getP (p := (22, ((I 11 i0 10).toNat))) D89_101 rfl o_89 f_11_98 (sh_1 _) (by decide) (pp_1_0 _ _)) <| Eq.trans (e_iconst (x := 0) D89_104 rfl rfl) <| Eq.trans (e_bipush (x := 16) D89_105 rfl rfl) <| Eq.trans (e_acpy (by omega) D89_107 rfl o_89 m_11_101 rfl rfl (al_16 _) (al_22 _) (by decide)) <| Eq.trans (e_aload_n D89_110 rfl rfl) <| Eq.trans (e_aload D89_111 rfl rfl) <| Eq.trans (e_getP (p := (22, ((I 11 i0 10).toNat))) D89_113 rfl o_89 f_11_98 (sh_1 _) (by decide) (pp_1_0 _ _)) <| Eq.trans (e_aload_n D89_116 rfl rfl) <| Eq.trans (e_aload_n D89_117 rfl rfl) <| Eq.trans (e_iconst (x := 3) D89_118 rfl rfl) <| e_callV D89_119 rfl o_89 m_11_272 (by decide) rfl rfl
theorem b89_122 {d : Nat} {i0 i3 i4 is1 is0 : Nat} {x1 x2 xs2 : Int} {I L : Nat → Nat → Nat → Int} {t : Nat → Nat} : Res (d + 1) 89 122 [vr 11 i0, vi x1, vi x2, vr 3 i3, vr 1 i4] [vi xs2, vr 22 is1, vr 3 is0] (mk I L t) = (Cal d 23 [vr 3 is0, vr 22 is1, vi xs2] (mk I L t)).bind fun v => Res (d + 1) 89 125 [vr 11 i0, vi x1, vi x2, vr 3 i3, vr 1 i4] (psh 23 v.1 []) v.2 :=
  e_callV D89_122 rfl o_89 m_11_276 (by decide) rfl rfl
theorem b89_125 {d : Nat} {i0 i3 i4 : Nat} {x1 x2 : Int} {I L : Nat → Nat → Nat → Int} {t : Nat → Nat} : Res (d + 1) 89 125 [vr 11 i0, vi x1, vi x2, vr 3 i3, vr 1 i4] [] (mk I L t) = (Cal d 139 [vr 11 i0, vi (w32 ((-1) - (I 11 i0 10)))] (mk I L t)).bind fun v => Res (d + 1) 89 135 [vr 11 i0, vi x1, vi x2, vr 3 i3, vr 1 i4] (psh 139 v.1 []) v.2 :=
  Eq.trans (e_aload_n D89_125 rfl rfl) <| Eq.trans (e_iconst (x := -1) D89_126 rfl rfl) <| Eq.trans (e_aload_n D89_127 rfl rfl) <| Eq.trans (e_getI D89_128 rfl o_89 f_11_80 (sh_11 _) (by decide)) <| Eq.trans (e_isub D89_131 rfl) <| e_callV D89_132 rfl o_89 m_11_241 (by decide) rfl rfl
theorem b89_135 {d : Nat} {i0 i3 i4 : Nat} {x1 x2 : Int} {I L : Nat → Nat → Nat → Int} {t : Nat → Nat} : Res d 89 135 [vr 11 i0, vi x1, vi x2, vr 3 i3, vr 1 i4] [] (mk I L t) = some (vi (w32 (((up3 (up3 I 11 i0 10 (w32 ((I 11 i0 10) + 1))) 11 i0 11 (w32 (((up3 I 11 i0 10 (w32 ((I 11 i0 10) + 1))) 11 i0 11) + 1))) 11 i0 10) - 1)), (mk (up3 (up3 I 11 i0 10 (w32 ((I 11 i0 10) + 1))) 11 i0 11 (w32 (((up3 I 11 i0 10 (w32 ((I 11 i0 10) + 1))) 11 i0 11) + 1))) L t)) :=
  Eq.trans (e_aload_n D89_135 rfl rfl) <| Eq.trans (e_dup D89_136 rfl) <| Eq.trans (e_getI D89_137 rfl o_89 f_11_80 (sh_11 _) (by decide)) <| Eq.trans (e_iconst (x := 1) D89_140 rfl rfl) <| Eq.trans (e_iadd D89_141 rfl) <| Eq.trans (e_putI D89_142 rfl o_89 f_11_80 (sh_11 _) rfl (by decide) (Or.inl (by decide))) <| Eq.trans (e_aload_n D89_145 rfl rfl) <| Eq.trans (e_dup D89_146 rfl) <| Eq.trans (e_getI D89_147 rfl o_89 f_11_279 (sh_11 _) (by decide)) <| Eq.trans (e_iconst (x := 1) D89_150 rfl rfl) <| Eq.trans (e_iadd D89_151 rfl) <| Eq.trans (e_putI D89_152 rfl o_89 f_11_279 (sh_11 _) rfl (by decide) (Or.inl (by decide))) <| Eq.trans (e_aload_n D89_155 rfl rfl) <| Eq.trans (e_getI D89_156 rfl o_89 f_11_80 (sh_11 _) (by decide)) <| Eq.trans (e_iconst (x := 1) D89_159 rfl rfl) <| Eq.trans (e_isub D89_160 rfl) <| e_iret D89_161 rfl
/-! x_known -/
theorem cc_90 : cod 90 = cX11_known := rfl
theorem D90_0 : decode (cod 90) 0 = .ok (.aload_n 0, 1) := by rw [cc_90]; decide +kernel
theorem D90_1 : decode (cod 90) 1 = .ok (.iload_n 1, 1) := by rw [cc_90]; decide +kernel
theorem D90_2 : decode (cod 90) 2 = .ok (.invokevirtual 166, 3) := by rw [cc_90]; decide +kernel
theorem D90_5 : decode (cod 90) 5 = .ok (.ifCond .eq 11, 3) := by rw [cc_90]; decide +kernel
theorem D90_8 : decode (cod 90) 8 = .ok (.aload_n 0, 1) := by rw [cc_90]; decide +kernel
theorem D90_9 : decode (cod 90) 9 = .ok (.iload_n 2, 1) := by rw [cc_90]; decide +kernel
theorem D90_10 : decode (cod 90) 10 = .ok (.invokevirtual 94, 3) := by rw [cc_90]; decide +kernel
theorem D90_13 : decode (cod 90) 13 = .ok (.ifCond .ne 5, 3) := by rw [cc_90]; decide +kernel
theorem D90_16 : decode (cod 90) 16 = .ok (.iconst (-1), 1) := by rw [cc_90]; decide +kernel
theorem D90_17 : decode (cod 90) 17 = .ok (.ireturn, 1) := by rw [cc_90]; decide +kernel
theorem D90_18 : decode (cod 90) 18 = .ok (.aload_n 0, 1) := by rw [cc_90]; decide +kernel
theorem D90_19 : decode (cod 90) 19 = .ok (.getfield 35, 3) := by rw [cc_90]; decide +kernel
theorem D90_22 : decode (cod 90) 22 = .ok (.iload_n 1, 1) := by rw [cc_90]; decide +kernel
theorem D90_23 : decode (cod 90) 23 = .ok (.aaload, 1) := by rw [cc_90]; decide +kernel
theorem D90_24 : decode (cod 90) 24 = .ok (.getfield 266, 3) := by rw [cc_90]; decide +kernel
theorem D90_27 : decode (cod 90) 27 = .ok (.istore 4, 2) := by rw [cc_90]; decide +kernel
theorem D90_29 : decode (cod 90) 29 = .ok (.aload_n 0, 1) := by rw [cc_90]; decide +kernel
theorem D90_30 : decode (cod 90) 30 = .ok (.getfield 11, 3) := by rw [cc_90]; decide +kernel
theorem D90_33 : decode (cod 90) 33 = .ok (.iload_n 2, 1) := by rw [cc_90]; decide +kernel
theorem D90_34 : decode (cod 90) 34 = .ok (.aaload, 1) := by rw [cc_90]; decide +kernel
theorem D90_35 : decode (cod 90) 35 = .ok (.aload_n 0, 1) := by rw [cc_90]; decide +kernel
theorem D90_36 : decode (cod 90) 36 = .ok (.getfield 11, 3) := by rw [cc_90]; decide +kernel
theorem D90_39 : decode (cod 90) 39 = .ok (.iload 4, 2) := by rw [cc_90]; decide +kernel
theorem D90_41 : decode (cod 90) 41 = .ok (.aaload, 1) := by rw [cc_90]; decide +kernel
theorem D90_42 : decode (cod 90) 42 = .ok (.getfield 98, 3) := by rw [cc_90]; decide +kernel
theorem D90_45 : decode (cod 90) 45 = .ok (.invokevirtual 282, 3) := by rw [cc_90]; decide +kernel
theorem D90_48 : decode (cod 90) 48 = .ok (.istore 5, 2) := by rw [cc_90]; decide +kernel
theorem D90_50 : decode (cod 90) 50 = .ok (.iload_n 3, 1) := by rw [cc_90]; decide +kernel
theorem D90_51 : decode (cod 90) 51 = .ok (.ifCond .ne 6, 3) := by rw [cc_90]; decide +kernel
theorem D90_54 : decode (cod 90) 54 = .ok (.iload 5, 2) := by rw [cc_90]; decide +kernel
theorem D90_56 : decode (cod 90) 56 = .ok (.ireturn, 1) := by rw [cc_90]; decide +kernel
theorem D90_57 : decode (cod 90) 57 = .ok (.iload_n 3, 1) := by rw [cc_90]; decide +kernel
theorem D90_58 : decode (cod 90) 58 = .ok (.iconst 1, 1) := by rw [cc_90]; decide +kernel
theorem D90_59 : decode (cod 90) 59 = .ok (.if_icmp .ne 14, 3) := by rw [cc_90]; decide +kernel
theorem D90_62 : decode (cod 90) 62 = .ok (.aload_n 0, 1) := by rw [cc_90]; decide +kernel
theorem D90_63 : decode (cod 90) 63 = .ok (.iload 4, 2) := by rw [cc_90]; decide +kernel
theorem D90_65 : decode (cod 90) 65 = .ok (.iload 5, 2) := by rw [cc_90]; decide +kernel
theorem D90_67 : decode (cod 90) 67 = .ok (.invokevirtual 286, 3) := by rw [cc_90]; decide +kernel
theorem D90_70 : decode (cod 90) 70 = .ok (.goto 4, 3) := by rw [cc_90]; decide +kernel
theorem D90_73 : decode (cod 90) 73 = .ok (.iconst (-1), 1) := by rw [cc_90]; decide +kernel
theorem D90_74 : decode (cod 90) 74 = .ok (.ireturn, 1) := by rw [cc_90]; decide +kernel
theorem b90_0 {d : Nat} {i0 : Nat} {x1 x2 x3 : Int} {I L : Nat → Nat → Nat → Int} {t : Nat → Nat} : Res (d + 1) 90 0 [vr 11 i0, vi x1, vi x2, vi x3, vx, vx] [] (mk I L t) = (Cal d 106 [vr 11 i0, vi x1] (mk I L t)).bind fun v => Res (d + 1) 90 5 [vr 11 i0, vi x1, vi x2, vi x3, vx, vx] (psh 106 v.1 []) v.2 :=
  Eq.trans (e_aload_n D90_0 rfl rfl) <| Eq.trans (e_iload_n D90_1 rfl rfl) <| e_callV D90_2 rfl o_90 m_11_166 (by decide) rfl rfl
theorem b90_5 {d : Nat} {i0 : Nat} {x1 x2 x3 xs0 : Int} {I L : Nat → Nat → Nat → Int} {t : Nat → Nat} : Res d 90 5 [vr 11 i0, vi x1, vi x2, vi x3, vx, vx] [vi xs0] (mk I L t) = if xs0 = 0 then Res d 90 16 [vr 11 i0, vi x1, vi x2, vi x3, vx, vx] [] (mk I L t) else Res d 90 8 [vr 11 i0, vi x1, vi x2, vi x3, vx, vx] [] (mk I L t) :=
  e_ifeq D90_5 rfl rfl
theorem b90_8 {d : Nat} {i0 : Nat} {x1 x2 x3 : Int} {I L : Nat → Nat → Nat → Int} {t : Nat → Nat} : Res (d + 1) 90 8 [vr 11 i0, vi x1, vi x2, vi x3, vx, vx] [] (mk I L t) = (Cal d 104 [vr 11 i0, vi x2] (mk I L t)).bind fun v => Res (d + 1) 90 13 [vr 11 i0, vi x1, vi x2, vi x3, vx, vx] (psh 104 v.1 []) v.2 :=
  Eq.trans (e_aload_n D90_8 rfl rfl) <| Eq.trans (e_iload_n D90_9 rfl rfl) <| e_callV D90_10 rfl o_90 m_11_94 (by decide) rfl rfl
theorem b90_13 {d : Nat} {i0 : Nat} {x1 x2 x3 xs0 : Int} {I L : Nat → Nat → Nat → Int} {t : Nat → Nat} : Res d 90 13 [vr 11 i0, vi x1, vi x2, vi x3, vx, vx] [vi xs0] (mk I L t) = if ¬ xs0 = 0 then Res d 90 18 [vr 11 i0, vi x1, vi x2, vi x3, vx, vx] [] (mk I L t) else Res d 90 16 [vr 11 i0, vi x1, vi x2, vi x3, vx, vx] [] (mk I L t) :=
  e_ifne D90_13 rfl rfl
theorem b90_16 {d : Nat} {i0 : Nat} {x1 x2 x3 : Int} {I L : Nat → Nat → Nat → Int} {t : Nat → Nat} : Res d 90 16 [vr 11 i0, vi x1, vi x2, vi x3, vx, vx] [] (mk I L t) = some (vi (-1), (mk I L t)) :=
  Eq.trans (e_iconst (x := -1) D90_16 rfl rfl) <| e_iret D90_17 rfl
theorem b90_18 {d : Nat} {i0 : Nat} {x1 x2 x3 : Int} {I L : Nat → Nat → Nat → Int} {t : Nat → Nat} (g1 : 0 ≤ x1 ∧ x1 < 20) (g2 : 0 ≤ x2 ∧ x2 < 120) (g3 : 0 ≤ I 3 x1.toNat 4 ∧ I 3 x1.toNat 4 < 120) : Res (d + 1) 90 18 [vr 11 i0, vi x1, vi x2, vi x3, vx, vx] [] (mk I L t) = (Cal d 11 [vr 1 x2.toNat, vr 22 (((I 3 x1.toNat 4).toNat))] (mk I L t)).bind fun v => Res (d + 1) 90 48 [vr 11 i0, vi x1, vi x2, vi x3, vi (I 3 x1.toNat 4), vx] (psh 11 v.1 []) v.2 :=
  Eq.trans (e_aload_n D90_18 rfl rfl) <| Eq.trans (e_getP (p := (43, i0)) D90_19 rfl o_90 f_11_35 (sh_11 _) (by decide) (pp_11_4 _ _)) <| Eq.trans (e_iload_n D90_22 rfl rfl) <| Eq.trans (e_aald (p := (3, x1.toNat)) D90_23 rfl (ae_43 _) (aq_43 _) (pa_43 _ _ _) g1) <| Eq.trans (e_getI D90_24 rfl o_90 f_11_266 (sh_3 _) (by decide)) <| Eq.trans (e_istore (ls1 := [vr 11 i0, vi x1, vi x2, vi x3, vi (I 3 x1.toNat 4), vx]) D90_27 rfl (show 4 < 6 by decide) rfl) <| Eq.trans (e_aload_n D90_29 rfl rfl) <| Eq.trans (e_getP (p := (40, i0)) D90_30 rfl o_90 f_11_11 (sh_11 _) (by decide) (pp_11_0 _ _)) <| Eq.trans (e_iload_n D90_33 rfl rfl) <| Eq.trans (e_aald (p := (1, x2.toNat)) D90_34 rfl (ae_40 _) (aq_40 _) (pa_40 _ _ _) g2) <| Eq.trans (e_aload_n D90_35 rfl rfl) <| Eq.trans (e_getP (p := (40, i0)) D90_36 rfl o_90 f_11_11 (sh_11 _) (by decide) (pp_11_0 _ _)) <| Eq.trans (e_iload D90_39 rfl rfl) <| Eq.trans (e_aald (p := (1, (I 3 x1.toNat 4).toNat)) D90_41 rfl (ae_40 _) (aq_40 _) (pa_40 _ _ _) g3) <| Eq.trans (e_getP (p := (22, ((I 3 x1.toNat 4).toNat))) D90_42 rfl o_90 f_11_98 (sh_1 _) (by decide) (pp_1_0 _ _)) <| e_callV D90_45 rfl o_90 m_11_282 (by decide) rfl rfl
theorem b90_48 {d : Nat} {i0 : Nat} {x1 x2 x3 x4 xs0 : Int} {I L : Nat → Nat → Nat → Int} {t : Nat → Nat} : Res d 90 48 [vr 11 i0, vi x1, vi x2, vi x3, vi x4, vx] [vi xs0] (mk I L t) = if ¬ x3 = 0 then Res d 90 57 [vr 11 i0, vi x1, vi x2, vi x3, vi x4, vi xs0] [] (mk I L t) else Res d 90 54 [vr 11 i0, vi x1, vi x2, vi x3, vi x4, vi xs0] [] (mk I L t) :=
  Eq.trans (e_istore (ls1 := [vr 11 i0, vi x1, vi x2, vi x3, vi x4, vi xs0]) D90_48 rfl (show 5 < 6 by decide) rfl) <| Eq.trans (e_iload_n D90_50 rfl rfl) <| e_ifne D90_51 rfl rfl
theorem b90_54 {d : Nat} {i0 : Nat} {x1 x2 x3 x4 x5 : Int} {I L : Nat → Nat → Nat → Int} {t : Nat → Nat} : Res d 90 54 [vr 11 i0, vi x1, vi x2, vi x3, vi x4, vi x5] [] (mk I L t) = some (vi x5, (mk I L t)) :=
  Eq.trans (e_iload D90_54 rfl rfl) <| e_iret D90_56 rfl
theorem b90_57 {d : Nat} {i0 : Nat} {x1 x2 x3 x4 x5 : Int} {I L : Nat → Nat → Nat → Int} {t : Nat → Nat} : Res d 90 57 [vr 11 i0, vi x1, vi x2, vi x3, vi x4, vi x5] [] (mk I L t) = if ¬ x3 = 1 then Res d 90 73 [vr 11 i0, vi x1, vi x2, vi x3, vi x4, vi x5] [] (mk I L t) else Res d 90 62 [vr 11 i0, vi x1, vi x2, vi x3, vi x4, vi x5] [] (mk I L t) :=
  Eq.trans (e_iload_n D90_57 rfl rfl) <| Eq.trans (e_iconst (x := 1) D90_58 rfl rfl) <| e_icne D90_59 rfl rfl
theorem b90_62 {d : Nat} {i0 : Nat} {x1 x2 x3 x4 x5 : Int} {I L : Nat → Nat → Nat → Int} {t : Nat → Nat} : Res (d + 1) 90 62 [vr 11 i0, vi x1, vi x2, vi x3, vi x4, vi x5] [] (mk I L t) = (Cal d 126 [vr 11 i0, vi x4, vi x5] (mk I L t)).bind fun v => Res (d + 1) 90 70 [vr 11 i0, vi x1, vi x2, vi x3, vi x4, vi x5] (psh 126 v.1 []) v.2 :=
  Eq.trans (e_aload_n D90_62 rfl rfl) <| Eq.trans (e_iload D90_63 rfl rfl) <| Eq.trans (e_iload D90_65 rfl rfl) <| e_callV D90_67 rfl o_90 m_11_286 (by decide) rfl rfl
theorem b90_70 {d : Nat} {i0 : Nat} {x1 x2 x3 x4 x5 xs0 : Int} {I L : Nat → Nat → Nat → Int} {t : Nat → Nat} : Res d 90 70 [vr 11 i0, vi x1, vi x2, vi x3, vi x4, vi x5] [vi xs0] (mk I L t) = Res d 90 74 [vr 11 i0, vi x1, vi x2, vi x3, vi x4, vi x5] [vi xs0] (mk I L t) :=
  e_goto (q1 := 74) D90_70 rfl
theorem b90_73 {d : Nat} {i0 : Nat} {x1 x2 x3 x4 x5 : Int} {I L : Nat → Nat → Nat → Int} {t : Nat → Nat} : Res d 90 73 [vr 11 i0, vi x1, vi x2, vi x3, vi x4, vi x5] [] (mk I L t) = Res d 90 74 [vr 11 i0, vi x1, vi x2, vi x3, vi x4, vi x5] [vi (-1)] (mk I L t) :=
  e_iconst (x := -1) D90_73 rfl rfl
theorem b90_74 {d : Nat} {i0 : Nat} {x1 x2 x3 x4 x5 xs0 : Int} {I L : Nat → Nat → Nat → Int} {t : Nat → Nat} : Res d 90 74 [vr 11 i0, vi x1, vi x2, vi x3, vi x4, vi x5] [vi xs0] (mk I L t) = some (vi xs0, (mk I L t)) :=
  e_iret D90_74 rfl
/-! x_bred -/
theorem cc_91 : cod 91 = cX11_bred := rfl
theorem D91_0 : decode (cod 91) 0 = .ok (.aload_n 0, 1) := by rw [cc_91]; decide +kernel
theorem D91_1 : decode (cod 91) 1 = .ok (.iload_n 1, 1) := by rw [cc_91]; decide +kernel
theorem D91_2 : decode (cod 91) 2 = .ok (.invokevirtual 166, 3) := by rw [cc_91]; decide +kernel
theorem D91_5 : decode (cod 91) 5 = .ok (.ifCond .eq 22, 3) := by rw [cc_91]; decide +kernel
theorem D91_8 : decode (cod 91) 8 = .ok (.aload_n 0, 1) := by rw [cc_91]; decide +kernel
theorem D91_9 : decode (cod 91) 9 = .ok (.iload_n 2, 1) := by rw [cc_91]; decide +kernel
theorem D91_10 : decode (cod 91) 10 = .ok (.invokevirtual 107, 3) := by rw [cc_91]; decide +kernel
theorem D91_13 : decode (cod 91) 13 = .ok (.ifCond .eq 14, 3) := by rw [cc_91]; decide +kernel
theorem D91_16 : decode (cod 91) 16 = .ok (.iload_n 3, 1) := by rw [cc_91]; decide +kernel
theorem D91_17 : decode (cod 91) 17 = .ok (.iconst 0, 1) := by rw [cc_91]; decide +kernel
theorem D91_18 : decode (cod 91) 18 = .ok (.sipush 999, 3) := by rw [cc_91]; decide +kernel
theorem D91_21 : decode (cod 91) 21 = .ok (.invokestatic 76, 3) := by rw [cc_91]; decide +kernel
theorem D91_24 : decode (cod 91) 24 = .ok (.ifCond .ne 5, 3) := by rw [cc_91]; decide +kernel
theorem D91_27 : decode (cod 91) 27 = .ok (.iconst (-1), 1) := by rw [cc_91]; decide +kernel
theorem D91_28 : decode (cod 91) 28 = .ok (.ireturn, 1) := by rw [cc_91]; decide +kernel
theorem D91_29 : decode (cod 91) 29 = .ok (.aload_n 0, 1) := by rw [cc_91]; decide +kernel
theorem D91_30 : decode (cod 91) 30 = .ok (.getfield 35, 3) := by rw [cc_91]; decide +kernel
theorem D91_33 : decode (cod 91) 33 = .ok (.iload_n 1, 1) := by rw [cc_91]; decide +kernel
theorem D91_34 : decode (cod 91) 34 = .ok (.aaload, 1) := by rw [cc_91]; decide +kernel
theorem D91_35 : decode (cod 91) 35 = .ok (.astore 4, 2) := by rw [cc_91]; decide +kernel
theorem D91_37 : decode (cod 91) 37 = .ok (.aload_n 0, 1) := by rw [cc_91]; decide +kernel
theorem D91_38 : decode (cod 91) 38 = .ok (.aload_n 0, 1) := by rw [cc_91]; decide +kernel
theorem D91_39 : decode (cod 91) 39 = .ok (.getfield 22, 3) := by rw [cc_91]; decide +kernel
theorem D91_42 : decode (cod 91) 42 = .ok (.iload_n 2, 1) := by rw [cc_91]; decide +kernel
theorem D91_43 : decode (cod 91) 43 = .ok (.aaload, 1) := by rw [cc_91]; decide +kernel
theorem D91_44 : decode (cod 91) 44 = .ok (.invokevirtual 289, 3) := by rw [cc_91]; decide +kernel
theorem D91_47 : decode (cod 91) 47 = .ok (.istore 5, 2) := by rw [cc_91]; decide +kernel
theorem D91_49 : decode (cod 91) 49 = .ok (.iload 5, 2) := by rw [cc_91]; decide +kernel
theorem D91_51 : decode (cod 91) 51 = .ok (.ifCond .ne 5, 3) := by rw [cc_91]; decide +kernel
theorem D91_54 : decode (cod 91) 54 = .ok (.iconst (-1), 1) := by rw [cc_91]; decide +kernel
theorem D91_55 : decode (cod 91) 55 = .ok (.ireturn, 1) := by rw [cc_91]; decide +kernel
theorem D91_56 : decode (cod 91) 56 = .ok (.aload_n 0, 1) := by rw [cc_91]; decide +kernel
theorem D91_57 : decode (cod 91) 57 = .ok (.getfield 11, 3) := by rw [cc_91]; decide +kernel
theorem D91_60 : decode (cod 91) 60 = .ok (.aload 4, 2) := by rw [cc_91]; decide +kernel
theorem D91_62 : decode (cod 91) 62 = .ok (.getfield 266, 3) := by rw [cc_91]; decide +kernel
theorem D91_65 : decode (cod 91) 65 = .ok (.aaload, 1) := by rw [cc_91]; decide +kernel
theorem D91_66 : decode (cod 91) 66 = .ok (.getfield 98, 3) := by rw [cc_91]; decide +kernel
theorem D91_69 : decode (cod 91) 69 = .ok (.astore 6, 2) := by rw [cc_91]; decide +kernel
theorem D91_71 : decode (cod 91) 71 = .ok (.iconst 1, 1) := by rw [cc_91]; decide +kernel
theorem D91_72 : decode (cod 91) 72 = .ok (.istore 7, 2) := by rw [cc_91]; decide +kernel
theorem D91_74 : decode (cod 91) 74 = .ok (.iload 7, 2) := by rw [cc_91]; decide +kernel
theorem D91_76 : decode (cod 91) 76 = .ok (.bipush 30, 2) := by rw [cc_91]; decide +kernel
theorem D91_78 : decode (cod 91) 78 = .ok (.if_icmp .gt 71, 3) := by rw [cc_91]; decide +kernel
theorem D91_81 : decode (cod 91) 81 = .ok (.aload_n 0, 1) := by rw [cc_91]; decide +kernel
theorem D91_82 : decode (cod 91) 82 = .ok (.aload 4, 2) := by rw [cc_91]; decide +kernel
theorem D91_84 : decode (cod 91) 84 = .ok (.iload 5, 2) := by rw [cc_91]; decide +kernel
theorem D91_86 : decode (cod 91) 86 = .ok (.iconst (-1), 1) := by rw [cc_91]; decide +kernel
theorem D91_87 : decode (cod 91) 87 = .ok (.invokevirtual 293, 3) := by rw [cc_91]; decide +kernel
theorem D91_90 : decode (cod 91) 90 = .ok (.istore 8, 2) := by rw [cc_91]; decide +kernel
theorem D91_92 : decode (cod 91) 92 = .ok (.aload_n 0, 1) := by rw [cc_91]; decide +kernel
theorem D91_93 : decode (cod 91) 93 = .ok (.aload 4, 2) := by rw [cc_91]; decide +kernel
theorem D91_95 : decode (cod 91) 95 = .ok (.iload 5, 2) := by rw [cc_91]; decide +kernel
theorem D91_97 : decode (cod 91) 97 = .ok (.iload 8, 2) := by rw [cc_91]; decide +kernel
theorem D91_99 : decode (cod 91) 99 = .ok (.invokevirtual 293, 3) := by rw [cc_91]; decide +kernel
theorem D91_102 : decode (cod 91) 102 = .ok (.istore 9, 2) := by rw [cc_91]; decide +kernel
theorem D91_104 : decode (cod 91) 104 = .ok (.aload_n 0, 1) := by rw [cc_91]; decide +kernel
theorem D91_105 : decode (cod 91) 105 = .ok (.getfield 61, 3) := by rw [cc_91]; decide +kernel
theorem D91_108 : decode (cod 91) 108 = .ok (.getfield 297, 3) := by rw [cc_91]; decide +kernel
theorem D91_111 : decode (cod 91) 111 = .ok (.iload 8, 2) := by rw [cc_91]; decide +kernel
theorem D91_113 : decode (cod 91) 113 = .ok (.aaload, 1) := by rw [cc_91]; decide +kernel
theorem D91_114 : decode (cod 91) 114 = .ok (.aload 6, 2) := by rw [cc_91]; decide +kernel
theorem D91_116 : decode (cod 91) 116 = .ok (.invokevirtual 282, 3) := by rw [cc_91]; decide +kernel
theorem D91_119 : decode (cod 91) 119 = .ok (.iload_n 3, 1) := by rw [cc_91]; decide +kernel
theorem D91_120 : decode (cod 91) 120 = .ok (.if_icmp .gt 6, 3) := by rw [cc_91]; decide +kernel
theorem D91_123 : decode (cod 91) 123 = .ok (.iload 7, 2) := by rw [cc_91]; decide +kernel
theorem D91_125 : decode (cod 91) 125 = .ok (.ireturn, 1) := by rw [cc_91]; decide +kernel
theorem D91_126 : decode (cod 91) 126 = .ok (.aload_n 0, 1) := by rw [cc_91]; decide +kernel
theorem D91_127 : decode (cod 91) 127 = .ok (.getfield 61, 3) := by rw [cc_91]; decide +kernel
theorem D91_130 : decode (cod 91) 130 = .ok (.iload 8, 2) := by rw [cc_91]; decide +kernel
theorem D91_132 : decode (cod 91) 132 = .ok (.iload 9, 2) := by rw [cc_91]; decide +kernel
theorem D91_134 : decode (cod 91) 134 = .ok (.iload 7, 2) := by rw [cc_91]; decide +kernel
theorem D91_136 : decode (cod 91) 136 = .ok (.invokevirtual 300, 3) := by rw [cc_91]; decide +kernel
theorem D91_139 : decode (cod 91) 139 = .ok (.bipush 9, 2) := by rw [cc_91]; decide +kernel
theorem D91_141 : decode (cod 91) 141 = .ok (.istore 5, 2) := by rw [cc_91]; decide +kernel
theorem D91_143 : decode (cod 91) 143 = .ok (.iinc 7 1, 3) := by rw [cc_91]; decide +kernel
theorem D91_146 : decode (cod 91) 146 = .ok (.goto (-72), 3) := by rw [cc_91]; decide +kernel
theorem D91_149 : decode (cod 91) 149 = .ok (.iconst (-1), 1) := by rw [cc_91]; decide +kernel
theorem D91_150 : decode (cod 91) 150 = .ok (.ireturn, 1) := by rw [cc_91]; decide +kernel
theorem b91_0 {d : Nat} {i0 : Nat} {x1 x2 x3 : Int} {I L : Nat → Nat → Nat → Int} {t : Nat → Nat} : Res (d + 1) 91 0 [vr 11 i0, vi x1, vi x2, vi x3, vx, vx, vx, vx, vx, vx] [] (mk I L t) = (Cal d 106 [vr 11 i0, vi x1] (mk I L t)).bind fun v => Res (d + 1) 91 5 [vr 11 i0, vi x1, vi x2, vi x3, vx, vx, vx, vx, vx, vx] (psh 106 v.1 []) v.2 :=
  Eq.trans (e_aload_n D91_0 rfl rfl) <| Eq.trans (e_iload_n D91_1 rfl rfl) <| e_callV D91_2 rfl o_91 m_11_166 (by decide) rfl rfl
theorem b91_5 {d : Nat} {i0 : Nat} {x1 x2 x3 xs0 : Int} {I L : Nat → Nat → Nat → Int} {t : Nat → Nat} : Res d 91 5 [vr 11 i0, vi x1, vi x2, vi x3, vx, vx, vx, vx, vx, vx] [vi xs0] (mk I L t) = if xs0 = 0 then Res d 91 27 [vr 11 i0, vi x1, vi x2, vi x3, vx, vx, vx, vx, vx, vx] [] (mk I L t) else Res d 91 8 [vr 11 i0, vi x1, vi x2, vi x3, vx, vx, vx, vx, vx, vx] [] (mk I L t) :=
  e_ifeq D91_5 rfl rfl
theorem b91_8 {d : Nat} {i0 : Nat} {x1 x2 x3 : Int} {I L : Nat → Nat → Nat → Int} {t : Nat → Nat} : Res (d + 1) 91 8 [vr 11 i0, vi x1, vi x2, vi x3, vx, vx, vx, vx, vx, vx] [] (mk I L t) = (Cal d 105 [vr 11 i0, vi x2] (mk I L t)).bind fun v => Res (d + 1) 91 13 [vr 11 i0, vi x1, vi x2, vi x3, vx, vx, vx, vx, vx, vx] (psh 105 v.1 []) v.2 :=
  Eq.trans (e_aload_n D91_8 rfl rfl) <| Eq.trans (e_iload_n D91_9 rfl rfl) <| e_callV D91_10 rfl o_91 m_11_107 (by decide) rfl rfl
theorem b91_13 {d : Nat} {i0 : Nat} {x1 x2 x3 xs0 : Int} {I L : Nat → Nat → Nat → Int} {t : Nat → Nat} : Res d 91 13 [vr 11 i0, vi x1, vi x2, vi x3, vx, vx, vx, vx, vx, vx] [vi xs0] (mk I L t) = if xs0 = 0 then Res d 91 27 [vr 11 i0, vi x1, vi x2, vi x3, vx, vx, vx, vx, vx, vx] [] (mk I L t) else Res d 91 16 [vr 11 i0, vi x1, vi x2, vi x3, vx, vx, vx, vx, vx, vx] [] (mk I L t) :=
  e_ifeq D91_13 rfl rfl
theorem b91_16 {d : Nat} {i0 : Nat} {x1 x2 x3 : Int} {I L : Nat → Nat → Nat → Int} {t : Nat → Nat} : Res (d + 1) 91 16 [vr 11 i0, vi x1, vi x2, vi x3, vx, vx, vx, vx, vx, vx] [] (mk I L t) = (Cal d 102 [vi x3, vi 0, vi 999] (mk I L t)).bind fun v => Res (d + 1) 91 24 [vr 11 i0, vi x1, vi x2, vi x3, vx, vx, vx, vx, vx, vx] (psh 102 v.1 []) v.2 :=
  Eq.trans (e_iload_n D91_16 rfl rfl) <| Eq.trans (e_iconst (x := 0) D91_17 rfl rfl) <| Eq.trans (e_sipush (x := 999) D91_18 rfl rfl) <| e_callS D91_21 rfl o_91 m_11_76 (by decide) rfl rfl
theorem b91_24 {d : Nat} {i0 : Nat} {x1 x2 x3 xs0 : Int} {I L : Nat → Nat → Nat → Int} {t : Nat → Nat} : Res d 91 24 [vr 11 i0, vi x1, vi x2, vi x3, vx, vx, vx, vx, vx, vx] [vi xs0] (mk I L t) = if ¬ xs0 = 0 then Res d 91 29 [vr 11 i0, vi x1, vi x2, vi x3, vx, vx, vx, vx, vx, vx] [] (mk I L t) else Res d 91 27 [vr 11 i0, vi x1, vi x2, vi x3, vx, vx, vx, vx, vx, vx] [] (mk I L t) :=
  e_ifne D91_24 rfl rfl
theorem b91_27 {d : Nat} {i0 : Nat} {x1 x2 x3 : Int} {I L : Nat → Nat → Nat → Int} {t : Nat → Nat} : Res d 91 27 [vr 11 i0, vi x1, vi x2, vi x3, vx, vx, vx, vx, vx, vx] [] (mk I L t) = some (vi (-1), (mk I L t)) :=
  Eq.trans (e_iconst (x := -1) D91_27 rfl rfl) <| e_iret D91_28 rfl
theorem b91_29 {d : Nat} {i0 : Nat} {x1 x2 x3 : Int} {I L : Nat → Nat → Nat → Int} {t : Nat → Nat} (g1 : 0 ≤ x1 ∧ x1 < 20) (g2 : 0 ≤ x2 ∧ x2 < 6) : Res (d + 1) 91 29 [vr 11 i0, vi x1, vi x2, vi x3, vx, vx, vx, vx, vx, vx] [] (mk I L t) = (Cal d 131 [vr 11 i0, vr 4 x2.toNat] (mk I L t)).bind fun v => Res (d + 1) 91 47 [vr 11 i0, vi x1, vi x2, vi x3, vr 3 x1.toNat, vx, vx, vx, vx, vx] (psh 131 v.1 []) v.2 :=
  Eq.trans (e_aload_n D91_29 rfl rfl) <| Eq.trans (e_getP (p := (43, i0)) D91_30 rfl o_91 f_11_35 (sh_11 _) (by decide) (pp_11_4 _ _)) <| Eq.trans (e_iload_n D91_33 rfl rfl) <| Eq.trans (e_aald (p := (3, x1.toNat)) D91_34 rfl (ae_43 _) (aq_43 _) (pa_43 _ _ _) g1) <| Eq.trans (e_astore (ls1 := [vr 11 i0, vi x1, vi x2, vi x3, vr 3 x1.toNat, vx, vx, vx, vx, vx]) D91_35 rfl (show 4 < 10 by decide) rfl) <| Eq.trans (e_aload_n D91_37 rfl rfl) <| Eq.trans (e_aload_n D91_38 rfl rfl) <| Eq.trans (e_getP (p := (42, i0)) D91_39 rfl o_91 f_11_22 (sh_11 _) (by decide) (pp_11_2 _ _)) <| Eq.trans (e_iload_n D91_42 rfl rfl) <| Eq.trans (e_aald (p := (4, x2.toNat)) D91_43 rfl (ae_42 _) (aq_42 _) (pa_42 _ _ _) g2) <| e_callV D91_44 rfl o_91 m_11_289 (by decide) rfl rfl
theorem b91_47 {d : Nat} {i0 i4 : Nat} {x1 x2 x3 xs0 : Int} {I L : Nat → Nat → Nat → Int} {t : Nat → Nat} : Res d 91 47 [vr 11 i0, vi x1, vi x2, vi x3, vr 3 i4, vx, vx, vx, vx, vx] [vi xs0] (mk I L t) = if ¬ xs0 = 0 then Res d 91 56 [vr 11 i0, vi x1, vi x2, vi x3, vr 3 i4, vi xs0, vx, vx, vx, vx] [] (mk I L t) else Res d 91 54 [vr 11 i0, vi x1, vi x2, vi x3, vr 3 i4, vi xs0, vx, vx, vx, vx] [] (mk I L t) :=
  Eq.trans (e_istore (ls1 := [vr 11 i0, vi x1, vi x2, vi x3, vr 3 i4, vi xs0, vx, vx, vx, vx]) D91_47 rfl (show 5 < 10 by decide) rfl) <| Eq.trans (e_iload D91_49 rfl rfl) <| e_ifne D91_51 rfl rfl
theorem b91_54 {d : Nat} {i0 i4 : Nat} {x1 x2 x3 x5 : Int} {I L : Nat → Nat → Nat → Int} {t : Nat → Nat} : Res d 91 54 [vr 11 i0, vi x1, vi x2, vi x3, vr 3 i4, vi x5, vx, vx, vx, vx] [] (mk I L t) = some (vi (-1), (mk I L t)) :=
  Eq.trans (e_iconst (x := -1) D91_54 rfl rfl) <| e_iret D91_55 rfl
theorem b91_56 {d : Nat} {i0 i4 : Nat} {x1 x2 x3 x5 : Int} {I L : Nat → Nat → Nat → Int} {t : Nat → Nat} (g1 : 0 ≤ I 3 i4 4 ∧ I 3 i4 4 < 120) : Res d 91 56 [vr 11 i0, vi x1, vi x2, vi x3, vr 3 i4, vi x5, vx, vx, vx, vx] [] (mk I L t) = Res d 91 74 [vr 11 i0, vi x1, vi x2, vi x3, vr 3 i4, vi x5, vr 22 (((I 3 i4 4).toNat)), vi 1, vx, vx] [] (mk I L t) :=
  Eq.trans (e_aload_n D91_56 rfl rfl) <| Eq.trans (e_getP (p := (40, i0)) D91_57 rfl o_91 f_11_11 (sh_11 _) (by decide) (pp_11_0 _ _)) <| Eq.trans (e_aload D91_60 rfl rfl) <| Eq.trans (e_getI D91_62 rfl o_91 f_11_266 (sh_3 _) (by decide)) <| Eq.trans (e_aald (p := (1, (I 3 i4 4).toNat)) D91_65 rfl (ae_40 _) (aq_40 _) (pa_40 _ _ _) g1) <| Eq.trans (e_getP (p := (22, ((I 3 i4 4).toNat))) D91_66 rfl o_91 f_11_98 (sh_1 _) (by decide) (pp_1_0 _ _)) <| Eq.trans (e_astore (ls1 := [vr 11 i0, vi x1, vi x2, vi x3, vr 3 i4, vi x5, vr 22 (((I 3 i4 4).toNat)), vx, vx, vx]) D91_69 rfl (show 6 < 10 by decide) rfl) <| Eq.trans (e_iconst (x := 1) D91_71 rfl rfl) <| e_istore (ls1 := [vr 11 i0, vi x1, vi x2, vi x3, vr 3 i4, vi x5, vr 22 (((I 3 i4 4).toNat)), vi 1, vx, vx]) D91_72 rfl (show 7 < 10 by decide) rfl
theorem b91_74 {d : Nat} {i0 i4 i6 : Nat} {x1 x2 x3 x5 x7 : Int} {u8 u9 : MV} {I L : Nat → Nat → Nat → Int} {t : Nat → Nat} : Res d 91 74 [vr 11 i0, vi x1, vi x2, vi x3, vr 3 i4, vi x5, vr 22 i6, vi x7, u8, u9] [] (mk I L t) = if 30 < x7 then Res d 91 149 [vr 11 i0, vi x1, vi x2, vi x3, vr 3 i4, vi x5, vr 22 i6, vi x7, u8, u9] [] (mk I L t) else Res d 91 81 [vr 11 i0, vi x1, vi x2, vi x3, vr 3 i4, vi x5, vr 22 i6, vi x7, u8, u9] [] (mk I L t) :=
  Eq.trans (e_iload D91_74 rfl rfl) <| Eq.trans (e_bipush (x := 30) D91_76 rfl rfl) <| e_icgt D91_78 rfl rfl
theorem b91_81 {d : Nat} {i0 i4 i6 : Nat} {x1 x2 x3 x5 x7 : Int} {u8 u9 : MV} {I L : Nat → Nat → Nat → Int} {t : Nat → Nat} : Res (d + 1) 91 81 [vr 11 i0, vi x1, vi x2, vi x3, vr 3 i4, vi x5, vr 22 i6, vi x7, u8, u9] [] (mk I L t) = (Cal d 132 [vr 11 i0, vr 3 i4, vi x5, vi (-1)] (mk I L t)).bind fun v => Res (d + 1) 91 90 [vr 11 i0, vi x1, vi x2, vi x3, vr 3 i4, vi x5, vr 22 i6, vi x7, u8, u9] (psh 132 v.1 []) v.2 :=
  Eq.trans (e_aload_n D91_81 rfl rfl) <| Eq.trans (e_aload D91_82 rfl rfl) <| Eq.trans (e_iload D91_84 rfl rfl) <| Eq.trans (e_iconst (x := -1) D91_86 rfl rfl) <| e_callV D91_87 rfl o_91 m_11_293 (by decide) rfl rfl
theorem b91_90 {d : Nat} {i0 i4 i6 : Nat} {x1 x2 x3 x5 x7 xs0 : Int} {u8 u9 : MV} {I L : Nat → Nat → Nat → Int} {t : Nat → Nat} : Res (d + 1) 91 90 [vr 11 i0, vi x1, vi x2, vi x3, vr 3 i4, vi x5, vr 22 i6, vi x7, u8, u9] [vi xs0] (mk I L t) = (Cal d 132 [vr 11 i0, vr 3 i4, vi x5, vi xs0] (mk I L t)).bind fun v => Res (d + 1) 91 102 [vr 11 i0, vi x1, vi x2, vi x3, vr 3 i4, vi x5, vr 22 i6, vi x7, vi xs0, u9] (psh 132 v.1 []) v.2 :=
  Eq.trans (e_istore (ls1 := [vr 11 i0, vi x1, vi x2, vi x3, vr 3 i4, vi x5, vr 22 i6, vi x7, vi xs0, u9]) D91_90 rfl (show 8 < 10 by decide) rfl) <| Eq.trans (e_aload_n D91_92 rfl rfl) <| Eq.trans (e_aload D91_93 rfl rfl) <| Eq.trans (e_iload D91_95 rfl rfl) <| Eq.trans (e_iload D91_97 rfl rfl) <| e_callV D91_99 rfl o_91 m_11_293 (by decide) rfl rfl
theorem b91_102 {d : Nat} {i0 i4 i6 : Nat} {x1 x2 x3 x5 x7 x8 xs0 : Int} {u9 : MV} {I L : Nat → Nat → Nat → Int} {t : Nat → Nat} (g1 : 0 ≤ x8 ∧ x8 < 9) : Res (d + 1) 91 102 [vr 11 i0, vi x1, vi x2, vi x3, vr 3 i4, vi x5, vr 22 i6, vi x7, vi x8, u9] [vi xs0] (mk I L t) = (Cal d 11 [vr 1 (120 + x8.toNat), vr 22 i6] (mk I L t)).bind fun v => Res (d + 1) 91 119 [vr 11 i0, vi x1, vi x2, vi x3, vr 3 i4, vi x5, vr 22 i6, vi x7, vi x8, vi xs0] (psh 11 v.1 []) v.2 :=
  Eq.trans (e_istore (ls1 := [vr 11 i0, vi x1, vi x2, vi x3, vr 3 i4, vi x5, vr 22 i6, vi x7, vi x8, vi xs0]) D91_102 rfl (show 9 < 10 by decide) rfl) <| Eq.trans (e_aload_n D91_104 rfl rfl) <| Eq.trans (e_getP (p := (0, 0)) D91_105 rfl o_91 f_11_61 (sh_11 _) (by decide) (pp_11_9 _ _)) <| Eq.trans (e_getP (p := (21, 0)) D91_108 rfl o_91 f_11_297 (sh_0 _) (by decide) (pp_0_9 _ _)) <| Eq.trans (e_iload D91_111 rfl rfl) <| Eq.trans (e_aald (p := (1, 120 + x8.toNat)) D91_113 rfl (ae_21 _) (aq_21 _) (pa_21 _ _ _) g1) <| Eq.trans (e_aload D91_114 rfl rfl) <| e_callV D91_116 rfl o_91 m_11_282 (by decide) rfl rfl
theorem b91_119 {d : Nat} {i0 i4 i6 : Nat} {x1 x2 x3 x5 x7 x8 x9 xs0 : Int} {I L : Nat → Nat → Nat → Int} {t : Nat → Nat} : Res d 91 119 [vr 11 i0, vi x1, vi x2, vi x3, vr 3 i4, vi x5, vr 22 i6, vi x7, vi x8, vi x9] [vi xs0] (mk I L t) = if x3 < xs0 then Res d 91 126 [vr 11 i0, vi x1, vi x2, vi x3, vr 3 i4, vi x5, vr 22 i6, vi x7, vi x8, vi x9] [] (mk I L t) else Res d 91 123 [vr 11 i0, vi x1, vi x2, vi x3, vr 3 i4, vi x5, vr 22 i6, vi x7, vi x8, vi x9] [] (mk I L t) :=
  Eq.trans (e_iload_n D91_119 rfl rfl) <| e_icgt D91_120 rfl rfl
theorem b91_123 {d : Nat} {i0 i4 i6 : Nat} {x1 x2 x3 x5 x7 x8 x9 : Int} {I L : Nat → Nat → Nat → Int} {t : Nat → Nat} : Res d 91 123 [vr 11 i0, vi x1, vi x2, vi x3, vr 3 i4, vi x5, vr 22 i6, vi x7, vi x8, vi x9] [] (mk I L t) = some (vi x7, (mk I L t)) :=
  Eq.trans (e_iload D91_123 rfl rfl) <| e_iret D91_125 rfl
theorem b91_126 {d : Nat} {i0 i4 i6 : Nat} {x1 x2 x3 x5 x7 x8 x9 : Int} {I L : Nat → Nat → Nat → Int} {t : Nat → Nat} : Res (d + 1) 91 126 [vr 11 i0, vi x1, vi x2, vi x3, vr 3 i4, vi x5, vr 22 i6, vi x7, vi x8, vi x9] [] (mk I L t) = (Cal d 6 [vr 0 0, vi x8, vi x9, vi x7] (mk I L t)).bind fun v => Res (d + 1) 91 139 [vr 11 i0, vi x1, vi x2, vi x3, vr 3 i4, vi x5, vr 22 i6, vi x7, vi x8, vi x9] (psh 6 v.1 []) v.2 :=
  Eq.trans (e_aload_n D91_126 rfl rfl) <| Eq.trans (e_getP (p := (0, 0)) D91_127 rfl o_91 f_11_61 (sh_11 _) (by decide) (pp_11_9 _ _)) <| Eq.trans (e_iload D91_130 rfl rfl) <| Eq.trans (e_iload D91_132 rfl rfl) <| Eq.trans (e_iload D91_134 rfl rfl) <| e_callV D91_136 rfl o_91 m_11_300 (by decide) rfl rfl
theorem b91_139 {d : Nat} {i0 i4 i6 : Nat} {x1 x2 x3 x5 x7 x8 x9 : Int} {I L : Nat → Nat → Nat → Int} {t : Nat → Nat} : Res d 91 139 [vr 11 i0, vi x1, vi x2, vi x3, vr 3 i4, vi x5, vr 22 i6, vi x7, vi x8, vi x9] [] (mk I L t) = Res d 91 74 [vr 11 i0, vi x1, vi x2, vi x3, vr 3 i4, vi 9, vr 22 i6, vi (w32 (x7 + 1)), vi x8, vi x9] [] (mk I L t) :=
  Eq.trans (e_bipush (x := 9) D91_139 rfl rfl) <| Eq.trans (e_istore (ls1 := [vr 11 i0, vi x1, vi x2, vi x3, vr 3 i4, vi 9, vr 22 i6, vi x7, vi x8, vi x9]) D91_141 rfl (show 5 < 10 by decide) rfl) <| Eq.trans (e_iinc (ls1 := [vr 11 i0, vi x1, vi x2, vi x3, vr 3 i4, vi 9, vr 22 i6, vi (w32 (x7 + 1)), vi x8, vi x9]) D91_143 rfl rfl rfl) <| e_goto (q1 := 74) D91_146 rfl
theorem b91_149 {d : Nat} {i0 i4 i6 : Nat} {x1 x2 x3 x5 x7 : Int} {u8 u9 : MV} {I L : Nat → Nat → Nat → Int} {t : Nat → Nat} : Res d 91 149 [vr 11 i0, vi x1, vi x2, vi x3, vr 3 i4, vi x5, vr 22 i6, vi x7, u8, u9] [] (mk I L t) = some (vi (-1), (mk I L t)) :=
  Eq.trans (e_iconst (x := -1) D91_149 rfl rfl) <| e_iret D91_150 rfl
/-! x_score -/
theorem cc_92 : cod 92 = cX11_score := rfl
theorem D92_0 : decode (cod 92) 0 = .ok (.aload_n 0, 1) := by rw [cc_92]; decide +kernel
theorem D92_1 : decode (cod 92) 1 = .ok (.iload_n 1, 1) := by rw [cc_92]; decide +kernel
theorem D92_2 : decode (cod 92) 2 = .ok (.invokevirtual 94, 3) := by rw [cc_92]; decide +kernel
theorem D92_5 : decode (cod 92) 5 = .ok (.ifCond .eq 25, 3) := by rw [cc_92]; decide +kernel
theorem D92_8 : decode (cod 92) 8 = .ok (.aload_n 0, 1) := by rw [cc_92]; decide +kernel
theorem D92_9 : decode (cod 92) 9 = .ok (.getfield 29, 3) := by rw [cc_92]; decide +kernel
theorem D92_12 : decode (cod 92) 12 = .ok (.getfield 304, 3) := by rw [cc_92]; decide +kernel
theorem D92_15 : decode (cod 92) 15 = .ok (.aload_n 0, 1) := by rw [cc_92]; decide +kernel
theorem D92_16 : decode (cod 92) 16 = .ok (.getfield 11, 3) := by rw [cc_92]; decide +kernel
theorem D92_19 : decode (cod 92) 19 = .ok (.iload_n 1, 1) := by rw [cc_92]; decide +kernel
theorem D92_20 : decode (cod 92) 20 = .ok (.aaload, 1) := by rw [cc_92]; decide +kernel
theorem D92_21 : decode (cod 92) 21 = .ok (.getfield 98, 3) := by rw [cc_92]; decide +kernel
theorem D92_24 : decode (cod 92) 24 = .ok (.invokevirtual 308, 3) := by rw [cc_92]; decide +kernel
theorem D92_27 : decode (cod 92) 27 = .ok (.goto 4, 3) := by rw [cc_92]; decide +kernel
theorem D92_30 : decode (cod 92) 30 = .ok (.iconst (-1), 1) := by rw [cc_92]; decide +kernel
theorem D92_31 : decode (cod 92) 31 = .ok (.ireturn, 1) := by rw [cc_92]; decide +kernel
theorem b92_0 {d : Nat} {i0 : Nat} {x1 : Int} {I L : Nat → Nat → Nat → Int} {t : Nat → Nat} : Res (d + 1) 92 0 [vr 11 i0, vi x1] [] (mk I L t) = (Cal d 104 [vr 11 i0, vi x1] (mk I L t)).bind fun v => Res (d + 1) 92 5 [vr 11 i0, vi x1] (psh 104 v.1 []) v.2 :=
  Eq.trans (e_aload_n D92_0 rfl rfl) <| Eq.trans (e_iload_n D92_1 rfl rfl) <| e_callV D92_2 rfl o_92 m_11_94 (by decide) rfl rfl
theorem b92_5 {d : Nat} {i0 : Nat} {x1 xs0 : Int} {I L : Nat → Nat → Nat → Int} {t : Nat → Nat} : Res d 92 5 [vr 11 i0, vi x1] [vi xs0] (mk I L t) = if xs0 = 0 then Res d 92 30 [vr 11 i0, vi x1] [] (mk I L t) else Res d 92 8 [vr 11 i0, vi x1] [] (mk I L t) :=
  e_ifeq D92_5 rfl rfl
theorem b92_8 {d : Nat} {i0 : Nat} {x1 : Int} {I L : Nat → Nat → Nat → Int} {t : Nat → Nat} (g1 : 0 ≤ x1 ∧ x1 < 120) : Res (d + 1) 92 8 [vr 11 i0, vi x1] [] (mk I L t) = (Cal d 31 [vr 5 (t 10), vr 22 x1.toNat] (mk I L t)).bind fun v => Res (d + 1) 92 27 [vr 11 i0, vi x1] (psh 31 v.1 []) v.2 :=
  Eq.trans (e_aload_n D92_8 rfl rfl) <| Eq.trans (e_getP (p := (8, 0)) D92_9 rfl o_92 f_11_29 (sh_11 _) (by decide) (pp_11_3 _ _)) <| Eq.trans (e_getP (p := (5, t 10)) D92_12 rfl o_92 f_11_304 (sh_8 _) (by decide) (pp_8_3 _)) <| Eq.trans (e_aload_n D92_15 rfl rfl) <| Eq.trans (e_getP (p := (40, i0)) D92_16 rfl o_92 f_11_11 (sh_11 _) (by decide) (pp_11_0 _ _)) <| Eq.trans (e_iload_n D92_19 rfl rfl) <| Eq.trans (e_aald (p := (1, x1.toNat)) D92_20 rfl (ae_40 _) (aq_40 _) (pa_40 _ _ _) g1) <| Eq.trans (e_getP (p := (22, x1.toNat)) D92_21 rfl o_92 f_11_98 (sh_1 _) (by decide) (pp_1_0 _ _)) <| e_callV D92_24 rfl o_92 m_11_308 (by decide) rfl rfl
theorem b92_27 {d : Nat} {i0 : Nat} {x1 xs0 : Int} {I L : Nat → Nat → Nat → Int} {t : Nat → Nat} : Res d 92 27 [vr 11 i0, vi x1] [vi xs0] (mk I L t) = Res d 92 31 [vr 11 i0, vi x1] [vi xs0] (mk I L t) :=
  e_goto (q1 := 31) D92_27 rfl
theorem b92_30 {d : Nat} {i0 : Nat} {x1 : Int} {I L : Nat → Nat → Nat → Int} {t : Nat → Nat} : Res d 92 30 [vr 11 i0, vi x1] [] (mk I L t) = Res d 92 31 [vr 11 i0, vi x1] [vi (-1)] (mk I L t) :=
  e_iconst (x := -1) D92_30 rfl rfl
theorem b92_31 {d : Nat} {i0 : Nat} {x1 xs0 : Int} {I L : Nat → Nat → Nat → Int} {t : Nat → Nat} : Res d 92 31 [vr 11 i0, vi x1] [vi xs0] (mk I L t) = some (vi xs0, (mk I L t)) :=
  e_iret D92_31 rfl
