/-! block equations (printed by wip/whole/genall.py) -/
/-! x_mock -/
theorem cc_93 : cod 93 = cX11_mock := rfl
theorem D93_0 : decode (cod 93) 0 = .ok (.aload_n 0, 1) := by rw [cc_93]; decide +kernel
theorem D93_1 : decode (cod 93) 1 = .ok (.iload_n 1, 1) := by rw [cc_93]; decide +kernel
theorem D93_2 : decode (cod 93) 2 = .ok (.invokevirtual 107, 3) := by rw [cc_93]; decide +kernel
theorem D93_5 : decode (cod 93) 5 = .ok (.ifCond .eq 26, 3) := by rw [cc_93]; decide +kernel
theorem D93_8 : decode (cod 93) 8 = .ok (.aload_n 0, 1) := by rw [cc_93]; decide +kernel
theorem D93_9 : decode (cod 93) 9 = .ok (.getfield 22, 3) := by rw [cc_93]; decide +kernel
theorem D93_12 : decode (cod 93) 12 = .ok (.iload_n 1, 1) := by rw [cc_93]; decide +kernel
theorem D93_13 : decode (cod 93) 13 = .ok (.aaload, 1) := by rw [cc_93]; decide +kernel
theorem D93_14 : decode (cod 93) 14 = .ok (.iload_n 2, 1) := by rw [cc_93]; decide +kernel
theorem D93_15 : decode (cod 93) 15 = .ok (.invokevirtual 247, 3) := by rw [cc_93]; decide +kernel
theorem D93_18 : decode (cod 93) 18 = .ok (.iconst (-1), 1) := by rw [cc_93]; decide +kernel
theorem D93_19 : decode (cod 93) 19 = .ok (.if_icmp .eq 12, 3) := by rw [cc_93]; decide +kernel
theorem D93_22 : decode (cod 93) 22 = .ok (.iload_n 3, 1) := by rw [cc_93]; decide +kernel
theorem D93_23 : decode (cod 93) 23 = .ok (.ifCond .eq 10, 3) := by rw [cc_93]; decide +kernel
theorem D93_26 : decode (cod 93) 26 = .ok (.iload_n 3, 1) := by rw [cc_93]; decide +kernel
theorem D93_27 : decode (cod 93) 27 = .ok (.iconst 1, 1) := by rw [cc_93]; decide +kernel
theorem D93_28 : decode (cod 93) 28 = .ok (.if_icmp .eq 5, 3) := by rw [cc_93]; decide +kernel
theorem D93_31 : decode (cod 93) 31 = .ok (.iconst (-1), 1) := by rw [cc_93]; decide +kernel
theorem D93_32 : decode (cod 93) 32 = .ok (.ireturn, 1) := by rw [cc_93]; decide +kernel
theorem D93_33 : decode (cod 93) 33 = .ok (.aload_n 0, 1) := by rw [cc_93]; decide +kernel
theorem D93_34 : decode (cod 93) 34 = .ok (.aload_n 0, 1) := by rw [cc_93]; decide +kernel
theorem D93_35 : decode (cod 93) 35 = .ok (.getfield 22, 3) := by rw [cc_93]; decide +kernel
theorem D93_38 : decode (cod 93) 38 = .ok (.iload_n 1, 1) := by rw [cc_93]; decide +kernel
theorem D93_39 : decode (cod 93) 39 = .ok (.aaload, 1) := by rw [cc_93]; decide +kernel
theorem D93_40 : decode (cod 93) 40 = .ok (.iload_n 2, 1) := by rw [cc_93]; decide +kernel
theorem D93_41 : decode (cod 93) 41 = .ok (.invokevirtual 313, 3) := by rw [cc_93]; decide +kernel
theorem D93_44 : decode (cod 93) 44 = .ok (.istore 4, 2) := by rw [cc_93]; decide +kernel
theorem D93_46 : decode (cod 93) 46 = .ok (.iload_n 3, 1) := by rw [cc_93]; decide +kernel
theorem D93_47 : decode (cod 93) 47 = .ok (.ifCond .ne 6, 3) := by rw [cc_93]; decide +kernel
theorem D93_50 : decode (cod 93) 50 = .ok (.iload 4, 2) := by rw [cc_93]; decide +kernel
theorem D93_52 : decode (cod 93) 52 = .ok (.ireturn, 1) := by rw [cc_93]; decide +kernel
theorem D93_53 : decode (cod 93) 53 = .ok (.aload_n 0, 1) := by rw [cc_93]; decide +kernel
theorem D93_54 : decode (cod 93) 54 = .ok (.getfield 22, 3) := by rw [cc_93]; decide +kernel
theorem D93_57 : decode (cod 93) 57 = .ok (.iload_n 1, 1) := by rw [cc_93]; decide +kernel
theorem D93_58 : decode (cod 93) 58 = .ok (.aaload, 1) := by rw [cc_93]; decide +kernel
theorem D93_59 : decode (cod 93) 59 = .ok (.invokevirtual 258, 3) := by rw [cc_93]; decide +kernel
theorem D93_62 : decode (cod 93) 62 = .ok (.istore 5, 2) := by rw [cc_93]; decide +kernel
theorem D93_64 : decode (cod 93) 64 = .ok (.iload 5, 2) := by rw [cc_93]; decide +kernel
theorem D93_66 : decode (cod 93) 66 = .ok (.ifCond .ne 7, 3) := by rw [cc_93]; decide +kernel
theorem D93_69 : decode (cod 93) 69 = .ok (.iconst (-1), 1) := by rw [cc_93]; decide +kernel
theorem D93_70 : decode (cod 93) 70 = .ok (.goto 16, 3) := by rw [cc_93]; decide +kernel
theorem D93_73 : decode (cod 93) 73 = .ok (.iconst 0, 1) := by rw [cc_93]; decide +kernel
theorem D93_74 : decode (cod 93) 74 = .ok (.iload 4, 2) := by rw [cc_93]; decide +kernel
theorem D93_76 : decode (cod 93) 76 = .ok (.ldc_w 317, 3) := by rw [cc_93]; decide +kernel
theorem D93_79 : decode (cod 93) 79 = .ok (.iload 5, 2) := by rw [cc_93]; decide +kernel
theorem D93_81 : decode (cod 93) 81 = .ok (.idiv, 1) := by rw [cc_93]; decide +kernel
theorem D93_82 : decode (cod 93) 82 = .ok (.isub, 1) := by rw [cc_93]; decide +kernel
theorem D93_83 : decode (cod 93) 83 = .ok (.invokestatic 318, 3) := by rw [cc_93]; decide +kernel
theorem D93_86 : decode (cod 93) 86 = .ok (.ireturn, 1) := by rw [cc_93]; decide +kernel
theorem b93_0 {d : Nat} {i0 : Nat} {x1 x2 x3 : Int} {I L : Nat → Nat → Nat → Int} {t : Nat → Nat} : Res (d + 1) 93 0 [vr 11 i0, vi x1, vi x2, vi x3, vx, vx] [] (mk I L t) = (Cal d 105 [vr 11 i0, vi x1] (mk I L t)).bind fun v => Res (d + 1) 93 5 [vr 11 i0, vi x1, vi x2, vi x3, vx, vx] (psh 105 v.1 []) v.2 :=
  Eq.trans (e_aload_n D93_0 rfl rfl) <| Eq.trans (e_iload_n D93_1 rfl rfl) <| e_callV D93_2 rfl o_93 m_11_107 (by decide) rfl rfl
theorem b93_5 {d : Nat} {i0 : Nat} {x1 x2 x3 xs0 : Int} {I L : Nat → Nat → Nat → Int} {t : Nat → Nat} : Res d 93 5 [vr 11 i0, vi x1, vi x2, vi x3, vx, vx] [vi xs0] (mk I L t) = if xs0 = 0 then Res d 93 31 [vr 11 i0, vi x1, vi x2, vi x3, vx, vx] [] (mk I L t) else Res d 93 8 [vr 11 i0, vi x1, vi x2, vi x3, vx, vx] [] (mk I L t) :=
  e_ifeq D93_5 rfl rfl
theorem b93_8 {d : Nat} {i0 : Nat} {x1 x2 x3 : Int} {I L : Nat → Nat → Nat → Int} {t : Nat → Nat} (g1 : 0 ≤ x1 ∧ x1 < 6) : Res (d + 1) 93 8 [vr 11 i0, vi x1, vi x2, vi x3, vx, vx] [] (mk I L t) = (Cal d 26 [vr 4 x1.toNat, vi x2] (mk I L t)).bind fun v => Res (d + 1) 93 18 [vr 11 i0, vi x1, vi x2, vi x3, vx, vx] (psh 26 v.1 []) v.2 :=
  Eq.trans (e_aload_n D93_8 rfl rfl) <| Eq.trans (e_getP (p := (42, i0)) D93_9 rfl o_93 f_11_22 (sh_11 _) (by decide) (pp_11_2 _ _)) <| Eq.trans (e_iload_n D93_12 rfl rfl) <| Eq.trans (e_aald (p := (4, x1.toNat)) D93_13 rfl (ae_42 _) (aq_42 _) (pa_42 _ _ _) g1) <| Eq.trans (e_iload_n D93_14 rfl rfl) <| e_callV D93_15 rfl o_93 m_11_247 (by decide) rfl rfl
theorem b93_18 {d : Nat} {i0 : Nat} {x1 x2 x3 xs0 : Int} {I L : Nat → Nat → Nat → Int} {t : Nat → Nat} : Res d 93 18 [vr 11 i0, vi x1, vi x2, vi x3, vx, vx] [vi xs0] (mk I L t) = if xs0 = -1 then Res d 93 31 [vr 11 i0, vi x1, vi x2, vi x3, vx, vx] [] (mk I L t) else Res d 93 22 [vr 11 i0, vi x1, vi x2, vi x3, vx, vx] [] (mk I L t) :=
  Eq.trans (e_iconst (x := -1) D93_18 rfl rfl) <| e_iceq D93_19 rfl rfl
theorem b93_22 {d : Nat} {i0 : Nat} {x1 x2 x3 : Int} {I L : Nat → Nat → Nat → Int} {t : Nat → Nat} : Res d 93 22 [vr 11 i0, vi x1, vi x2, vi x3, vx, vx] [] (mk I L t) = if x3 = 0 then Res d 93 33 [vr 11 i0, vi x1, vi x2, vi x3, vx, vx] [] (mk I L t) else Res d 93 26 [vr 11 i0, vi x1, vi x2, vi x3, vx, vx] [] (mk I L t) :=
  Eq.trans (e_iload_n D93_22 rfl rfl) <| e_ifeq D93_23 rfl rfl
theorem b93_26 {d : Nat} {i0 : Nat} {x1 x2 x3 : Int} {I L : Nat → Nat → Nat → Int} {t : Nat → Nat} : Res d 93 26 [vr 11 i0, vi x1, vi x2, vi x3, vx, vx] [] (mk I L t) = if x3 = 1 then Res d 93 33 [vr 11 i0, vi x1, vi x2, vi x3, vx, vx] [] (mk I L t) else Res d 93 31 [vr 11 i0, vi x1, vi x2, vi x3, vx, vx] [] (mk I L t) :=
  Eq.trans (e_iload_n D93_26 rfl rfl) <| Eq.trans (e_iconst (x := 1) D93_27 rfl rfl) <| e_iceq D93_28 rfl rfl
theorem b93_31 {d : Nat} {i0 : Nat} {x1 x2 x3 : Int} {I L : Nat → Nat → Nat → Int} {t : Nat → Nat} : Res d 93 31 [vr 11 i0, vi x1, vi x2, vi x3, vx, vx] [] (mk I L t) = some (vi (-1), (mk I L t)) :=
  Eq.trans (e_iconst (x := -1) D93_31 rfl rfl) <| e_iret D93_32 rfl
theorem b93_33 {d : Nat} {i0 : Nat} {x1 x2 x3 : Int} {I L : Nat → Nat → Nat → Int} {t : Nat → Nat} (g1 : 0 ≤ x1 ∧ x1 < 6) : Res (d + 1) 93 33 [vr 11 i0, vi x1, vi x2, vi x3, vx, vx] [] (mk I L t) = (Cal d 129 [vr 11 i0, vr 4 x1.toNat, vi x2] (mk I L t)).bind fun v => Res (d + 1) 93 44 [vr 11 i0, vi x1, vi x2, vi x3, vx, vx] (psh 129 v.1 []) v.2 :=
  Eq.trans (e_aload_n D93_33 rfl rfl) <| Eq.trans (e_aload_n D93_34 rfl rfl) <| Eq.trans (e_getP (p := (42, i0)) D93_35 rfl o_93 f_11_22 (sh_11 _) (by decide) (pp_11_2 _ _)) <| Eq.trans (e_iload_n D93_38 rfl rfl) <| Eq.trans (e_aald (p := (4, x1.toNat)) D93_39 rfl (ae_42 _) (aq_42 _) (pa_42 _ _ _) g1) <| Eq.trans (e_iload_n D93_40 rfl rfl) <| e_callV D93_41 rfl o_93 m_11_313 (by decide) rfl rfl
theorem b93_44 {d : Nat} {i0 : Nat} {x1 x2 x3 xs0 : Int} {I L : Nat → Nat → Nat → Int} {t : Nat → Nat} : Res d 93 44 [vr 11 i0, vi x1, vi x2, vi x3, vx, vx] [vi xs0] (mk I L t) = if ¬ x3 = 0 then Res d 93 53 [vr 11 i0, vi x1, vi x2, vi x3, vi xs0, vx] [] (mk I L t) else Res d 93 50 [vr 11 i0, vi x1, vi x2, vi x3, vi xs0, vx] [] (mk I L t) :=
  Eq.trans (e_istore (ls1 := [vr 11 i0, vi x1, vi x2, vi x3, vi xs0, vx]) D93_44 rfl (show 4 < 6 by decide) rfl) <| Eq.trans (e_iload_n D93_46 rfl rfl) <| e_ifne D93_47 rfl rfl
theorem b93_50 {d : Nat} {i0 : Nat} {x1 x2 x3 x4 : Int} {I L : Nat → Nat → Nat → Int} {t : Nat → Nat} : Res d 93 50 [vr 11 i0, vi x1, vi x2, vi x3, vi x4, vx] [] (mk I L t) = some (vi x4, (mk I L t)) :=
  Eq.trans (e_iload D93_50 rfl rfl) <| e_iret D93_52 rfl
theorem b93_53 {d : Nat} {i0 : Nat} {x1 x2 x3 x4 : Int} {I L : Nat → Nat → Nat → Int} {t : Nat → Nat} (g1 : 0 ≤ x1 ∧ x1 < 6) : Res (d + 1) 93 53 [vr 11 i0, vi x1, vi x2, vi x3, vi x4, vx] [] (mk I L t) = (Cal d 27 [vr 4 x1.toNat] (mk I L t)).bind fun v => Res (d + 1) 93 62 [vr 11 i0, vi x1, vi x2, vi x3, vi x4, vx] (psh 27 v.1 []) v.2 :=
  Eq.trans (e_aload_n D93_53 rfl rfl) <| Eq.trans (e_getP (p := (42, i0)) D93_54 rfl o_93 f_11_22 (sh_11 _) (by decide) (pp_11_2 _ _)) <| Eq.trans (e_iload_n D93_57 rfl rfl) <| Eq.trans (e_aald (p := (4, x1.toNat)) D93_58 rfl (ae_42 _) (aq_42 _) (pa_42 _ _ _) g1) <| e_callV D93_59 rfl o_93 m_11_258 (by decide) rfl rfl
theorem b93_62 {d : Nat} {i0 : Nat} {x1 x2 x3 x4 xs0 : Int} {I L : Nat → Nat → Nat → Int} {t : Nat → Nat} : Res d 93 62 [vr 11 i0, vi x1, vi x2, vi x3, vi x4, vx] [vi xs0] (mk I L t) = if ¬ xs0 = 0 then Res d 93 73 [vr 11 i0, vi x1, vi x2, vi x3, vi x4, vi xs0] [] (mk I L t) else Res d 93 69 [vr 11 i0, vi x1, vi x2, vi x3, vi x4, vi xs0] [] (mk I L t) :=
  Eq.trans (e_istore (ls1 := [vr 11 i0, vi x1, vi x2, vi x3, vi x4, vi xs0]) D93_62 rfl (show 5 < 6 by decide) rfl) <| Eq.trans (e_iload D93_64 rfl rfl) <| e_ifne D93_66 rfl rfl
theorem b93_69 {d : Nat} {i0 : Nat} {x1 x2 x3 x4 x5 : Int} {I L : Nat → Nat → Nat → Int} {t : Nat → Nat} : Res d 93 69 [vr 11 i0, vi x1, vi x2, vi x3, vi x4, vi x5] [] (mk I L t) = Res d 93 86 [vr 11 i0, vi x1, vi x2, vi x3, vi x4, vi x5] [vi (-1)] (mk I L t) :=
  Eq.trans (e_iconst (x := -1) D93_69 rfl rfl) <| e_goto (q1 := 86) D93_70 rfl
theorem b93_73 {d : Nat} {i0 : Nat} {x1 x2 x3 x4 x5 : Int} {I L : Nat → Nat → Nat → Int} {t : Nat → Nat} (g1 : x5 ≠ 0) : Res (d + 1) 93 73 [vr 11 i0, vi x1, vi x2, vi x3, vi x4, vi x5] [] (mk I L t) = Res (d + 1) 93 86 [vr 11 i0, vi x1, vi x2, vi x3, vi x4, vi x5] [vi ((if 0 < w32 (x4 - (vIdiv 1000000 x5)) then w32 (x4 - (vIdiv 1000000 x5)) else 0))] (mk I L t) :=
  Eq.trans (e_iconst (x := 0) D93_73 rfl rfl) <| Eq.trans (e_iload D93_74 rfl rfl) <| Eq.trans (e_ldc_w (x := 1000000) D93_76 rfl o_93 i_11_317 rfl) <| Eq.trans (e_iload D93_79 rfl rfl) <| Eq.trans (e_idiv D93_81 rfl g1) <| Eq.trans (e_isub D93_82 rfl) <| e_max (by omega) D93_83 rfl o_93 m_11_318 (by simp [cw])
theorem b93_86 {d : Nat} {i0 : Nat} {x1 x2 x3 x4 x5 xs0 : Int} {I L : Nat → Nat → Nat → Int} {t : Nat → Nat} : Res d 93 86 [vr 11 i0, vi x1, vi x2, vi x3, vi x4, vi x5] [vi xs0] (mk I L t) = some (vi xs0, (mk I L t)) :=
  e_iret D93_86 rfl
/-! x_fillers -/
theorem cc_94 : cod 94 = cX11_fillers := rfl
theorem D94_0 : decode (cod 94) 0 = .ok (.aload_n 0, 1) := by rw [cc_94]; decide +kernel
theorem D94_1 : decode (cod 94) 1 = .ok (.iload_n 1, 1) := by rw [cc_94]; decide +kernel
theorem D94_2 : decode (cod 94) 2 = .ok (.invokevirtual 107, 3) := by rw [cc_94]; decide +kernel
theorem D94_5 : decode (cod 94) 5 = .ok (.ifCond .eq 21, 3) := by rw [cc_94]; decide +kernel
theorem D94_8 : decode (cod 94) 8 = .ok (.aload_n 0, 1) := by rw [cc_94]; decide +kernel
theorem D94_9 : decode (cod 94) 9 = .ok (.iload_n 2, 1) := by rw [cc_94]; decide +kernel
theorem D94_10 : decode (cod 94) 10 = .ok (.invokevirtual 94, 3) := by rw [cc_94]; decide +kernel
theorem D94_13 : decode (cod 94) 13 = .ok (.ifCond .eq 13, 3) := by rw [cc_94]; decide +kernel
theorem D94_16 : decode (cod 94) 16 = .ok (.iload_n 3, 1) := by rw [cc_94]; decide +kernel
theorem D94_17 : decode (cod 94) 17 = .ok (.iconst 1, 1) := by rw [cc_94]; decide +kernel
theorem D94_18 : decode (cod 94) 18 = .ok (.bipush 8, 2) := by rw [cc_94]; decide +kernel
theorem D94_20 : decode (cod 94) 20 = .ok (.invokestatic 76, 3) := by rw [cc_94]; decide +kernel
theorem D94_23 : decode (cod 94) 23 = .ok (.ifCond .ne 5, 3) := by rw [cc_94]; decide +kernel
theorem D94_26 : decode (cod 94) 26 = .ok (.iconst (-1), 1) := by rw [cc_94]; decide +kernel
theorem D94_27 : decode (cod 94) 27 = .ok (.ireturn, 1) := by rw [cc_94]; decide +kernel
theorem D94_28 : decode (cod 94) 28 = .ok (.aload_n 0, 1) := by rw [cc_94]; decide +kernel
theorem D94_29 : decode (cod 94) 29 = .ok (.aload_n 0, 1) := by rw [cc_94]; decide +kernel
theorem D94_30 : decode (cod 94) 30 = .ok (.getfield 22, 3) := by rw [cc_94]; decide +kernel
theorem D94_33 : decode (cod 94) 33 = .ok (.iload_n 1, 1) := by rw [cc_94]; decide +kernel
theorem D94_34 : decode (cod 94) 34 = .ok (.aaload, 1) := by rw [cc_94]; decide +kernel
theorem D94_35 : decode (cod 94) 35 = .ok (.iload_n 2, 1) := by rw [cc_94]; decide +kernel
theorem D94_36 : decode (cod 94) 36 = .ok (.invokevirtual 321, 3) := by rw [cc_94]; decide +kernel
theorem D94_39 : decode (cod 94) 39 = .ok (.istore 4, 2) := by rw [cc_94]; decide +kernel
theorem D94_41 : decode (cod 94) 41 = .ok (.aload_n 0, 1) := by rw [cc_94]; decide +kernel
theorem D94_42 : decode (cod 94) 42 = .ok (.getfield 29, 3) := by rw [cc_94]; decide +kernel
theorem D94_45 : decode (cod 94) 45 = .ok (.getfield 304, 3) := by rw [cc_94]; decide +kernel
theorem D94_48 : decode (cod 94) 48 = .ok (.aload_n 0, 1) := by rw [cc_94]; decide +kernel
theorem D94_49 : decode (cod 94) 49 = .ok (.getfield 11, 3) := by rw [cc_94]; decide +kernel
theorem D94_52 : decode (cod 94) 52 = .ok (.iload_n 2, 1) := by rw [cc_94]; decide +kernel
theorem D94_53 : decode (cod 94) 53 = .ok (.aaload, 1) := by rw [cc_94]; decide +kernel
theorem D94_54 : decode (cod 94) 54 = .ok (.getfield 98, 3) := by rw [cc_94]; decide +kernel
theorem D94_57 : decode (cod 94) 57 = .ok (.invokevirtual 308, 3) := by rw [cc_94]; decide +kernel
theorem D94_60 : decode (cod 94) 60 = .ok (.istore 5, 2) := by rw [cc_94]; decide +kernel
theorem D94_62 : decode (cod 94) 62 = .ok (.iconst (-1), 1) := by rw [cc_94]; decide +kernel
theorem D94_63 : decode (cod 94) 63 = .ok (.istore 6, 2) := by rw [cc_94]; decide +kernel
theorem D94_65 : decode (cod 94) 65 = .ok (.iconst 0, 1) := by rw [cc_94]; decide +kernel
theorem D94_66 : decode (cod 94) 66 = .ok (.istore 7, 2) := by rw [cc_94]; decide +kernel
theorem D94_68 : decode (cod 94) 68 = .ok (.iconst 0, 1) := by rw [cc_94]; decide +kernel
theorem D94_69 : decode (cod 94) 69 = .ok (.istore 8, 2) := by rw [cc_94]; decide +kernel
theorem D94_71 : decode (cod 94) 71 = .ok (.iconst 1, 1) := by rw [cc_94]; decide +kernel
theorem D94_72 : decode (cod 94) 72 = .ok (.istore 9, 2) := by rw [cc_94]; decide +kernel
theorem D94_74 : decode (cod 94) 74 = .ok (.iload 9, 2) := by rw [cc_94]; decide +kernel
theorem D94_76 : decode (cod 94) 76 = .ok (.sipush 512, 3) := by rw [cc_94]; decide +kernel
theorem D94_79 : decode (cod 94) 79 = .ok (.if_icmp .ge 94, 3) := by rw [cc_94]; decide +kernel
theorem D94_82 : decode (cod 94) 82 = .ok (.iload 9, 2) := by rw [cc_94]; decide +kernel
theorem D94_84 : decode (cod 94) 84 = .ok (.invokestatic 324, 3) := by rw [cc_94]; decide +kernel
theorem D94_87 : decode (cod 94) 87 = .ok (.iload_n 3, 1) := by rw [cc_94]; decide +kernel
theorem D94_88 : decode (cod 94) 88 = .ok (.if_icmp .ne 79, 3) := by rw [cc_94]; decide +kernel
theorem D94_91 : decode (cod 94) 91 = .ok (.iload 9, 2) := by rw [cc_94]; decide +kernel
theorem D94_93 : decode (cod 94) 93 = .ok (.iload 4, 2) := by rw [cc_94]; decide +kernel
theorem D94_95 : decode (cod 94) 95 = .ok (.iconst (-1), 1) := by rw [cc_94]; decide +kernel
theorem D94_96 : decode (cod 94) 96 = .ok (.ixor, 1) := by rw [cc_94]; decide +kernel
theorem D94_97 : decode (cod 94) 97 = .ok (.iand, 1) := by rw [cc_94]; decide +kernel
theorem D94_98 : decode (cod 94) 98 = .ok (.ifCond .eq 6, 3) := by rw [cc_94]; decide +kernel
theorem D94_101 : decode (cod 94) 101 = .ok (.goto 66, 3) := by rw [cc_94]; decide +kernel
theorem D94_104 : decode (cod 94) 104 = .ok (.aload_n 0, 1) := by rw [cc_94]; decide +kernel
theorem D94_105 : decode (cod 94) 105 = .ok (.getfield 61, 3) := by rw [cc_94]; decide +kernel
theorem D94_108 : decode (cod 94) 108 = .ok (.iload 9, 2) := by rw [cc_94]; decide +kernel
theorem D94_110 : decode (cod 94) 110 = .ok (.iload 5, 2) := by rw [cc_94]; decide +kernel
theorem D94_112 : decode (cod 94) 112 = .ok (.invokevirtual 329, 3) := by rw [cc_94]; decide +kernel
theorem D94_115 : decode (cod 94) 115 = .ok (.istore 10, 2) := by rw [cc_94]; decide +kernel
theorem D94_117 : decode (cod 94) 117 = .ok (.aload_n 0, 1) := by rw [cc_94]; decide +kernel
theorem D94_118 : decode (cod 94) 118 = .ok (.getfield 61, 3) := by rw [cc_94]; decide +kernel
theorem D94_121 : decode (cod 94) 121 = .ok (.iload 9, 2) := by rw [cc_94]; decide +kernel
theorem D94_123 : decode (cod 94) 123 = .ok (.invokevirtual 332, 3) := by rw [cc_94]; decide +kernel
theorem D94_126 : decode (cod 94) 126 = .ok (.istore 11, 2) := by rw [cc_94]; decide +kernel
theorem D94_128 : decode (cod 94) 128 = .ok (.iload 6, 2) := by rw [cc_94]; decide +kernel
theorem D94_130 : decode (cod 94) 130 = .ok (.iconst (-1), 1) := by rw [cc_94]; decide +kernel
theorem D94_131 : decode (cod 94) 131 = .ok (.if_icmp .eq 24, 3) := by rw [cc_94]; decide +kernel
theorem D94_134 : decode (cod 94) 134 = .ok (.iload 10, 2) := by rw [cc_94]; decide +kernel
theorem D94_136 : decode (cod 94) 136 = .ok (.iload 7, 2) := by rw [cc_94]; decide +kernel
theorem D94_138 : decode (cod 94) 138 = .ok (.if_icmp .lt 17, 3) := by rw [cc_94]; decide +kernel
theorem D94_141 : decode (cod 94) 141 = .ok (.iload 10, 2) := by rw [cc_94]; decide +kernel
theorem D94_143 : decode (cod 94) 143 = .ok (.iload 7, 2) := by rw [cc_94]; decide +kernel
theorem D94_145 : decode (cod 94) 145 = .ok (.if_icmp .ne 22, 3) := by rw [cc_94]; decide +kernel
theorem D94_148 : decode (cod 94) 148 = .ok (.iload 11, 2) := by rw [cc_94]; decide +kernel
theorem D94_150 : decode (cod 94) 150 = .ok (.iload 8, 2) := by rw [cc_94]; decide +kernel
theorem D94_152 : decode (cod 94) 152 = .ok (.if_icmp .ge 15, 3) := by rw [cc_94]; decide +kernel
theorem D94_155 : decode (cod 94) 155 = .ok (.iload 9, 2) := by rw [cc_94]; decide +kernel
theorem D94_157 : decode (cod 94) 157 = .ok (.istore 6, 2) := by rw [cc_94]; decide +kernel
theorem D94_159 : decode (cod 94) 159 = .ok (.iload 10, 2) := by rw [cc_94]; decide +kernel
theorem D94_161 : decode (cod 94) 161 = .ok (.istore 7, 2) := by rw [cc_94]; decide +kernel
theorem D94_163 : decode (cod 94) 163 = .ok (.iload 11, 2) := by rw [cc_94]; decide +kernel
theorem D94_165 : decode (cod 94) 165 = .ok (.istore 8, 2) := by rw [cc_94]; decide +kernel
theorem D94_167 : decode (cod 94) 167 = .ok (.iinc 9 1, 3) := by rw [cc_94]; decide +kernel
theorem D94_170 : decode (cod 94) 170 = .ok (.goto (-96), 3) := by rw [cc_94]; decide +kernel
theorem D94_173 : decode (cod 94) 173 = .ok (.iload 6, 2) := by rw [cc_94]; decide +kernel
theorem D94_175 : decode (cod 94) 175 = .ok (.ireturn, 1) := by rw [cc_94]; decide +kernel
theorem b94_0 {d : Nat} {i0 : Nat} {x1 x2 x3 : Int} {I L : Nat → Nat → Nat → Int} {t : Nat → Nat} : Res (d + 1) 94 0 [vr 11 i0, vi x1, vi x2, vi x3, vx, vx, vx, vx, vx, vx, vx, vx] [] (mk I L t) = (Cal d 105 [vr 11 i0, vi x1] (mk I L t)).bind fun v => Res (d + 1) 94 5 [vr 11 i0, vi x1, vi x2, vi x3, vx, vx, vx, vx, vx, vx, vx, vx] (psh 105 v.1 []) v.2 :=
  Eq.trans (e_aload_n D94_0 rfl rfl) <| Eq.trans (e_iload_n D94_1 rfl rfl) <| e_callV D94_2 rfl o_94 m_11_107 (by decide) rfl rfl
theorem b94_5 {d : Nat} {i0 : Nat} {x1 x2 x3 xs0 : Int} {I L : Nat → Nat → Nat → Int} {t : Nat → Nat} : Res d 94 5 [vr 11 i0, vi x1, vi x2, vi x3, vx, vx, vx, vx, vx, vx, vx, vx] [vi xs0] (mk I L t) = if xs0 = 0 then Res d 94 26 [vr 11 i0, vi x1, vi x2, vi x3, vx, vx, vx, vx, vx, vx, vx, vx] [] (mk I L t) else Res d 94 8 [vr 11 i0, vi x1, vi x2, vi x3, vx, vx, vx, vx, vx, vx, vx, vx] [] (mk I L t) :=
  e_ifeq D94_5 rfl rfl
theorem b94_8 {d : Nat} {i0 : Nat} {x1 x2 x3 : Int} {I L : Nat → Nat → Nat → Int} {t : Nat → Nat} : Res (d + 1) 94 8 [vr 11 i0, vi x1, vi x2, vi x3, vx, vx, vx, vx, vx, vx, vx, vx] [] (mk I L t) = (Cal d 104 [vr 11 i0, vi x2] (mk I L t)).bind fun v => Res (d + 1) 94 13 [vr 11 i0, vi x1, vi x2, vi x3, vx, vx, vx, vx, vx, vx, vx, vx] (psh 104 v.1 []) v.2 :=
  Eq.trans (e_aload_n D94_8 rfl rfl) <| Eq.trans (e_iload_n D94_9 rfl rfl) <| e_callV D94_10 rfl o_94 m_11_94 (by decide) rfl rfl
theorem b94_13 {d : Nat} {i0 : Nat} {x1 x2 x3 xs0 : Int} {I L : Nat → Nat → Nat → Int} {t : Nat → Nat} : Res d 94 13 [vr 11 i0, vi x1, vi x2, vi x3, vx, vx, vx, vx, vx, vx, vx, vx] [vi xs0] (mk I L t) = if xs0 = 0 then Res d 94 26 [vr 11 i0, vi x1, vi x2, vi x3, vx, vx, vx, vx, vx, vx, vx, vx] [] (mk I L t) else Res d 94 16 [vr 11 i0, vi x1, vi x2, vi x3, vx, vx, vx, vx, vx, vx, vx, vx] [] (mk I L t) :=
  e_ifeq D94_13 rfl rfl
theorem b94_16 {d : Nat} {i0 : Nat} {x1 x2 x3 : Int} {I L : Nat → Nat → Nat → Int} {t : Nat → Nat} : Res (d + 1) 94 16 [vr 11 i0, vi x1, vi x2, vi x3, vx, vx, vx, vx, vx, vx, vx, vx] [] (mk I L t) = (Cal d 102 [vi x3, vi 1, vi 8] (mk I L t)).bind fun v => Res (d + 1) 94 23 [vr 11 i0, vi x1, vi x2, vi x3, vx, vx, vx, vx, vx, vx, vx, vx] (psh 102 v.1 []) v.2 :=
  Eq.trans (e_iload_n D94_16 rfl rfl) <| Eq.trans (e_iconst (x := 1) D94_17 rfl rfl) <| Eq.trans (e_bipush (x := 8) D94_18 rfl rfl) <| e_callS D94_20 rfl o_94 m_11_76 (by decide) rfl rfl
theorem b94_23 {d : Nat} {i0 : Nat} {x1 x2 x3 xs0 : Int} {I L : Nat → Nat → Nat → Int} {t : Nat → Nat} : Res d 94 23 [vr 11 i0, vi x1, vi x2, vi x3, vx, vx, vx, vx, vx, vx, vx, vx] [vi xs0] (mk I L t) = if ¬ xs0 = 0 then Res d 94 28 [vr 11 i0, vi x1, vi x2, vi x3, vx, vx, vx, vx, vx, vx, vx, vx] [] (mk I L t) else Res d 94 26 [vr 11 i0, vi x1, vi x2, vi x3, vx, vx, vx, vx, vx, vx, vx, vx] [] (mk I L t) :=
  e_ifne D94_23 rfl rfl
theorem b94_26 {d : Nat} {i0 : Nat} {x1 x2 x3 : Int} {I L : Nat → Nat → Nat → Int} {t : Nat → Nat} : Res d 94 26 [vr 11 i0, vi x1, vi x2, vi x3, vx, vx, vx, vx, vx, vx, vx, vx] [] (mk I L t) = some (vi (-1), (mk I L t)) :=
  Eq.trans (e_iconst (x := -1) D94_26 rfl rfl) <| e_iret D94_27 rfl
theorem b94_28 {d : Nat} {i0 : Nat} {x1 x2 x3 : Int} {I L : Nat → Nat → Nat → Int} {t : Nat → Nat} (g1 : 0 ≤ x1 ∧ x1 < 6) : Res (d + 1) 94 28 [vr 11 i0, vi x1, vi x2, vi x3, vx, vx, vx, vx, vx, vx, vx, vx] [] (mk I L t) = (Cal d 130 [vr 11 i0, vr 4 x1.toNat, vi x2] (mk I L t)).bind fun v => Res (d + 1) 94 39 [vr 11 i0, vi x1, vi x2, vi x3, vx, vx, vx, vx, vx, vx, vx, vx] (psh 130 v.1 []) v.2 :=
  Eq.trans (e_aload_n D94_28 rfl rfl) <| Eq.trans (e_aload_n D94_29 rfl rfl) <| Eq.trans (e_getP (p := (42, i0)) D94_30 rfl o_94 f_11_22 (sh_11 _) (by decide) (pp_11_2 _ _)) <| Eq.trans (e_iload_n D94_33 rfl rfl) <| Eq.trans (e_aald (p := (4, x1.toNat)) D94_34 rfl (ae_42 _) (aq_42 _) (pa_42 _ _ _) g1) <| Eq.trans (e_iload_n D94_35 rfl rfl) <| e_callV D94_36 rfl o_94 m_11_321 (by decide) rfl rfl
theorem b94_39 {d : Nat} {i0 : Nat} {x1 x2 x3 xs0 : Int} {I L : Nat → Nat → Nat → Int} {t : Nat → Nat} (g1 : 0 ≤ x2 ∧ x2 < 120) : Res (d + 1) 94 39 [vr 11 i0, vi x1, vi x2, vi x3, vx, vx, vx, vx, vx, vx, vx, vx] [vi xs0] (mk I L t) = (Cal d 31 [vr 5 (t 10), vr 22 x2.toNat] (mk I L t)).bind fun v => Res (d + 1) 94 60 [vr 11 i0, vi x1, vi x2, vi x3, vi xs0, vx, vx, vx, vx, vx, vx, vx] (psh 31 v.1 []) v.2 :=
  Eq.trans (e_istore (ls1 := [vr 11 i0, vi x1, vi x2, vi x3, vi xs0, vx, vx, vx, vx, vx, vx, vx]) D94_39 rfl (show 4 < 12 by decide) rfl) <| Eq.trans (e_aload_n D94_41 rfl rfl) <| Eq.trans (e_getP (p := (8, 0)) D94_42 rfl o_94 f_11_29 (sh_11 _) (by decide) (pp_11_3 _ _)) <| Eq.trans (e_getP (p := (5, t 10)) D94_45 rfl o_94 f_11_304 (sh_8 _) (by decide) (pp_8_3 _)) <| Eq.trans (e_aload_n D94_48 rfl rfl) <| Eq.trans (e_getP (p := (40, i0)) D94_49 rfl o_94 f_11_11 (sh_11 _) (by decide) (pp_11_0 _ _)) <| Eq.trans (e_iload_n D94_52 rfl rfl) <| Eq.trans (e_aald (p := (1, x2.toNat)) D94_53 rfl (ae_40 _) (aq_40 _) (pa_40 _ _ _) g1) <| Eq.trans (e_getP (p := (22, x2.toNat)) D94_54 rfl o_94 f_11_98 (sh_1 _) (by decide) (pp_1_0 _ _)) <| e_callV D94_57 rfl o_94 m_11_308 (by decide) rfl rfl
theorem b94_60 {d : Nat} {i0 : Nat} {x1 x2 x3 x4 xs0 : Int} {I L : Nat → Nat → Nat → Int} {t : Nat → Nat} : Res d 94 60 [vr 11 i0, vi x1, vi x2, vi x3, vi x4, vx, vx, vx, vx, vx, vx, vx] [vi xs0] (mk I L t) = Res d 94 74 [vr 11 i0, vi x1, vi x2, vi x3, vi x4, vi xs0, vi (-1), vi 0, vi 0, vi 1, vx, vx] [] (mk I L t) :=
  Eq.trans (e_istore (ls1 := [vr 11 i0, vi x1, vi x2, vi x3, vi x4, vi xs0, vx, vx, vx, vx, vx, vx]) D94_60 rfl (show 5 < 12 by decide) rfl) <| Eq.trans (e_iconst (x := -1) D94_62 rfl rfl) <| Eq.trans (e_istore (ls1 := [vr 11 i0, vi x1, vi x2, vi x3, vi x4, vi xs0, vi (-1), vx, vx, vx, vx, vx]) D94_63 rfl (show 6 < 12 by decide) rfl) <| Eq.trans (e_iconst (x := 0) D94_65 rfl rfl) <| Eq.trans (e_istore (ls1 := [vr 11 i0, vi x1, vi x2, vi x3, vi x4, vi xs0, vi (-1), vi 0, vx, vx, vx, vx]) D94_66 rfl (show 7 < 12 by decide) rfl) <| Eq.trans (e_iconst (x := 0) D94_68 rfl rfl) <| Eq.trans (e_istore (ls1 := [vr 11 i0, vi x1, vi x2, vi x3, vi x4, vi xs0, vi (-1), vi 0, vi 0, vx, vx, vx]) D94_69 rfl (show 8 < 12 by decide) rfl) <| Eq.trans (e_iconst (x := 1) D94_71 rfl rfl) <| e_istore (ls1 := [vr 11 i0, vi x1, vi x2, vi x3, vi x4, vi xs0, vi (-1), vi 0, vi 0, vi 1, vx, vx]) D94_72 rfl (show 9 < 12 by decide) rfl
theorem b94_74 {d : Nat} {i0 : Nat} {x1 x2 x3 x4 x5 x6 x7 x8 x9 : Int} {u10 u11 : MV} {I L : Nat → Nat → Nat → Int} {t : Nat → Nat} : Res d 94 74 [vr 11 i0, vi x1, vi x2, vi x3, vi x4, vi x5, vi x6, vi x7, vi x8, vi x9, u10, u11] [] (mk I L t) = if 512 ≤ x9 then Res d 94 173 [vr 11 i0, vi x1, vi x2, vi x3, vi x4, vi x5, vi x6, vi x7, vi x8, vi x9, u10, u11] [] (mk I L t) else Res d 94 82 [vr 11 i0, vi x1, vi x2, vi x3, vi x4, vi x5, vi x6, vi x7, vi x8, vi x9, u10, u11] [] (mk I L t) :=
  Eq.trans (e_iload D94_74 rfl rfl) <| Eq.trans (e_sipush (x := 512) D94_76 rfl rfl) <| e_icge D94_79 rfl rfl
theorem b94_82 {d : Nat} {i0 : Nat} {x1 x2 x3 x4 x5 x6 x7 x8 x9 : Int} {u10 u11 : MV} {I L : Nat → Nat → Nat → Int} {t : Nat → Nat} : Res (d + 1) 94 82 [vr 11 i0, vi x1, vi x2, vi x3, vi x4, vi x5, vi x6, vi x7, vi x8, vi x9, u10, u11] [] (mk I L t) = (Cal d 244 [vi x9] (mk I L t)).bind fun v => Res (d + 1) 94 87 [vr 11 i0, vi x1, vi x2, vi x3, vi x4, vi x5, vi x6, vi x7, vi x8, vi x9, u10, u11] (psh 244 v.1 []) v.2 :=
  Eq.trans (e_iload D94_82 rfl rfl) <| e_callS D94_84 rfl o_94 m_11_324 (by decide) rfl rfl
theorem b94_87 {d : Nat} {i0 : Nat} {x1 x2 x3 x4 x5 x6 x7 x8 x9 xs0 : Int} {u10 u11 : MV} {I L : Nat → Nat → Nat → Int} {t : Nat → Nat} : Res d 94 87 [vr 11 i0, vi x1, vi x2, vi x3, vi x4, vi x5, vi x6, vi x7, vi x8, vi x9, u10, u11] [vi xs0] (mk I L t) = if ¬ xs0 = x3 then Res d 94 167 [vr 11 i0, vi x1, vi x2, vi x3, vi x4, vi x5, vi x6, vi x7, vi x8, vi x9, u10, u11] [] (mk I L t) else Res d 94 91 [vr 11 i0, vi x1, vi x2, vi x3, vi x4, vi x5, vi x6, vi x7, vi x8, vi x9, u10, u11] [] (mk I L t) :=
  Eq.trans (e_iload_n D94_87 rfl rfl) <| e_icne D94_88 rfl rfl
theorem b94_91 {d : Nat} {i0 : Nat} {x1 x2 x3 x4 x5 x6 x7 x8 x9 : Int} {u10 u11 : MV} {I L : Nat → Nat → Nat → Int} {t : Nat → Nat} : Res d 94 91 [vr 11 i0, vi x1, vi x2, vi x3, vi x4, vi x5, vi x6, vi x7, vi x8, vi x9, u10, u11] [] (mk I L t) = if vIand x9 (vIxor x4 (-1)) = 0 then Res d 94 104 [vr 11 i0, vi x1, vi x2, vi x3, vi x4, vi x5, vi x6, vi x7, vi x8, vi x9, u10, u11] [] (mk I L t) else Res d 94 101 [vr 11 i0, vi x1, vi x2, vi x3, vi x4, vi x5, vi x6, vi x7, vi x8, vi x9, u10, u11] [] (mk I L t) :=
  Eq.trans (e_iload D94_91 rfl rfl) <| Eq.trans (e_iload D94_93 rfl rfl) <| Eq.trans (e_iconst (x := -1) D94_95 rfl rfl) <| Eq.trans (e_ixor D94_96 rfl) <| Eq.trans (e_iand D94_97 rfl) <| e_ifeq D94_98 rfl rfl
theorem b94_101 {d : Nat} {i0 : Nat} {x1 x2 x3 x4 x5 x6 x7 x8 x9 : Int} {u10 u11 : MV} {I L : Nat → Nat → Nat → Int} {t : Nat → Nat} : Res d 94 101 [vr 11 i0, vi x1, vi x2, vi x3, vi x4, vi x5, vi x6, vi x7, vi x8, vi x9, u10, u11] [] (mk I L t) = Res d 94 167 [vr 11 i0, vi x1, vi x2, vi x3, vi x4, vi x5, vi x6, vi x7, vi x8, vi x9, u10, u11] [] (mk I L t) :=
  e_goto (q1 := 167) D94_101 rfl
theorem b94_104 {d : Nat} {i0 : Nat} {x1 x2 x3 x4 x5 x6 x7 x8 x9 : Int} {u10 u11 : MV} {I L : Nat → Nat → Nat → Int} {t : Nat → Nat} : Res (d + 1) 94 104 [vr 11 i0, vi x1, vi x2, vi x3, vi x4, vi x5, vi x6, vi x7, vi x8, vi x9, u10, u11] [] (mk I L t) = (Cal d 4 [vr 0 0, vi x9, vi x5] (mk I L t)).bind fun v => Res (d + 1) 94 115 [vr 11 i0, vi x1, vi x2, vi x3, vi x4, vi x5, vi x6, vi x7, vi x8, vi x9, u10, u11] (psh 4 v.1 []) v.2 :=
  Eq.trans (e_aload_n D94_104 rfl rfl) <| Eq.trans (e_getP (p := (0, 0)) D94_105 rfl o_94 f_11_61 (sh_11 _) (by decide) (pp_11_9 _ _)) <| Eq.trans (e_iload D94_108 rfl rfl) <| Eq.trans (e_iload D94_110 rfl rfl) <| e_callV D94_112 rfl o_94 m_11_329 (by decide) rfl rfl
theorem b94_115 {d : Nat} {i0 : Nat} {x1 x2 x3 x4 x5 x6 x7 x8 x9 xs0 : Int} {u10 u11 : MV} {I L : Nat → Nat → Nat → Int} {t : Nat → Nat} : Res (d + 1) 94 115 [vr 11 i0, vi x1, vi x2, vi x3, vi x4, vi x5, vi x6, vi x7, vi x8, vi x9, u10, u11] [vi xs0] (mk I L t) = (Cal d 5 [vr 0 0, vi x9] (mk I L t)).bind fun v => Res (d + 1) 94 126 [vr 11 i0, vi x1, vi x2, vi x3, vi x4, vi x5, vi x6, vi x7, vi x8, vi x9, vi xs0, u11] (psh 5 v.1 []) v.2 :=
  Eq.trans (e_istore (ls1 := [vr 11 i0, vi x1, vi x2, vi x3, vi x4, vi x5, vi x6, vi x7, vi x8, vi x9, vi xs0, u11]) D94_115 rfl (show 10 < 12 by decide) rfl) <| Eq.trans (e_aload_n D94_117 rfl rfl) <| Eq.trans (e_getP (p := (0, 0)) D94_118 rfl o_94 f_11_61 (sh_11 _) (by decide) (pp_11_9 _ _)) <| Eq.trans (e_iload D94_121 rfl rfl) <| e_callV D94_123 rfl o_94 m_11_332 (by decide) rfl rfl
theorem b94_126 {d : Nat} {i0 : Nat} {x1 x2 x3 x4 x5 x6 x7 x8 x9 x10 xs0 : Int} {u11 : MV} {I L : Nat → Nat → Nat → Int} {t : Nat → Nat} : Res d 94 126 [vr 11 i0, vi x1, vi x2, vi x3, vi x4, vi x5, vi x6, vi x7, vi x8, vi x9, vi x10, u11] [vi xs0] (mk I L t) = if x6 = -1 then Res d 94 155 [vr 11 i0, vi x1, vi x2, vi x3, vi x4, vi x5, vi x6, vi x7, vi x8, vi x9, vi x10, vi xs0] [] (mk I L t) else Res d 94 134 [vr 11 i0, vi x1, vi x2, vi x3, vi x4, vi x5, vi x6, vi x7, vi x8, vi x9, vi x10, vi xs0] [] (mk I L t) :=
  Eq.trans (e_istore (ls1 := [vr 11 i0, vi x1, vi x2, vi x3, vi x4, vi x5, vi x6, vi x7, vi x8, vi x9, vi x10, vi xs0]) D94_126 rfl (show 11 < 12 by decide) rfl) <| Eq.trans (e_iload D94_128 rfl rfl) <| Eq.trans (e_iconst (x := -1) D94_130 rfl rfl) <| e_iceq D94_131 rfl rfl
theorem b94_134 {d : Nat} {i0 : Nat} {x1 x2 x3 x4 x5 x6 x7 x8 x9 x10 x11 : Int} {I L : Nat → Nat → Nat → Int} {t : Nat → Nat} : Res d 94 134 [vr 11 i0, vi x1, vi x2, vi x3, vi x4, vi x5, vi x6, vi x7, vi x8, vi x9, vi x10, vi x11] [] (mk I L t) = if x10 < x7 then Res d 94 155 [vr 11 i0, vi x1, vi x2, vi x3, vi x4, vi x5, vi x6, vi x7, vi x8, vi x9, vi x10, vi x11] [] (mk I L t) else Res d 94 141 [vr 11 i0, vi x1, vi x2, vi x3, vi x4, vi x5, vi x6, vi x7, vi x8, vi x9, vi x10, vi x11] [] (mk I L t) :=
  Eq.trans (e_iload D94_134 rfl rfl) <| Eq.trans (e_iload D94_136 rfl rfl) <| e_iclt D94_138 rfl rfl
theorem b94_141 {d : Nat} {i0 : Nat} {x1 x2 x3 x4 x5 x6 x7 x8 x9 x10 x11 : Int} {I L : Nat → Nat → Nat → Int} {t : Nat → Nat} : Res d 94 141 [vr 11 i0, vi x1, vi x2, vi x3, vi x4, vi x5, vi x6, vi x7, vi x8, vi x9, vi x10, vi x11] [] (mk I L t) = if ¬ x10 = x7 then Res d 94 167 [vr 11 i0, vi x1, vi x2, vi x3, vi x4, vi x5, vi x6, vi x7, vi x8, vi x9, vi x10, vi x11] [] (mk I L t) else Res d 94 148 [vr 11 i0, vi x1, vi x2, vi x3, vi x4, vi x5, vi x6, vi x7, vi x8, vi x9, vi x10, vi x11] [] (mk I L t) :=
  Eq.trans (e_iload D94_141 rfl rfl) <| Eq.trans (e_iload D94_143 rfl rfl) <| e_icne D94_145 rfl rfl
theorem b94_148 {d : Nat} {i0 : Nat} {x1 x2 x3 x4 x5 x6 x7 x8 x9 x10 x11 : Int} {I L : Nat → Nat → Nat → Int} {t : Nat → Nat} : Res d 94 148 [vr 11 i0, vi x1, vi x2, vi x3, vi x4, vi x5, vi x6, vi x7, vi x8, vi x9, vi x10, vi x11] [] (mk I L t) = if x8 ≤ x11 then Res d 94 167 [vr 11 i0, vi x1, vi x2, vi x3, vi x4, vi x5, vi x6, vi x7, vi x8, vi x9, vi x10, vi x11] [] (mk I L t) else Res d 94 155 [vr 11 i0, vi x1, vi x2, vi x3, vi x4, vi x5, vi x6, vi x7, vi x8, vi x9, vi x10, vi x11] [] (mk I L t) :=
  Eq.trans (e_iload D94_148 rfl rfl) <| Eq.trans (e_iload D94_150 rfl rfl) <| e_icge D94_152 rfl rfl
theorem b94_155 {d : Nat} {i0 : Nat} {x1 x2 x3 x4 x5 x6 x7 x8 x9 x10 x11 : Int} {I L : Nat → Nat → Nat → Int} {t : Nat → Nat} : Res d 94 155 [vr 11 i0, vi x1, vi x2, vi x3, vi x4, vi x5, vi x6, vi x7, vi x8, vi x9, vi x10, vi x11] [] (mk I L t) = Res d 94 167 [vr 11 i0, vi x1, vi x2, vi x3, vi x4, vi x5, vi x9, vi x10, vi x11, vi x9, vi x10, vi x11] [] (mk I L t) :=
  Eq.trans (e_iload D94_155 rfl rfl) <| Eq.trans (e_istore (ls1 := [vr 11 i0, vi x1, vi x2, vi x3, vi x4, vi x5, vi x9, vi x7, vi x8, vi x9, vi x10, vi x11]) D94_157 rfl (show 6 < 12 by decide) rfl) <| Eq.trans (e_iload D94_159 rfl rfl) <| Eq.trans (e_istore (ls1 := [vr 11 i0, vi x1, vi x2, vi x3, vi x4, vi x5, vi x9, vi x10, vi x8, vi x9, vi x10, vi x11]) D94_161 rfl (show 7 < 12 by decide) rfl) <| Eq.trans (e_iload D94_163 rfl rfl) <| e_istore (ls1 := [vr 11 i0, vi x1, vi x2, vi x3, vi x4, vi x5, vi x9, vi x10, vi x11, vi x9, vi x10, vi x11]) D94_165 rfl (show 8 < 12 by decide) rfl
theorem b94_167 {d : Nat} {i0 : Nat} {x1 x2 x3 x4 x5 x6 x7 x8 x9 : Int} {u10 u11 : MV} {I L : Nat → Nat → Nat → Int} {t : Nat → Nat} : Res d 94 167 [vr 11 i0, vi x1, vi x2, vi x3, vi x4, vi x5, vi x6, vi x7, vi x8, vi x9, u10, u11] [] (mk I L t) = Res d 94 74 [vr 11 i0, vi x1, vi x2, vi x3, vi x4, vi x5, vi x6, vi x7, vi x8, vi (w32 (x9 + 1)), u10, u11] [] (mk I L t) :=
  Eq.trans (e_iinc (ls1 := [vr 11 i0, vi x1, vi x2, vi x3, vi x4, vi x5, vi x6, vi x7, vi x8, vi (w32 (x9 + 1)), u10, u11]) D94_167 rfl rfl rfl) <| e_goto (q1 := 74) D94_170 rfl
theorem b94_173 {d : Nat} {i0 : Nat} {x1 x2 x3 x4 x5 x6 x7 x8 x9 : Int} {u10 u11 : MV} {I L : Nat → Nat → Nat → Int} {t : Nat → Nat} : Res d 94 173 [vr 11 i0, vi x1, vi x2, vi x3, vi x4, vi x5, vi x6, vi x7, vi x8, vi x9, u10, u11] [] (mk I L t) = some (vi x6, (mk I L t)) :=
  Eq.trans (e_iload D94_173 rfl rfl) <| e_iret D94_175 rfl
/-! x_world -/
theorem cc_95 : cod 95 = cX11_world := rfl
theorem D95_0 : decode (cod 95) 0 = .ok (.aload_n 0, 1) := by rw [cc_95]; decide +kernel
theorem D95_1 : decode (cod 95) 1 = .ok (.iload_n 1, 1) := by rw [cc_95]; decide +kernel
theorem D95_2 : decode (cod 95) 2 = .ok (.iload_n 2, 1) := by rw [cc_95]; decide +kernel
theorem D95_3 : decode (cod 95) 3 = .ok (.iload_n 3, 1) := by rw [cc_95]; decide +kernel
theorem D95_4 : decode (cod 95) 4 = .ok (.iload 4, 2) := by rw [cc_95]; decide +kernel
theorem D95_6 : decode (cod 95) 6 = .ok (.iload 5, 2) := by rw [cc_95]; decide +kernel
theorem D95_8 : decode (cod 95) 8 = .ok (.iload 6, 2) := by rw [cc_95]; decide +kernel
theorem D95_10 : decode (cod 95) 10 = .ok (.invokevirtual 147, 3) := by rw [cc_95]; decide +kernel
theorem D95_13 : decode (cod 95) 13 = .ok (.ifCond .eq 23, 3) := by rw [cc_95]; decide +kernel
theorem D95_16 : decode (cod 95) 16 = .ok (.iload 7, 2) := by rw [cc_95]; decide +kernel
theorem D95_18 : decode (cod 95) 18 = .ok (.iconst 0, 1) := by rw [cc_95]; decide +kernel
theorem D95_19 : decode (cod 95) 19 = .ok (.bipush 60, 2) := by rw [cc_95]; decide +kernel
theorem D95_21 : decode (cod 95) 21 = .ok (.invokestatic 76, 3) := by rw [cc_95]; decide +kernel
theorem D95_24 : decode (cod 95) 24 = .ok (.ifCond .eq 12, 3) := by rw [cc_95]; decide +kernel
theorem D95_27 : decode (cod 95) 27 = .ok (.aload_n 0, 1) := by rw [cc_95]; decide +kernel
theorem D95_28 : decode (cod 95) 28 = .ok (.getfield 335, 3) := by rw [cc_95]; decide +kernel
theorem D95_31 : decode (cod 95) 31 = .ok (.bipush 40, 2) := by rw [cc_95]; decide +kernel
theorem D95_33 : decode (cod 95) 33 = .ok (.if_icmp .lt 5, 3) := by rw [cc_95]; decide +kernel
theorem D95_36 : decode (cod 95) 36 = .ok (.iconst (-1), 1) := by rw [cc_95]; decide +kernel
theorem D95_37 : decode (cod 95) 37 = .ok (.ireturn, 1) := by rw [cc_95]; decide +kernel
theorem D95_38 : decode (cod 95) 38 = .ok (.aload_n 0, 1) := by rw [cc_95]; decide +kernel
theorem D95_39 : decode (cod 95) 39 = .ok (.iload 8, 2) := by rw [cc_95]; decide +kernel
theorem D95_41 : decode (cod 95) 41 = .ok (.invokevirtual 107, 3) := by rw [cc_95]; decide +kernel
theorem D95_44 : decode (cod 95) 44 = .ok (.ifCond .eq 19, 3) := by rw [cc_95]; decide +kernel
theorem D95_47 : decode (cod 95) 47 = .ok (.aload_n 0, 1) := by rw [cc_95]; decide +kernel
theorem D95_48 : decode (cod 95) 48 = .ok (.getfield 22, 3) := by rw [cc_95]; decide +kernel
theorem D95_51 : decode (cod 95) 51 = .ok (.iload 8, 2) := by rw [cc_95]; decide +kernel
theorem D95_53 : decode (cod 95) 53 = .ok (.aaload, 1) := by rw [cc_95]; decide +kernel
theorem D95_54 : decode (cod 95) 54 = .ok (.iload 9, 2) := by rw [cc_95]; decide +kernel
theorem D95_56 : decode (cod 95) 56 = .ok (.invokevirtual 247, 3) := by rw [cc_95]; decide +kernel
theorem D95_59 : decode (cod 95) 59 = .ok (.iconst (-1), 1) := by rw [cc_95]; decide +kernel
theorem D95_60 : decode (cod 95) 60 = .ok (.if_icmp .ne 5, 3) := by rw [cc_95]; decide +kernel
theorem D95_63 : decode (cod 95) 63 = .ok (.iconst (-1), 1) := by rw [cc_95]; decide +kernel
theorem D95_64 : decode (cod 95) 64 = .ok (.ireturn, 1) := by rw [cc_95]; decide +kernel
theorem D95_65 : decode (cod 95) 65 = .ok (.aload_n 0, 1) := by rw [cc_95]; decide +kernel
theorem D95_66 : decode (cod 95) 66 = .ok (.getfield 47, 3) := by rw [cc_95]; decide +kernel
theorem D95_69 : decode (cod 95) 69 = .ok (.aload_n 0, 1) := by rw [cc_95]; decide +kernel
theorem D95_70 : decode (cod 95) 70 = .ok (.getfield 335, 3) := by rw [cc_95]; decide +kernel
theorem D95_73 : decode (cod 95) 73 = .ok (.aaload, 1) := by rw [cc_95]; decide +kernel
theorem D95_74 : decode (cod 95) 74 = .ok (.astore 10, 2) := by rw [cc_95]; decide +kernel
theorem D95_76 : decode (cod 95) 76 = .ok (.aload 10, 2) := by rw [cc_95]; decide +kernel
theorem D95_78 : decode (cod 95) 78 = .ok (.getfield 338, 3) := by rw [cc_95]; decide +kernel
theorem D95_81 : decode (cod 95) 81 = .ok (.iload_n 1, 1) := by rw [cc_95]; decide +kernel
theorem D95_82 : decode (cod 95) 82 = .ok (.iload_n 2, 1) := by rw [cc_95]; decide +kernel
theorem D95_83 : decode (cod 95) 83 = .ok (.iload_n 3, 1) := by rw [cc_95]; decide +kernel
theorem D95_84 : decode (cod 95) 84 = .ok (.iload 4, 2) := by rw [cc_95]; decide +kernel
theorem D95_86 : decode (cod 95) 86 = .ok (.iload 5, 2) := by rw [cc_95]; decide +kernel
theorem D95_88 : decode (cod 95) 88 = .ok (.iload 6, 2) := by rw [cc_95]; decide +kernel
theorem D95_90 : decode (cod 95) 90 = .ok (.invokevirtual 151, 3) := by rw [cc_95]; decide +kernel
theorem D95_93 : decode (cod 95) 93 = .ok (.aload 10, 2) := by rw [cc_95]; decide +kernel
theorem D95_95 : decode (cod 95) 95 = .ok (.iload 7, 2) := by rw [cc_95]; decide +kernel
theorem D95_97 : decode (cod 95) 97 = .ok (.putfield 342, 3) := by rw [cc_95]; decide +kernel
theorem D95_100 : decode (cod 95) 100 = .ok (.aload 10, 2) := by rw [cc_95]; decide +kernel
theorem D95_102 : decode (cod 95) 102 = .ok (.getfield 345, 3) := by rw [cc_95]; decide +kernel
theorem D95_105 : decode (cod 95) 105 = .ok (.aload_n 0, 1) := by rw [cc_95]; decide +kernel
theorem D95_106 : decode (cod 95) 106 = .ok (.getfield 22, 3) := by rw [cc_95]; decide +kernel
theorem D95_109 : decode (cod 95) 109 = .ok (.iload 8, 2) := by rw [cc_95]; decide +kernel
theorem D95_111 : decode (cod 95) 111 = .ok (.aaload, 1) := by rw [cc_95]; decide +kernel
theorem D95_112 : decode (cod 95) 112 = .ok (.invokevirtual 210, 3) := by rw [cc_95]; decide +kernel
theorem D95_115 : decode (cod 95) 115 = .ok (.aload 10, 2) := by rw [cc_95]; decide +kernel
theorem D95_117 : decode (cod 95) 117 = .ok (.iload 9, 2) := by rw [cc_95]; decide +kernel
theorem D95_119 : decode (cod 95) 119 = .ok (.putfield 346, 3) := by rw [cc_95]; decide +kernel
theorem D95_122 : decode (cod 95) 122 = .ok (.aload_n 0, 1) := by rw [cc_95]; decide +kernel
theorem D95_123 : decode (cod 95) 123 = .ok (.dup, 1) := by rw [cc_95]; decide +kernel
theorem D95_124 : decode (cod 95) 124 = .ok (.getfield 335, 3) := by rw [cc_95]; decide +kernel
theorem D95_127 : decode (cod 95) 127 = .ok (.iconst 1, 1) := by rw [cc_95]; decide +kernel
theorem D95_128 : decode (cod 95) 128 = .ok (.iadd, 1) := by rw [cc_95]; decide +kernel
theorem D95_129 : decode (cod 95) 129 = .ok (.putfield 335, 3) := by rw [cc_95]; decide +kernel
theorem D95_132 : decode (cod 95) 132 = .ok (.aload_n 0, 1) := by rw [cc_95]; decide +kernel
theorem D95_133 : decode (cod 95) 133 = .ok (.getfield 335, 3) := by rw [cc_95]; decide +kernel
theorem D95_136 : decode (cod 95) 136 = .ok (.iconst 1, 1) := by rw [cc_95]; decide +kernel
theorem D95_137 : decode (cod 95) 137 = .ok (.isub, 1) := by rw [cc_95]; decide +kernel
theorem D95_138 : decode (cod 95) 138 = .ok (.ireturn, 1) := by rw [cc_95]; decide +kernel
theorem b95_0 {d : Nat} {i0 : Nat} {x1 x2 x3 x4 x5 x6 x7 x8 x9 : Int} {I L : Nat → Nat → Nat → Int} {t : Nat → Nat} : Res (d + 1) 95 0 [vr 11 i0, vi x1, vi x2, vi x3, vi x4, vi x5, vi x6, vi x7, vi x8, vi x9, vx] [] (mk I L t) = (Cal d 109 [vr 11 i0, vi x1, vi x2, vi x3, vi x4, vi x5, vi x6] (mk I L t)).bind fun v => Res (d + 1) 95 13 [vr 11 i0, vi x1, vi x2, vi x3, vi x4, vi x5, vi x6, vi x7, vi x8, vi x9, vx] (psh 109 v.1 []) v.2 :=
  Eq.trans (e_aload_n D95_0 rfl rfl) <| Eq.trans (e_iload_n D95_1 rfl rfl) <| Eq.trans (e_iload_n D95_2 rfl rfl) <| Eq.trans (e_iload_n D95_3 rfl rfl) <| Eq.trans (e_iload D95_4 rfl rfl) <| Eq.trans (e_iload D95_6 rfl rfl) <| Eq.trans (e_iload D95_8 rfl rfl) <| e_callV D95_10 rfl o_95 m_11_147 (by decide) rfl rfl
theorem b95_13 {d : Nat} {i0 : Nat} {x1 x2 x3 x4 x5 x6 x7 x8 x9 xs0 : Int} {I L : Nat → Nat → Nat → Int} {t : Nat → Nat} : Res d 95 13 [vr 11 i0, vi x1, vi x2, vi x3, vi x4, vi x5, vi x6, vi x7, vi x8, vi x9, vx] [vi xs0] (mk I L t) = if xs0 = 0 then Res d 95 36 [vr 11 i0, vi x1, vi x2, vi x3, vi x4, vi x5, vi x6, vi x7, vi x8, vi x9, vx] [] (mk I L t) else Res d 95 16 [vr 11 i0, vi x1, vi x2, vi x3, vi x4, vi x5, vi x6, vi x7, vi x8, vi x9, vx] [] (mk I L t) :=
  e_ifeq D95_13 rfl rfl
theorem b95_16 {d : Nat} {i0 : Nat} {x1 x2 x3 x4 x5 x6 x7 x8 x9 : Int} {I L : Nat → Nat → Nat → Int} {t : Nat → Nat} : Res (d + 1) 95 16 [vr 11 i0, vi x1, vi x2, vi x3, vi x4, vi x5, vi x6, vi x7, vi x8, vi x9, vx] [] (mk I L t) = (Cal d 102 [vi x7, vi 0, vi 60] (mk I L t)).bind fun v => Res (d + 1) 95 24 [vr 11 i0, vi x1, vi x2, vi x3, vi x4, vi x5, vi x6, vi x7, vi x8, vi x9, vx] (psh 102 v.1 []) v.2 :=
  Eq.trans (e_iload D95_16 rfl rfl) <| Eq.trans (e_iconst (x := 0) D95_18 rfl rfl) <| Eq.trans (e_bipush (x := 60) D95_19 rfl rfl) <| e_callS D95_21 rfl o_95 m_11_76 (by decide) rfl rfl
theorem b95_24 {d : Nat} {i0 : Nat} {x1 x2 x3 x4 x5 x6 x7 x8 x9 xs0 : Int} {I L : Nat → Nat → Nat → Int} {t : Nat → Nat} : Res d 95 24 [vr 11 i0, vi x1, vi x2, vi x3, vi x4, vi x5, vi x6, vi x7, vi x8, vi x9, vx] [vi xs0] (mk I L t) = if xs0 = 0 then Res d 95 36 [vr 11 i0, vi x1, vi x2, vi x3, vi x4, vi x5, vi x6, vi x7, vi x8, vi x9, vx] [] (mk I L t) else Res d 95 27 [vr 11 i0, vi x1, vi x2, vi x3, vi x4, vi x5, vi x6, vi x7, vi x8, vi x9, vx] [] (mk I L t) :=
  e_ifeq D95_24 rfl rfl
theorem b95_27 {d : Nat} {i0 : Nat} {x1 x2 x3 x4 x5 x6 x7 x8 x9 : Int} {I L : Nat → Nat → Nat → Int} {t : Nat → Nat} : Res d 95 27 [vr 11 i0, vi x1, vi x2, vi x3, vi x4, vi x5, vi x6, vi x7, vi x8, vi x9, vx] [] (mk I L t) = if I 11 i0 14 < 40 then Res d 95 38 [vr 11 i0, vi x1, vi x2, vi x3, vi x4, vi x5, vi x6, vi x7, vi x8, vi x9, vx] [] (mk I L t) else Res d 95 36 [vr 11 i0, vi x1, vi x2, vi x3, vi x4, vi x5, vi x6, vi x7, vi x8, vi x9, vx] [] (mk I L t) :=
  Eq.trans (e_aload_n D95_27 rfl rfl) <| Eq.trans (e_getI D95_28 rfl o_95 f_11_335 (sh_11 _) (by decide)) <| Eq.trans (e_bipush (x := 40) D95_31 rfl rfl) <| e_iclt D95_33 rfl rfl
theorem b95_36 {d : Nat} {i0 : Nat} {x1 x2 x3 x4 x5 x6 x7 x8 x9 : Int} {I L : Nat → Nat → Nat → Int} {t : Nat → Nat} : Res d 95 36 [vr 11 i0, vi x1, vi x2, vi x3, vi x4, vi x5, vi x6, vi x7, vi x8, vi x9, vx] [] (mk I L t) = some (vi (-1), (mk I L t)) :=
  Eq.trans (e_iconst (x := -1) D95_36 rfl rfl) <| e_iret D95_37 rfl
theorem b95_38 {d : Nat} {i0 : Nat} {x1 x2 x3 x4 x5 x6 x7 x8 x9 : Int} {I L : Nat → Nat → Nat → Int} {t : Nat → Nat} : Res (d + 1) 95 38 [vr 11 i0, vi x1, vi x2, vi x3, vi x4, vi x5, vi x6, vi x7, vi x8, vi x9, vx] [] (mk I L t) = (Cal d 105 [vr 11 i0, vi x8] (mk I L t)).bind fun v => Res (d + 1) 95 44 [vr 11 i0, vi x1, vi x2, vi x3, vi x4, vi x5, vi x6, vi x7, vi x8, vi x9, vx] (psh 105 v.1 []) v.2 :=
  Eq.trans (e_aload_n D95_38 rfl rfl) <| Eq.trans (e_iload D95_39 rfl rfl) <| e_callV D95_41 rfl o_95 m_11_107 (by decide) rfl rfl
theorem b95_44 {d : Nat} {i0 : Nat} {x1 x2 x3 x4 x5 x6 x7 x8 x9 xs0 : Int} {I L : Nat → Nat → Nat → Int} {t : Nat → Nat} : Res d 95 44 [vr 11 i0, vi x1, vi x2, vi x3, vi x4, vi x5, vi x6, vi x7, vi x8, vi x9, vx] [vi xs0] (mk I L t) = if xs0 = 0 then Res d 95 63 [vr 11 i0, vi x1, vi x2, vi x3, vi x4, vi x5, vi x6, vi x7, vi x8, vi x9, vx] [] (mk I L t) else Res d 95 47 [vr 11 i0, vi x1, vi x2, vi x3, vi x4, vi x5, vi x6, vi x7, vi x8, vi x9, vx] [] (mk I L t) :=
  e_ifeq D95_44 rfl rfl
theorem b95_47 {d : Nat} {i0 : Nat} {x1 x2 x3 x4 x5 x6 x7 x8 x9 : Int} {I L : Nat → Nat → Nat → Int} {t : Nat → Nat} (g1 : 0 ≤ x8 ∧ x8 < 6) : Res (d + 1) 95 47 [vr 11 i0, vi x1, vi x2, vi x3, vi x4, vi x5, vi x6, vi x7, vi x8, vi x9, vx] [] (mk I L t) = (Cal d 26 [vr 4 x8.toNat, vi x9] (mk I L t)).bind fun v => Res (d + 1) 95 59 [vr 11 i0, vi x1, vi x2, vi x3, vi x4, vi x5, vi x6, vi x7, vi x8, vi x9, vx] (psh 26 v.1 []) v.2 :=
  Eq.trans (e_aload_n D95_47 rfl rfl) <| Eq.trans (e_getP (p := (42, i0)) D95_48 rfl o_95 f_11_22 (sh_11 _) (by decide) (pp_11_2 _ _)) <| Eq.trans (e_iload D95_51 rfl rfl) <| Eq.trans (e_aald (p := (4, x8.toNat)) D95_53 rfl (ae_42 _) (aq_42 _) (pa_42 _ _ _) g1) <| Eq.trans (e_iload D95_54 rfl rfl) <| e_callV D95_56 rfl o_95 m_11_247 (by decide) rfl rfl
theorem b95_59 {d : Nat} {i0 : Nat} {x1 x2 x3 x4 x5 x6 x7 x8 x9 xs0 : Int} {I L : Nat → Nat → Nat → Int} {t : Nat → Nat} : Res d 95 59 [vr 11 i0, vi x1, vi x2, vi x3, vi x4, vi x5, vi x6, vi x7, vi x8, vi x9, vx] [vi xs0] (mk I L t) = if ¬ xs0 = -1 then Res d 95 65 [vr 11 i0, vi x1, vi x2, vi x3, vi x4, vi x5, vi x6, vi x7, vi x8, vi x9, vx] [] (mk I L t) else Res d 95 63 [vr 11 i0, vi x1, vi x2, vi x3, vi x4, vi x5, vi x6, vi x7, vi x8, vi x9, vx] [] (mk I L t) :=
  Eq.trans (e_iconst (x := -1) D95_59 rfl rfl) <| e_icne D95_60 rfl rfl
theorem b95_63 {d : Nat} {i0 : Nat} {x1 x2 x3 x4 x5 x6 x7 x8 x9 : Int} {I L : Nat → Nat → Nat → Int} {t : Nat → Nat} : Res d 95 63 [vr 11 i0, vi x1, vi x2, vi x3, vi x4, vi x5, vi x6, vi x7, vi x8, vi x9, vx] [] (mk I L t) = some (vi (-1), (mk I L t)) :=
  Eq.trans (e_iconst (x := -1) D95_63 rfl rfl) <| e_iret D95_64 rfl
theorem b95_65 {d : Nat} {i0 : Nat} {x1 x2 x3 x4 x5 x6 x7 x8 x9 : Int} {I L : Nat → Nat → Nat → Int} {t : Nat → Nat} (g1 : 0 ≤ I 11 i0 14 ∧ I 11 i0 14 < 40) : Res (d + 1) 95 65 [vr 11 i0, vi x1, vi x2, vi x3, vi x4, vi x5, vi x6, vi x7, vi x8, vi x9, vx] [] (mk I L t) = (Cal d 21 [vr 3 (20 + ((I 11 i0 14).toNat)), vi x1, vi x2, vi x3, vi x4, vi x5, vi x6] (mk I L t)).bind fun v => Res (d + 1) 95 93 [vr 11 i0, vi x1, vi x2, vi x3, vi x4, vi x5, vi x6, vi x7, vi x8, vi x9, vr 10 ((I 11 i0 14).toNat)] (psh 21 v.1 []) v.2 :=
  Eq.trans (e_aload_n D95_65 rfl rfl) <| Eq.trans (e_getP (p := (45, i0)) D95_66 rfl o_95 f_11_47 (sh_11 _) (by decide) (pp_11_6 _ _)) <| Eq.trans (e_aload_n D95_69 rfl rfl) <| Eq.trans (e_getI D95_70 rfl o_95 f_11_335 (sh_11 _) (by decide)) <| Eq.trans (e_aald (p := (10, (I 11 i0 14).toNat)) D95_73 rfl (ae_45 _) (aq_45 _) (pa_45 _ _ _) g1) <| Eq.trans (e_astore (ls1 := [vr 11 i0, vi x1, vi x2, vi x3, vi x4, vi x5, vi x6, vi x7, vi x8, vi x9, vr 10 ((I 11 i0 14).toNat)]) D95_74 rfl (show 10 < 11 by decide) rfl) <| Eq.trans (e_aload D95_76 rfl rfl) <| Eq.trans (e_getP (p := (3, 20 + ((I 11 i0 14).toNat))) D95_78 rfl o_95 f_11_338 (sh_10 _) (by decide) (pp_10_0 _ _)) <| Eq.trans (e_iload_n D95_81 rfl rfl) <| Eq.trans (e_iload_n D95_82 rfl rfl) <| Eq.trans (e_iload_n D95_83 rfl rfl) <| Eq.trans (e_iload D95_84 rfl rfl) <| Eq.trans (e_iload D95_86 rfl rfl) <| Eq.trans (e_iload D95_88 rfl rfl) <| e_callV D95_90 rfl o_95 m_11_151 (by decide) rfl rfl
theorem b95_93 {d : Nat} {i0 i10 : Nat} {x1 x2 x3 x4 x5 x6 x7 x8 x9 : Int} {I L : Nat → Nat → Nat → Int} {t : Nat → Nat} (g1 : 0 ≤ x8 ∧ x8 < 6) : Res (d + 1) 95 93 [vr 11 i0, vi x1, vi x2, vi x3, vi x4, vi x5, vi x6, vi x7, vi x8, vi x9, vr 10 i10] [] (mk I L t) = (Cal d 28 [vr 4 (106 + i10), vr 4 x8.toNat] (mk (up3 I 10 i10 2 x7) L t)).bind fun v => Res (d + 1) 95 115 [vr 11 i0, vi x1, vi x2, vi x3, vi x4, vi x5, vi x6, vi x7, vi x8, vi x9, vr 10 i10] (psh 28 v.1 []) v.2 :=
  Eq.trans (e_aload D95_93 rfl rfl) <| Eq.trans (e_iload D95_95 rfl rfl) <| Eq.trans (e_putI D95_97 rfl o_95 f_11_342 (sh_10 _) rfl (by decide) (Or.inl (by decide))) <| Eq.trans (e_aload D95_100 rfl rfl) <| Eq.trans (e_getP (p := (4, 106 + i10)) D95_102 rfl o_95 f_11_345 (sh_10 _) (by decide) (pp_10_1 _ _)) <| Eq.trans (e_aload_n D95_105 rfl rfl) <| Eq.trans (e_getP (p := (42, i0)) D95_106 rfl o_95 f_11_22 (sh_11 _) (by decide) (pp_11_2 _ _)) <| Eq.trans (e_iload D95_109 rfl rfl) <| Eq.trans (e_aald (p := (4, x8.toNat)) D95_111 rfl (ae_42 _) (aq_42 _) (pa_42 _ _ _) g1) <| e_callV D95_112 rfl o_95 m_11_210 (by decide) rfl rfl
theorem b95_115 {d : Nat} {i0 i10 : Nat} {x1 x2 x3 x4 x5 x6 x7 x8 x9 : Int} {I L : Nat → Nat → Nat → Int} {t : Nat → Nat} : Res d 95 115 [vr 11 i0, vi x1, vi x2, vi x3, vi x4, vi x5, vi x6, vi x7, vi x8, vi x9, vr 10 i10] [] (mk I L t) = some (vi (w32 (((up3 (up3 I 10 i10 3 x9) 11 i0 14 (w32 (((up3 I 10 i10 3 x9) 11 i0 14) + 1))) 11 i0 14) - 1)), (mk (up3 (up3 I 10 i10 3 x9) 11 i0 14 (w32 (((up3 I 10 i10 3 x9) 11 i0 14) + 1))) L t)) :=
  Eq.trans (e_aload D95_115 rfl rfl) <| Eq.trans (e_iload D95_117 rfl rfl) <| Eq.trans (e_putI D95_119 rfl o_95 f_11_346 (sh_10 _) rfl (by decide) (Or.inl (by decide))) <| Eq.trans (e_aload_n D95_122 rfl rfl) <| Eq.trans (e_dup D95_123 rfl) <| Eq.trans (e_getI D95_124 rfl o_95 f_11_335 (sh_11 _) (by decide)) <| Eq.trans (e_iconst (x := 1) D95_127 rfl rfl) <| Eq.trans (e_iadd D95_128 rfl) <| Eq.trans (e_putI D95_129 rfl o_95 f_11_335 (sh_11 _) rfl (by decide) (Or.inl (by decide))) <| Eq.trans (e_aload_n D95_132 rfl rfl) <| Eq.trans (e_getI D95_133 rfl o_95 f_11_335 (sh_11 _) (by decide)) <| Eq.trans (e_iconst (x := 1) D95_136 rfl rfl) <| Eq.trans (e_isub D95_137 rfl) <| e_iret D95_138 rfl
/-! x_tried -/
theorem cc_96 : cod 96 = cX11_tried := rfl
theorem D96_0 : decode (cod 96) 0 = .ok (.iload_n 1, 1) := by rw [cc_96]; decide +kernel
theorem D96_1 : decode (cod 96) 1 = .ok (.iconst 0, 1) := by rw [cc_96]; decide +kernel
theorem D96_2 : decode (cod 96) 2 = .ok (.aload_n 0, 1) := by rw [cc_96]; decide +kernel
theorem D96_3 : decode (cod 96) 3 = .ok (.getfield 335, 3) := by rw [cc_96]; decide +kernel
theorem D96_6 : decode (cod 96) 6 = .ok (.iconst 1, 1) := by rw [cc_96]; decide +kernel
theorem D96_7 : decode (cod 96) 7 = .ok (.isub, 1) := by rw [cc_96]; decide +kernel
theorem D96_8 : decode (cod 96) 8 = .ok (.invokestatic 76, 3) := by rw [cc_96]; decide +kernel
theorem D96_11 : decode (cod 96) 11 = .ok (.ifCond .eq 21, 3) := by rw [cc_96]; decide +kernel
theorem D96_14 : decode (cod 96) 14 = .ok (.iload_n 2, 1) := by rw [cc_96]; decide +kernel
theorem D96_15 : decode (cod 96) 15 = .ok (.iconst 0, 1) := by rw [cc_96]; decide +kernel
theorem D96_16 : decode (cod 96) 16 = .ok (.iconst 3, 1) := by rw [cc_96]; decide +kernel
theorem D96_17 : decode (cod 96) 17 = .ok (.invokestatic 76, 3) := by rw [cc_96]; decide +kernel
theorem D96_20 : decode (cod 96) 20 = .ok (.ifCond .eq 12, 3) := by rw [cc_96]; decide +kernel
theorem D96_23 : decode (cod 96) 23 = .ok (.iload_n 3, 1) := by rw [cc_96]; decide +kernel
theorem D96_24 : decode (cod 96) 24 = .ok (.iconst 0, 1) := by rw [cc_96]; decide +kernel
theorem D96_25 : decode (cod 96) 25 = .ok (.iconst 3, 1) := by rw [cc_96]; decide +kernel
theorem D96_26 : decode (cod 96) 26 = .ok (.invokestatic 76, 3) := by rw [cc_96]; decide +kernel
theorem D96_29 : decode (cod 96) 29 = .ok (.ifCond .ne 5, 3) := by rw [cc_96]; decide +kernel
theorem D96_32 : decode (cod 96) 32 = .ok (.iconst (-1), 1) := by rw [cc_96]; decide +kernel
theorem D96_33 : decode (cod 96) 33 = .ok (.ireturn, 1) := by rw [cc_96]; decide +kernel
theorem D96_34 : decode (cod 96) 34 = .ok (.aload_n 0, 1) := by rw [cc_96]; decide +kernel
theorem D96_35 : decode (cod 96) 35 = .ok (.aload_n 0, 1) := by rw [cc_96]; decide +kernel
theorem D96_36 : decode (cod 96) 36 = .ok (.getfield 47, 3) := by rw [cc_96]; decide +kernel
theorem D96_39 : decode (cod 96) 39 = .ok (.iload_n 1, 1) := by rw [cc_96]; decide +kernel
theorem D96_40 : decode (cod 96) 40 = .ok (.aaload, 1) := by rw [cc_96]; decide +kernel
theorem D96_41 : decode (cod 96) 41 = .ok (.aload_n 0, 1) := by rw [cc_96]; decide +kernel
theorem D96_42 : decode (cod 96) 42 = .ok (.getfield 29, 3) := by rw [cc_96]; decide +kernel
theorem D96_45 : decode (cod 96) 45 = .ok (.getfield 349, 3) := by rw [cc_96]; decide +kernel
theorem D96_48 : decode (cod 96) 48 = .ok (.iload_n 2, 1) := by rw [cc_96]; decide +kernel
theorem D96_49 : decode (cod 96) 49 = .ok (.aaload, 1) := by rw [cc_96]; decide +kernel
theorem D96_50 : decode (cod 96) 50 = .ok (.invokevirtual 353, 3) := by rw [cc_96]; decide +kernel
theorem D96_53 : decode (cod 96) 53 = .ok (.aload_n 0, 1) := by rw [cc_96]; decide +kernel
theorem D96_54 : decode (cod 96) 54 = .ok (.aload_n 0, 1) := by rw [cc_96]; decide +kernel
theorem D96_55 : decode (cod 96) 55 = .ok (.getfield 47, 3) := by rw [cc_96]; decide +kernel
theorem D96_58 : decode (cod 96) 58 = .ok (.iload_n 1, 1) := by rw [cc_96]; decide +kernel
theorem D96_59 : decode (cod 96) 59 = .ok (.aaload, 1) := by rw [cc_96]; decide +kernel
theorem D96_60 : decode (cod 96) 60 = .ok (.iload_n 3, 1) := by rw [cc_96]; decide +kernel
theorem D96_61 : decode (cod 96) 61 = .ok (.invokevirtual 357, 3) := by rw [cc_96]; decide +kernel
theorem D96_64 : decode (cod 96) 64 = .ok (.ireturn, 1) := by rw [cc_96]; decide +kernel
theorem b96_0 {d : Nat} {i0 : Nat} {x1 x2 x3 : Int} {I L : Nat → Nat → Nat → Int} {t : Nat → Nat} : Res (d + 1) 96 0 [vr 11 i0, vi x1, vi x2, vi x3] [] (mk I L t) = (Cal d 102 [vi x1, vi 0, vi (w32 ((I 11 i0 14) - 1))] (mk I L t)).bind fun v => Res (d + 1) 96 11 [vr 11 i0, vi x1, vi x2, vi x3] (psh 102 v.1 []) v.2 :=
  Eq.trans (e_iload_n D96_0 rfl rfl) <| Eq.trans (e_iconst (x := 0) D96_1 rfl rfl) <| Eq.trans (e_aload_n D96_2 rfl rfl) <| Eq.trans (e_getI D96_3 rfl o_96 f_11_335 (sh_11 _) (by decide)) <| Eq.trans (e_iconst (x := 1) D96_6 rfl rfl) <| Eq.trans (e_isub D96_7 rfl) <| e_callS D96_8 rfl o_96 m_11_76 (by decide) rfl rfl
theorem b96_11 {d : Nat} {i0 : Nat} {x1 x2 x3 xs0 : Int} {I L : Nat → Nat → Nat → Int} {t : Nat → Nat} : Res d 96 11 [vr 11 i0, vi x1, vi x2, vi x3] [vi xs0] (mk I L t) = if xs0 = 0 then Res d 96 32 [vr 11 i0, vi x1, vi x2, vi x3] [] (mk I L t) else Res d 96 14 [vr 11 i0, vi x1, vi x2, vi x3] [] (mk I L t) :=
  e_ifeq D96_11 rfl rfl
theorem b96_14 {d : Nat} {i0 : Nat} {x1 x2 x3 : Int} {I L : Nat → Nat → Nat → Int} {t : Nat → Nat} : Res (d + 1) 96 14 [vr 11 i0, vi x1, vi x2, vi x3] [] (mk I L t) = (Cal d 102 [vi x2, vi 0, vi 3] (mk I L t)).bind fun v => Res (d + 1) 96 20 [vr 11 i0, vi x1, vi x2, vi x3] (psh 102 v.1 []) v.2 :=
  Eq.trans (e_iload_n D96_14 rfl rfl) <| Eq.trans (e_iconst (x := 0) D96_15 rfl rfl) <| Eq.trans (e_iconst (x := 3) D96_16 rfl rfl) <| e_callS D96_17 rfl o_96 m_11_76 (by decide) rfl rfl
theorem b96_20 {d : Nat} {i0 : Nat} {x1 x2 x3 xs0 : Int} {I L : Nat → Nat → Nat → Int} {t : Nat → Nat} : Res d 96 20 [vr 11 i0, vi x1, vi x2, vi x3] [vi xs0] (mk I L t) = if xs0 = 0 then Res d 96 32 [vr 11 i0, vi x1, vi x2, vi x3] [] (mk I L t) else Res d 96 23 [vr 11 i0, vi x1, vi x2, vi x3] [] (mk I L t) :=
  e_ifeq D96_20 rfl rfl
theorem b96_23 {d : Nat} {i0 : Nat} {x1 x2 x3 : Int} {I L : Nat → Nat → Nat → Int} {t : Nat → Nat} : Res (d + 1) 96 23 [vr 11 i0, vi x1, vi x2, vi x3] [] (mk I L t) = (Cal d 102 [vi x3, vi 0, vi 3] (mk I L t)).bind fun v => Res (d + 1) 96 29 [vr 11 i0, vi x1, vi x2, vi x3] (psh 102 v.1 []) v.2 :=
  Eq.trans (e_iload_n D96_23 rfl rfl) <| Eq.trans (e_iconst (x := 0) D96_24 rfl rfl) <| Eq.trans (e_iconst (x := 3) D96_25 rfl rfl) <| e_callS D96_26 rfl o_96 m_11_76 (by decide) rfl rfl
theorem b96_29 {d : Nat} {i0 : Nat} {x1 x2 x3 xs0 : Int} {I L : Nat → Nat → Nat → Int} {t : Nat → Nat} : Res d 96 29 [vr 11 i0, vi x1, vi x2, vi x3] [vi xs0] (mk I L t) = if ¬ xs0 = 0 then Res d 96 34 [vr 11 i0, vi x1, vi x2, vi x3] [] (mk I L t) else Res d 96 32 [vr 11 i0, vi x1, vi x2, vi x3] [] (mk I L t) :=
  e_ifne D96_29 rfl rfl
theorem b96_32 {d : Nat} {i0 : Nat} {x1 x2 x3 : Int} {I L : Nat → Nat → Nat → Int} {t : Nat → Nat} : Res d 96 32 [vr 11 i0, vi x1, vi x2, vi x3] [] (mk I L t) = some (vi (-1), (mk I L t)) :=
  Eq.trans (e_iconst (x := -1) D96_32 rfl rfl) <| e_iret D96_33 rfl
theorem b96_34 {d : Nat} {i0 : Nat} {x1 x2 x3 : Int} {I L : Nat → Nat → Nat → Int} {t : Nat → Nat} (g1 : 0 ≤ x1 ∧ x1 < 40) (g2 : 0 ≤ x2 ∧ x2 < 4) : Res (d + 1) 96 34 [vr 11 i0, vi x1, vi x2, vi x3] [] (mk I L t) = (Cal d 133 [vr 11 i0, vr 10 x1.toNat, vr 9 (t (5 + x2.toNat))] (mk I L t)).bind fun v => Res (d + 1) 96 53 [vr 11 i0, vi x1, vi x2, vi x3] (psh 133 v.1 []) v.2 :=
  Eq.trans (e_aload_n D96_34 rfl rfl) <| Eq.trans (e_aload_n D96_35 rfl rfl) <| Eq.trans (e_getP (p := (45, i0)) D96_36 rfl o_96 f_11_47 (sh_11 _) (by decide) (pp_11_6 _ _)) <| Eq.trans (e_iload_n D96_39 rfl rfl) <| Eq.trans (e_aald (p := (10, x1.toNat)) D96_40 rfl (ae_45 _) (aq_45 _) (pa_45 _ _ _) g1) <| Eq.trans (e_aload_n D96_41 rfl rfl) <| Eq.trans (e_getP (p := (8, 0)) D96_42 rfl o_96 f_11_29 (sh_11 _) (by decide) (pp_11_3 _ _)) <| Eq.trans (e_getP (p := (39, 0)) D96_45 rfl o_96 f_11_349 (sh_8 _) (by decide) (pp_8_2 _)) <| Eq.trans (e_iload_n D96_48 rfl rfl) <| Eq.trans (e_aald (p := (9, t (5 + x2.toNat))) D96_49 rfl (ae_39 _) (aq_39 _) (pa_39 _ (tn4 g2)) g2) <| e_callV D96_50 rfl o_96 m_11_353 (by decide) rfl rfl
theorem b96_53 {d : Nat} {i0 : Nat} {x1 x2 x3 : Int} {I L : Nat → Nat → Nat → Int} {t : Nat → Nat} (g1 : 0 ≤ x1 ∧ x1 < 40) : Res (d + 1) 96 53 [vr 11 i0, vi x1, vi x2, vi x3] [] (mk I L t) = (Cal d 134 [vr 11 i0, vr 10 x1.toNat, vi x3] (mk I L t)).bind fun v => Res (d + 1) 96 64 [vr 11 i0, vi x1, vi x2, vi x3] (psh 134 v.1 []) v.2 :=
  Eq.trans (e_aload_n D96_53 rfl rfl) <| Eq.trans (e_aload_n D96_54 rfl rfl) <| Eq.trans (e_getP (p := (45, i0)) D96_55 rfl o_96 f_11_47 (sh_11 _) (by decide) (pp_11_6 _ _)) <| Eq.trans (e_iload_n D96_58 rfl rfl) <| Eq.trans (e_aald (p := (10, x1.toNat)) D96_59 rfl (ae_45 _) (aq_45 _) (pa_45 _ _ _) g1) <| Eq.trans (e_iload_n D96_60 rfl rfl) <| e_callV D96_61 rfl o_96 m_11_357 (by decide) rfl rfl
theorem b96_64 {d : Nat} {i0 : Nat} {x1 x2 x3 xs0 : Int} {I L : Nat → Nat → Nat → Int} {t : Nat → Nat} : Res d 96 64 [vr 11 i0, vi x1, vi x2, vi x3] [vi xs0] (mk I L t) = some (vi xs0, (mk I L t)) :=
  e_iret D96_64 rfl
/-! x_way -/
theorem cc_97 : cod 97 = cX11_way := rfl
theorem D97_0 : decode (cod 97) 0 = .ok (.iload_n 1, 1) := by rw [cc_97]; decide +kernel
theorem D97_1 : decode (cod 97) 1 = .ok (.iconst 0, 1) := by rw [cc_97]; decide +kernel
theorem D97_2 : decode (cod 97) 2 = .ok (.iconst 3, 1) := by rw [cc_97]; decide +kernel
theorem D97_3 : decode (cod 97) 3 = .ok (.invokestatic 76, 3) := by rw [cc_97]; decide +kernel
theorem D97_6 : decode (cod 97) 6 = .ok (.ifCond .ne 7, 3) := by rw [cc_97]; decide +kernel
theorem D97_9 : decode (cod 97) 9 = .ok (.ldc2_w 361, 3) := by rw [cc_97]; decide +kernel
theorem D97_12 : decode (cod 97) 12 = .ok (.lreturn, 1) := by rw [cc_97]; decide +kernel
theorem D97_13 : decode (cod 97) 13 = .ok (.iload_n 2, 1) := by rw [cc_97]; decide +kernel
theorem D97_14 : decode (cod 97) 14 = .ok (.ifCond .eq 8, 3) := by rw [cc_97]; decide +kernel
theorem D97_17 : decode (cod 97) 17 = .ok (.iload_n 2, 1) := by rw [cc_97]; decide +kernel
theorem D97_18 : decode (cod 97) 18 = .ok (.iconst 1, 1) := by rw [cc_97]; decide +kernel
theorem D97_19 : decode (cod 97) 19 = .ok (.if_icmp .ne 34, 3) := by rw [cc_97]; decide +kernel
theorem D97_22 : decode (cod 97) 22 = .ok (.aload_n 0, 1) := by rw [cc_97]; decide +kernel
theorem D97_23 : decode (cod 97) 23 = .ok (.iload_n 1, 1) := by rw [cc_97]; decide +kernel
theorem D97_24 : decode (cod 97) 24 = .ok (.invokevirtual 363, 3) := by rw [cc_97]; decide +kernel
theorem D97_27 : decode (cod 97) 27 = .ok (.iload_n 2, 1) := by rw [cc_97]; decide +kernel
theorem D97_28 : decode (cod 97) 28 = .ok (.ifCond .ne 15, 3) := by rw [cc_97]; decide +kernel
theorem D97_31 : decode (cod 97) 31 = .ok (.aload_n 0, 1) := by rw [cc_97]; decide +kernel
theorem D97_32 : decode (cod 97) 32 = .ok (.getfield 61, 3) := by rw [cc_97]; decide +kernel
theorem D97_35 : decode (cod 97) 35 = .ok (.getfield 366, 3) := by rw [cc_97]; decide +kernel
theorem D97_38 : decode (cod 97) 38 = .ok (.iload_n 1, 1) := by rw [cc_97]; decide +kernel
theorem D97_39 : decode (cod 97) 39 = .ok (.laload, 1) := by rw [cc_97]; decide +kernel
theorem D97_40 : decode (cod 97) 40 = .ok (.goto 12, 3) := by rw [cc_97]; decide +kernel
theorem D97_43 : decode (cod 97) 43 = .ok (.aload_n 0, 1) := by rw [cc_97]; decide +kernel
theorem D97_44 : decode (cod 97) 44 = .ok (.getfield 61, 3) := by rw [cc_97]; decide +kernel
theorem D97_47 : decode (cod 97) 47 = .ok (.getfield 370, 3) := by rw [cc_97]; decide +kernel
theorem D97_50 : decode (cod 97) 50 = .ok (.iload_n 1, 1) := by rw [cc_97]; decide +kernel
theorem D97_51 : decode (cod 97) 51 = .ok (.laload, 1) := by rw [cc_97]; decide +kernel
theorem D97_52 : decode (cod 97) 52 = .ok (.lreturn, 1) := by rw [cc_97]; decide +kernel
theorem D97_53 : decode (cod 97) 53 = .ok (.iload_n 2, 1) := by rw [cc_97]; decide +kernel
theorem D97_54 : decode (cod 97) 54 = .ok (.iconst 2, 1) := by rw [cc_97]; decide +kernel
theorem D97_55 : decode (cod 97) 55 = .ok (.if_icmp .ne 38, 3) := by rw [cc_97]; decide +kernel
theorem D97_58 : decode (cod 97) 58 = .ok (.iconst 0, 1) := by rw [cc_97]; decide +kernel
theorem D97_59 : decode (cod 97) 59 = .ok (.istore_n 3, 1) := by rw [cc_97]; decide +kernel
theorem D97_60 : decode (cod 97) 60 = .ok (.iload_n 3, 1) := by rw [cc_97]; decide +kernel
theorem D97_61 : decode (cod 97) 61 = .ok (.iconst 4, 1) := by rw [cc_97]; decide +kernel
theorem D97_62 : decode (cod 97) 62 = .ok (.if_icmp .ge 14, 3) := by rw [cc_97]; decide +kernel
theorem D97_65 : decode (cod 97) 65 = .ok (.aload_n 0, 1) := by rw [cc_97]; decide +kernel
theorem D97_66 : decode (cod 97) 66 = .ok (.iload_n 3, 1) := by rw [cc_97]; decide +kernel
theorem D97_67 : decode (cod 97) 67 = .ok (.invokevirtual 363, 3) := by rw [cc_97]; decide +kernel
theorem D97_70 : decode (cod 97) 70 = .ok (.iinc 3 1, 3) := by rw [cc_97]; decide +kernel
theorem D97_73 : decode (cod 97) 73 = .ok (.goto (-13), 3) := by rw [cc_97]; decide +kernel
theorem D97_76 : decode (cod 97) 76 = .ok (.aload_n 0, 1) := by rw [cc_97]; decide +kernel
theorem D97_77 : decode (cod 97) 77 = .ok (.getfield 61, 3) := by rw [cc_97]; decide +kernel
theorem D97_80 : decode (cod 97) 80 = .ok (.iload_n 1, 1) := by rw [cc_97]; decide +kernel
theorem D97_81 : decode (cod 97) 81 = .ok (.invokevirtual 373, 3) := by rw [cc_97]; decide +kernel
theorem D97_84 : decode (cod 97) 84 = .ok (.ifCond .eq 7, 3) := by rw [cc_97]; decide +kernel
theorem D97_87 : decode (cod 97) 87 = .ok (.lconst 1, 1) := by rw [cc_97]; decide +kernel
theorem D97_88 : decode (cod 97) 88 = .ok (.goto 4, 3) := by rw [cc_97]; decide +kernel
theorem D97_91 : decode (cod 97) 91 = .ok (.lconst 0, 1) := by rw [cc_97]; decide +kernel
theorem D97_92 : decode (cod 97) 92 = .ok (.lreturn, 1) := by rw [cc_97]; decide +kernel
theorem D97_93 : decode (cod 97) 93 = .ok (.iload_n 2, 1) := by rw [cc_97]; decide +kernel
theorem D97_94 : decode (cod 97) 94 = .ok (.bipush 10, 2) := by rw [cc_97]; decide +kernel
theorem D97_96 : decode (cod 97) 96 = .ok (.bipush 14, 2) := by rw [cc_97]; decide +kernel
theorem D97_98 : decode (cod 97) 98 = .ok (.invokestatic 76, 3) := by rw [cc_97]; decide +kernel
theorem D97_101 : decode (cod 97) 101 = .ok (.ifCond .eq 14, 3) := by rw [cc_97]; decide +kernel
theorem D97_104 : decode (cod 97) 104 = .ok (.aload_n 0, 1) := by rw [cc_97]; decide +kernel
theorem D97_105 : decode (cod 97) 105 = .ok (.iload_n 1, 1) := by rw [cc_97]; decide +kernel
theorem D97_106 : decode (cod 97) 106 = .ok (.iload_n 2, 1) := by rw [cc_97]; decide +kernel
theorem D97_107 : decode (cod 97) 107 = .ok (.bipush 10, 2) := by rw [cc_97]; decide +kernel
theorem D97_109 : decode (cod 97) 109 = .ok (.isub, 1) := by rw [cc_97]; decide +kernel
theorem D97_110 : decode (cod 97) 110 = .ok (.iconst 1, 1) := by rw [cc_97]; decide +kernel
theorem D97_111 : decode (cod 97) 111 = .ok (.invokevirtual 376, 3) := by rw [cc_97]; decide +kernel
theorem D97_114 : decode (cod 97) 114 = .ok (.lreturn, 1) := by rw [cc_97]; decide +kernel
theorem D97_115 : decode (cod 97) 115 = .ok (.iload_n 2, 1) := by rw [cc_97]; decide +kernel
theorem D97_116 : decode (cod 97) 116 = .ok (.bipush 20, 2) := by rw [cc_97]; decide +kernel
theorem D97_118 : decode (cod 97) 118 = .ok (.bipush 24, 2) := by rw [cc_97]; decide +kernel
theorem D97_120 : decode (cod 97) 120 = .ok (.invokestatic 76, 3) := by rw [cc_97]; decide +kernel
theorem D97_123 : decode (cod 97) 123 = .ok (.ifCond .eq 14, 3) := by rw [cc_97]; decide +kernel
theorem D97_126 : decode (cod 97) 126 = .ok (.aload_n 0, 1) := by rw [cc_97]; decide +kernel
theorem D97_127 : decode (cod 97) 127 = .ok (.iload_n 1, 1) := by rw [cc_97]; decide +kernel
theorem D97_128 : decode (cod 97) 128 = .ok (.iload_n 2, 1) := by rw [cc_97]; decide +kernel
theorem D97_129 : decode (cod 97) 129 = .ok (.bipush 20, 2) := by rw [cc_97]; decide +kernel
theorem D97_131 : decode (cod 97) 131 = .ok (.isub, 1) := by rw [cc_97]; decide +kernel
theorem D97_132 : decode (cod 97) 132 = .ok (.iconst 0, 1) := by rw [cc_97]; decide +kernel
theorem D97_133 : decode (cod 97) 133 = .ok (.invokevirtual 376, 3) := by rw [cc_97]; decide +kernel
theorem D97_136 : decode (cod 97) 136 = .ok (.lreturn, 1) := by rw [cc_97]; decide +kernel
theorem D97_137 : decode (cod 97) 137 = .ok (.iload_n 2, 1) := by rw [cc_97]; decide +kernel
theorem D97_138 : decode (cod 97) 138 = .ok (.bipush 30, 2) := by rw [cc_97]; decide +kernel
theorem D97_140 : decode (cod 97) 140 = .ok (.if_icmp .eq 9, 3) := by rw [cc_97]; decide +kernel
theorem D97_143 : decode (cod 97) 143 = .ok (.iload_n 2, 1) := by rw [cc_97]; decide +kernel
theorem D97_144 : decode (cod 97) 144 = .ok (.bipush 31, 2) := by rw [cc_97]; decide +kernel
theorem D97_146 : decode (cod 97) 146 = .ok (.if_icmp .ne 22, 3) := by rw [cc_97]; decide +kernel
theorem D97_149 : decode (cod 97) 149 = .ok (.aload_n 0, 1) := by rw [cc_97]; decide +kernel
theorem D97_150 : decode (cod 97) 150 = .ok (.iload_n 1, 1) := by rw [cc_97]; decide +kernel
theorem D97_151 : decode (cod 97) 151 = .ok (.iload_n 2, 1) := by rw [cc_97]; decide +kernel
theorem D97_152 : decode (cod 97) 152 = .ok (.bipush 30, 2) := by rw [cc_97]; decide +kernel
theorem D97_154 : decode (cod 97) 154 = .ok (.if_icmp .ne 7, 3) := by rw [cc_97]; decide +kernel
theorem D97_157 : decode (cod 97) 157 = .ok (.iconst 1, 1) := by rw [cc_97]; decide +kernel
theorem D97_158 : decode (cod 97) 158 = .ok (.goto 4, 3) := by rw [cc_97]; decide +kernel
theorem D97_161 : decode (cod 97) 161 = .ok (.iconst 0, 1) := by rw [cc_97]; decide +kernel
theorem D97_162 : decode (cod 97) 162 = .ok (.invokevirtual 380, 3) := by rw [cc_97]; decide +kernel
theorem D97_165 : decode (cod 97) 165 = .ok (.goto 6, 3) := by rw [cc_97]; decide +kernel
theorem D97_168 : decode (cod 97) 168 = .ok (.ldc2_w 361, 3) := by rw [cc_97]; decide +kernel
theorem D97_171 : decode (cod 97) 171 = .ok (.lreturn, 1) := by rw [cc_97]; decide +kernel
theorem b97_0 {d : Nat} {i0 : Nat} {x1 x2 : Int} {I L : Nat → Nat → Nat → Int} {t : Nat → Nat} : Res (d + 1) 97 0 [vr 11 i0, vi x1, vi x2, vx] [] (mk I L t) = (Cal d 102 [vi x1, vi 0, vi 3] (mk I L t)).bind fun v => Res (d + 1) 97 6 [vr 11 i0, vi x1, vi x2, vx] (psh 102 v.1 []) v.2 :=
  Eq.trans (e_iload_n D97_0 rfl rfl) <| Eq.trans (e_iconst (x := 0) D97_1 rfl rfl) <| Eq.trans (e_iconst (x := 3) D97_2 rfl rfl) <| e_callS D97_3 rfl o_97 m_11_76 (by decide) rfl rfl
theorem b97_6 {d : Nat} {i0 : Nat} {x1 x2 xs0 : Int} {I L : Nat → Nat → Nat → Int} {t : Nat → Nat} : Res d 97 6 [vr 11 i0, vi x1, vi x2, vx] [vi xs0] (mk I L t) = if ¬ xs0 = 0 then Res d 97 13 [vr 11 i0, vi x1, vi x2, vx] [] (mk I L t) else Res d 97 9 [vr 11 i0, vi x1, vi x2, vx] [] (mk I L t) :=
  e_ifne D97_6 rfl rfl
theorem b97_9 {d : Nat} {i0 : Nat} {x1 x2 : Int} {I L : Nat → Nat → Nat → Int} {t : Nat → Nat} : Res d 97 9 [vr 11 i0, vi x1, vi x2, vx] [] (mk I L t) = some (vl (-1), (mk I L t)) :=
  Eq.trans (e_ldc2 (x := -1) D97_9 rfl o_97 l_11_361 rfl) <| e_lret D97_12 rfl
theorem b97_13 {d : Nat} {i0 : Nat} {x1 x2 : Int} {I L : Nat → Nat → Nat → Int} {t : Nat → Nat} : Res d 97 13 [vr 11 i0, vi x1, vi x2, vx] [] (mk I L t) = if x2 = 0 then Res d 97 22 [vr 11 i0, vi x1, vi x2, vx] [] (mk I L t) else Res d 97 17 [vr 11 i0, vi x1, vi x2, vx] [] (mk I L t) :=
  Eq.trans (e_iload_n D97_13 rfl rfl) <| e_ifeq D97_14 rfl rfl
theorem b97_17 {d : Nat} {i0 : Nat} {x1 x2 : Int} {I L : Nat → Nat → Nat → Int} {t : Nat → Nat} : Res d 97 17 [vr 11 i0, vi x1, vi x2, vx] [] (mk I L t) = if ¬ x2 = 1 then Res d 97 53 [vr 11 i0, vi x1, vi x2, vx] [] (mk I L t) else Res d 97 22 [vr 11 i0, vi x1, vi x2, vx] [] (mk I L t) :=
  Eq.trans (e_iload_n D97_17 rfl rfl) <| Eq.trans (e_iconst (x := 1) D97_18 rfl rfl) <| e_icne D97_19 rfl rfl
theorem b97_22 {d : Nat} {i0 : Nat} {x1 x2 : Int} {I L : Nat → Nat → Nat → Int} {t : Nat → Nat} : Res (d + 1) 97 22 [vr 11 i0, vi x1, vi x2, vx] [] (mk I L t) = (Cal d 135 [vr 11 i0, vi x1] (mk I L t)).bind fun v => Res (d + 1) 97 27 [vr 11 i0, vi x1, vi x2, vx] (psh 135 v.1 []) v.2 :=
  Eq.trans (e_aload_n D97_22 rfl rfl) <| Eq.trans (e_iload_n D97_23 rfl rfl) <| e_callV D97_24 rfl o_97 m_11_363 (by decide) rfl rfl
theorem b97_27 {d : Nat} {i0 : Nat} {x1 x2 : Int} {I L : Nat → Nat → Nat → Int} {t : Nat → Nat} : Res d 97 27 [vr 11 i0, vi x1, vi x2, vx] [] (mk I L t) = if ¬ x2 = 0 then Res d 97 43 [vr 11 i0, vi x1, vi x2, vx] [] (mk I L t) else Res d 97 31 [vr 11 i0, vi x1, vi x2, vx] [] (mk I L t) :=
  Eq.trans (e_iload_n D97_27 rfl rfl) <| e_ifne D97_28 rfl rfl
theorem b97_31 {d : Nat} {i0 : Nat} {x1 x2 : Int} {I L : Nat → Nat → Nat → Int} {t : Nat → Nat} (g1 : 0 ≤ x1 ∧ x1 < 4) : Res d 97 31 [vr 11 i0, vi x1, vi x2, vx] [] (mk I L t) = Res d 97 52 [vr 11 i0, vi x1, vi x2, vx] [vl (L 19 0 x1.toNat)] (mk I L t) :=
  Eq.trans (e_aload_n D97_31 rfl rfl) <| Eq.trans (e_getP (p := (0, 0)) D97_32 rfl o_97 f_11_61 (sh_11 _) (by decide) (pp_11_9 _ _)) <| Eq.trans (e_getP (p := (19, 0)) D97_35 rfl o_97 f_11_366 (sh_0 _) (by decide) (pp_0_6 _ _)) <| Eq.trans (e_iload_n D97_38 rfl rfl) <| Eq.trans (e_lald D97_39 rfl (al_19 _) g1) <| e_goto (q1 := 52) D97_40 rfl
theorem b97_43 {d : Nat} {i0 : Nat} {x1 x2 : Int} {I L : Nat → Nat → Nat → Int} {t : Nat → Nat} (g1 : 0 ≤ x1 ∧ x1 < 4) : Res d 97 43 [vr 11 i0, vi x1, vi x2, vx] [] (mk I L t) = Res d 97 52 [vr 11 i0, vi x1, vi x2, vx] [vl (L 20 0 x1.toNat)] (mk I L t) :=
  Eq.trans (e_aload_n D97_43 rfl rfl) <| Eq.trans (e_getP (p := (0, 0)) D97_44 rfl o_97 f_11_61 (sh_11 _) (by decide) (pp_11_9 _ _)) <| Eq.trans (e_getP (p := (20, 0)) D97_47 rfl o_97 f_11_370 (sh_0 _) (by decide) (pp_0_7 _ _)) <| Eq.trans (e_iload_n D97_50 rfl rfl) <| e_lald D97_51 rfl (al_20 _) g1
theorem b97_52 {d : Nat} {i0 : Nat} {x1 x2 xs0 : Int} {I L : Nat → Nat → Nat → Int} {t : Nat → Nat} : Res d 97 52 [vr 11 i0, vi x1, vi x2, vx] [vl xs0] (mk I L t) = some (vl xs0, (mk I L t)) :=
  e_lret D97_52 rfl
theorem b97_53 {d : Nat} {i0 : Nat} {x1 x2 : Int} {I L : Nat → Nat → Nat → Int} {t : Nat → Nat} : Res d 97 53 [vr 11 i0, vi x1, vi x2, vx] [] (mk I L t) = if ¬ x2 = 2 then Res d 97 93 [vr 11 i0, vi x1, vi x2, vx] [] (mk I L t) else Res d 97 58 [vr 11 i0, vi x1, vi x2, vx] [] (mk I L t) :=
  Eq.trans (e_iload_n D97_53 rfl rfl) <| Eq.trans (e_iconst (x := 2) D97_54 rfl rfl) <| e_icne D97_55 rfl rfl
theorem b97_58 {d : Nat} {i0 : Nat} {x1 x2 : Int} {I L : Nat → Nat → Nat → Int} {t : Nat → Nat} : Res d 97 58 [vr 11 i0, vi x1, vi x2, vx] [] (mk I L t) = Res d 97 60 [vr 11 i0, vi x1, vi x2, vi 0] [] (mk I L t) :=
  Eq.trans (e_iconst (x := 0) D97_58 rfl rfl) <| e_istore_n (ls1 := [vr 11 i0, vi x1, vi x2, vi 0]) D97_59 rfl (show 3 < 4 by decide) rfl
theorem b97_60 {d : Nat} {i0 : Nat} {x1 x2 x3 : Int} {I L : Nat → Nat → Nat → Int} {t : Nat → Nat} : Res d 97 60 [vr 11 i0, vi x1, vi x2, vi x3] [] (mk I L t) = if 4 ≤ x3 then Res d 97 76 [vr 11 i0, vi x1, vi x2, vi x3] [] (mk I L t) else Res d 97 65 [vr 11 i0, vi x1, vi x2, vi x3] [] (mk I L t) :=
  Eq.trans (e_iload_n D97_60 rfl rfl) <| Eq.trans (e_iconst (x := 4) D97_61 rfl rfl) <| e_icge D97_62 rfl rfl
theorem b97_65 {d : Nat} {i0 : Nat} {x1 x2 x3 : Int} {I L : Nat → Nat → Nat → Int} {t : Nat → Nat} : Res (d + 1) 97 65 [vr 11 i0, vi x1, vi x2, vi x3] [] (mk I L t) = (Cal d 135 [vr 11 i0, vi x3] (mk I L t)).bind fun v => Res (d + 1) 97 70 [vr 11 i0, vi x1, vi x2, vi x3] (psh 135 v.1 []) v.2 :=
  Eq.trans (e_aload_n D97_65 rfl rfl) <| Eq.trans (e_iload_n D97_66 rfl rfl) <| e_callV D97_67 rfl o_97 m_11_363 (by decide) rfl rfl
theorem b97_70 {d : Nat} {i0 : Nat} {x1 x2 x3 : Int} {I L : Nat → Nat → Nat → Int} {t : Nat → Nat} : Res d 97 70 [vr 11 i0, vi x1, vi x2, vi x3] [] (mk I L t) = Res d 97 60 [vr 11 i0, vi x1, vi x2, vi (w32 (x3 + 1))] [] (mk I L t) :=
  Eq.trans (e_iinc (ls1 := [vr 11 i0, vi x1, vi x2, vi (w32 (x3 + 1))]) D97_70 rfl rfl rfl) <| e_goto (q1 := 60) D97_73 rfl
theorem b97_76 {d : Nat} {i0 : Nat} {x1 x2 x3 : Int} {I L : Nat → Nat → Nat → Int} {t : Nat → Nat} : Res (d + 1) 97 76 [vr 11 i0, vi x1, vi x2, vi x3] [] (mk I L t) = (Cal d 3 [vr 0 0, vi x1] (mk I L t)).bind fun v => Res (d + 1) 97 84 [vr 11 i0, vi x1, vi x2, vi x3] (psh 3 v.1 []) v.2 :=
  Eq.trans (e_aload_n D97_76 rfl rfl) <| Eq.trans (e_getP (p := (0, 0)) D97_77 rfl o_97 f_11_61 (sh_11 _) (by decide) (pp_11_9 _ _)) <| Eq.trans (e_iload_n D97_80 rfl rfl) <| e_callV D97_81 rfl o_97 m_11_373 (by decide) rfl rfl
theorem b97_84 {d : Nat} {i0 : Nat} {x1 x2 x3 xs0 : Int} {I L : Nat → Nat → Nat → Int} {t : Nat → Nat} : Res d 97 84 [vr 11 i0, vi x1, vi x2, vi x3] [vi xs0] (mk I L t) = if xs0 = 0 then Res d 97 91 [vr 11 i0, vi x1, vi x2, vi x3] [] (mk I L t) else Res d 97 87 [vr 11 i0, vi x1, vi x2, vi x3] [] (mk I L t) :=
  e_ifeq D97_84 rfl rfl
theorem b97_87 {d : Nat} {i0 : Nat} {x1 x2 x3 : Int} {I L : Nat → Nat → Nat → Int} {t : Nat → Nat} : Res d 97 87 [vr 11 i0, vi x1, vi x2, vi x3] [] (mk I L t) = Res d 97 92 [vr 11 i0, vi x1, vi x2, vi x3] [vl 1] (mk I L t) :=
  Eq.trans (e_lconst (x := 1) D97_87 rfl rfl) <| e_goto (q1 := 92) D97_88 rfl
theorem b97_91 {d : Nat} {i0 : Nat} {x1 x2 x3 : Int} {I L : Nat → Nat → Nat → Int} {t : Nat → Nat} : Res d 97 91 [vr 11 i0, vi x1, vi x2, vi x3] [] (mk I L t) = Res d 97 92 [vr 11 i0, vi x1, vi x2, vi x3] [vl 0] (mk I L t) :=
  e_lconst (x := 0) D97_91 rfl rfl
theorem b97_92 {d : Nat} {i0 : Nat} {x1 x2 x3 xs0 : Int} {I L : Nat → Nat → Nat → Int} {t : Nat → Nat} : Res d 97 92 [vr 11 i0, vi x1, vi x2, vi x3] [vl xs0] (mk I L t) = some (vl xs0, (mk I L t)) :=
  e_lret D97_92 rfl
theorem b97_93 {d : Nat} {i0 : Nat} {x1 x2 : Int} {I L : Nat → Nat → Nat → Int} {t : Nat → Nat} : Res (d + 1) 97 93 [vr 11 i0, vi x1, vi x2, vx] [] (mk I L t) = (Cal d 102 [vi x2, vi 10, vi 14] (mk I L t)).bind fun v => Res (d + 1) 97 101 [vr 11 i0, vi x1, vi x2, vx] (psh 102 v.1 []) v.2 :=
  Eq.trans (e_iload_n D97_93 rfl rfl) <| Eq.trans (e_bipush (x := 10) D97_94 rfl rfl) <| Eq.trans (e_bipush (x := 14) D97_96 rfl rfl) <| e_callS D97_98 rfl o_97 m_11_76 (by decide) rfl rfl
theorem b97_101 {d : Nat} {i0 : Nat} {x1 x2 xs0 : Int} {I L : Nat → Nat → Nat → Int} {t : Nat → Nat} : Res d 97 101 [vr 11 i0, vi x1, vi x2, vx] [vi xs0] (mk I L t) = if xs0 = 0 then Res d 97 115 [vr 11 i0, vi x1, vi x2, vx] [] (mk I L t) else Res d 97 104 [vr 11 i0, vi x1, vi x2, vx] [] (mk I L t) :=
  e_ifeq D97_101 rfl rfl
theorem b97_104 {d : Nat} {i0 : Nat} {x1 x2 : Int} {I L : Nat → Nat → Nat → Int} {t : Nat → Nat} : Res (d + 1) 97 104 [vr 11 i0, vi x1, vi x2, vx] [] (mk I L t) = (Cal d 136 [vr 11 i0, vi x1, vi (w32 (x2 - 10)), vi 1] (mk I L t)).bind fun v => Res (d + 1) 97 114 [vr 11 i0, vi x1, vi x2, vx] (psh 136 v.1 []) v.2 :=
  Eq.trans (e_aload_n D97_104 rfl rfl) <| Eq.trans (e_iload_n D97_105 rfl rfl) <| Eq.trans (e_iload_n D97_106 rfl rfl) <| Eq.trans (e_bipush (x := 10) D97_107 rfl rfl) <| Eq.trans (e_isub D97_109 rfl) <| Eq.trans (e_iconst (x := 1) D97_110 rfl rfl) <| e_callV D97_111 rfl o_97 m_11_376 (by decide) rfl rfl
theorem b97_114 {d : Nat} {i0 : Nat} {x1 x2 xs0 : Int} {I L : Nat → Nat → Nat → Int} {t : Nat → Nat} : Res d 97 114 [vr 11 i0, vi x1, vi x2, vx] [vl xs0] (mk I L t) = some (vl xs0, (mk I L t)) :=
  e_lret D97_114 rfl
theorem b97_115 {d : Nat} {i0 : Nat} {x1 x2 : Int} {I L : Nat → Nat → Nat → Int} {t : Nat → Nat} : Res (d + 1) 97 115 [vr 11 i0, vi x1, vi x2, vx] [] (mk I L t) = (Cal d 102 [vi x2, vi 20, vi 24] (mk I L t)).bind fun v => Res (d + 1) 97 123 [vr 11 i0, vi x1, vi x2, vx] (psh 102 v.1 []) v.2 :=
  Eq.trans (e_iload_n D97_115 rfl rfl) <| Eq.trans (e_bipush (x := 20) D97_116 rfl rfl) <| Eq.trans (e_bipush (x := 24) D97_118 rfl rfl) <| e_callS D97_120 rfl o_97 m_11_76 (by decide) rfl rfl
theorem b97_123 {d : Nat} {i0 : Nat} {x1 x2 xs0 : Int} {I L : Nat → Nat → Nat → Int} {t : Nat → Nat} : Res d 97 123 [vr 11 i0, vi x1, vi x2, vx] [vi xs0] (mk I L t) = if xs0 = 0 then Res d 97 137 [vr 11 i0, vi x1, vi x2, vx] [] (mk I L t) else Res d 97 126 [vr 11 i0, vi x1, vi x2, vx] [] (mk I L t) :=
  e_ifeq D97_123 rfl rfl
theorem b97_126 {d : Nat} {i0 : Nat} {x1 x2 : Int} {I L : Nat → Nat → Nat → Int} {t : Nat → Nat} : Res (d + 1) 97 126 [vr 11 i0, vi x1, vi x2, vx] [] (mk I L t) = (Cal d 136 [vr 11 i0, vi x1, vi (w32 (x2 - 20)), vi 0] (mk I L t)).bind fun v => Res (d + 1) 97 136 [vr 11 i0, vi x1, vi x2, vx] (psh 136 v.1 []) v.2 :=
  Eq.trans (e_aload_n D97_126 rfl rfl) <| Eq.trans (e_iload_n D97_127 rfl rfl) <| Eq.trans (e_iload_n D97_128 rfl rfl) <| Eq.trans (e_bipush (x := 20) D97_129 rfl rfl) <| Eq.trans (e_isub D97_131 rfl) <| Eq.trans (e_iconst (x := 0) D97_132 rfl rfl) <| e_callV D97_133 rfl o_97 m_11_376 (by decide) rfl rfl
theorem b97_136 {d : Nat} {i0 : Nat} {x1 x2 xs0 : Int} {I L : Nat → Nat → Nat → Int} {t : Nat → Nat} : Res d 97 136 [vr 11 i0, vi x1, vi x2, vx] [vl xs0] (mk I L t) = some (vl xs0, (mk I L t)) :=
  e_lret D97_136 rfl
theorem b97_137 {d : Nat} {i0 : Nat} {x1 x2 : Int} {I L : Nat → Nat → Nat → Int} {t : Nat → Nat} : Res d 97 137 [vr 11 i0, vi x1, vi x2, vx] [] (mk I L t) = if x2 = 30 then Res d 97 149 [vr 11 i0, vi x1, vi x2, vx] [] (mk I L t) else Res d 97 143 [vr 11 i0, vi x1, vi x2, vx] [] (mk I L t) :=
  Eq.trans (e_iload_n D97_137 rfl rfl) <| Eq.trans (e_bipush (x := 30) D97_138 rfl rfl) <| e_iceq D97_140 rfl rfl
theorem b97_143 {d : Nat} {i0 : Nat} {x1 x2 : Int} {I L : Nat → Nat → Nat → Int} {t : Nat → Nat} : Res d 97 143 [vr 11 i0, vi x1, vi x2, vx] [] (mk I L t) = if ¬ x2 = 31 then Res d 97 168 [vr 11 i0, vi x1, vi x2, vx] [] (mk I L t) else Res d 97 149 [vr 11 i0, vi x1, vi x2, vx] [] (mk I L t) :=
  Eq.trans (e_iload_n D97_143 rfl rfl) <| Eq.trans (e_bipush (x := 31) D97_144 rfl rfl) <| e_icne D97_146 rfl rfl
theorem b97_149 {d : Nat} {i0 : Nat} {x1 x2 : Int} {I L : Nat → Nat → Nat → Int} {t : Nat → Nat} : Res d 97 149 [vr 11 i0, vi x1, vi x2, vx] [] (mk I L t) = if ¬ x2 = 30 then Res d 97 161 [vr 11 i0, vi x1, vi x2, vx] [vi x1, vr 11 i0] (mk I L t) else Res d 97 157 [vr 11 i0, vi x1, vi x2, vx] [vi x1, vr 11 i0] (mk I L t) :=
  Eq.trans (e_aload_n D97_149 rfl rfl) <| Eq.trans (e_iload_n D97_150 rfl rfl) <| Eq.trans (e_iload_n D97_151 rfl rfl) <| Eq.trans (e_bipush (x := 30) D97_152 rfl rfl) <| e_icne D97_154 rfl rfl
theorem b97_157 {d : Nat} {i0 is0 : Nat} {x1 x2 xs1 : Int} {I L : Nat → Nat → Nat → Int} {t : Nat → Nat} : Res d 97 157 [vr 11 i0, vi x1, vi x2, vx] [vi xs1, vr 11 is0] (mk I L t) = Res d 97 162 [vr 11 i0, vi x1, vi x2, vx] [vi 1, vi xs1, vr 11 is0] (mk I L t) :=
  Eq.trans (e_iconst (x := 1) D97_157 rfl rfl) <| e_goto (q1 := 162) D97_158 rfl
theorem b97_161 {d : Nat} {i0 is0 : Nat} {x1 x2 xs1 : Int} {I L : Nat → Nat → Nat → Int} {t : Nat → Nat} : Res d 97 161 [vr 11 i0, vi x1, vi x2, vx] [vi xs1, vr 11 is0] (mk I L t) = Res d 97 162 [vr 11 i0, vi x1, vi x2, vx] [vi 0, vi xs1, vr 11 is0] (mk I L t) :=
  e_iconst (x := 0) D97_161 rfl rfl
theorem b97_162 {d : Nat} {i0 is0 : Nat} {x1 x2 xs2 xs1 : Int} {I L : Nat → Nat → Nat → Int} {t : Nat → Nat} : Res (d + 1) 97 162 [vr 11 i0, vi x1, vi x2, vx] [vi xs2, vi xs1, vr 11 is0] (mk I L t) = (Cal d 138 [vr 11 is0, vi xs1, vi xs2] (mk I L t)).bind fun v => Res (d + 1) 97 165 [vr 11 i0, vi x1, vi x2, vx] (psh 138 v.1 []) v.2 :=
  e_callV D97_162 rfl o_97 m_11_380 (by decide) rfl rfl
theorem b97_165 {d : Nat} {i0 : Nat} {x1 x2 xs0 : Int} {I L : Nat → Nat → Nat → Int} {t : Nat → Nat} : Res d 97 165 [vr 11 i0, vi x1, vi x2, vx] [vl xs0] (mk I L t) = Res d 97 171 [vr 11 i0, vi x1, vi x2, vx] [vl xs0] (mk I L t) :=
  e_goto (q1 := 171) D97_165 rfl
theorem b97_168 {d : Nat} {i0 : Nat} {x1 x2 : Int} {I L : Nat → Nat → Nat → Int} {t : Nat → Nat} : Res d 97 168 [vr 11 i0, vi x1, vi x2, vx] [] (mk I L t) = Res d 97 171 [vr 11 i0, vi x1, vi x2, vx] [vl (-1)] (mk I L t) :=
  e_ldc2 (x := -1) D97_168 rfl o_97 l_11_361 rfl
theorem b97_171 {d : Nat} {i0 : Nat} {x1 x2 xs0 : Int} {I L : Nat → Nat → Nat → Int} {t : Nat → Nat} : Res d 97 171 [vr 11 i0, vi x1, vi x2, vx] [vl xs0] (mk I L t) = some (vl xs0, (mk I L t)) :=
  e_lret D97_171 rfl
/-! x_replayed -/
theorem cc_98 : cod 98 = cX11_replayed := rfl
theorem D98_0 : decode (cod 98) 0 = .ok (.aload_n 0, 1) := by rw [cc_98]; decide +kernel
theorem D98_1 : decode (cod 98) 1 = .ok (.iload_n 1, 1) := by rw [cc_98]; decide +kernel
theorem D98_2 : decode (cod 98) 2 = .ok (.invokevirtual 244, 3) := by rw [cc_98]; decide +kernel
theorem D98_5 : decode (cod 98) 5 = .ok (.ifCond .eq 30, 3) := by rw [cc_98]; decide +kernel
theorem D98_8 : decode (cod 98) 8 = .ok (.aload_n 0, 1) := by rw [cc_98]; decide +kernel
theorem D98_9 : decode (cod 98) 9 = .ok (.getfield 41, 3) := by rw [cc_98]; decide +kernel
theorem D98_12 : decode (cod 98) 12 = .ok (.iload_n 1, 1) := by rw [cc_98]; decide +kernel
theorem D98_13 : decode (cod 98) 13 = .ok (.aaload, 1) := by rw [cc_98]; decide +kernel
theorem D98_14 : decode (cod 98) 14 = .ok (.getfield 200, 3) := by rw [cc_98]; decide +kernel
theorem D98_17 : decode (cod 98) 17 = .ok (.iconst 2, 1) := by rw [cc_98]; decide +kernel
theorem D98_18 : decode (cod 98) 18 = .ok (.if_icmp .eq 17, 3) := by rw [cc_98]; decide +kernel
theorem D98_21 : decode (cod 98) 21 = .ok (.iload_n 2, 1) := by rw [cc_98]; decide +kernel
theorem D98_22 : decode (cod 98) 22 = .ok (.iconst (-1), 1) := by rw [cc_98]; decide +kernel
theorem D98_23 : decode (cod 98) 23 = .ok (.if_icmp .eq 14, 3) := by rw [cc_98]; decide +kernel
theorem D98_26 : decode (cod 98) 26 = .ok (.aload_n 0, 1) := by rw [cc_98]; decide +kernel
theorem D98_27 : decode (cod 98) 27 = .ok (.iload_n 2, 1) := by rw [cc_98]; decide +kernel
theorem D98_28 : decode (cod 98) 28 = .ok (.iload_n 1, 1) := by rw [cc_98]; decide +kernel
theorem D98_29 : decode (cod 98) 29 = .ok (.invokevirtual 384, 3) := by rw [cc_98]; decide +kernel
theorem D98_32 : decode (cod 98) 32 = .ok (.ifCond .ne 5, 3) := by rw [cc_98]; decide +kernel
theorem D98_35 : decode (cod 98) 35 = .ok (.iconst (-1), 1) := by rw [cc_98]; decide +kernel
theorem D98_36 : decode (cod 98) 36 = .ok (.ireturn, 1) := by rw [cc_98]; decide +kernel
theorem D98_37 : decode (cod 98) 37 = .ok (.aload_n 0, 1) := by rw [cc_98]; decide +kernel
theorem D98_38 : decode (cod 98) 38 = .ok (.iload_n 1, 1) := by rw [cc_98]; decide +kernel
theorem D98_39 : decode (cod 98) 39 = .ok (.iload_n 2, 1) := by rw [cc_98]; decide +kernel
theorem D98_40 : decode (cod 98) 40 = .ok (.invokevirtual 388, 3) := by rw [cc_98]; decide +kernel
theorem D98_43 : decode (cod 98) 43 = .ok (.ireturn, 1) := by rw [cc_98]; decide +kernel
theorem b98_0 {d : Nat} {i0 : Nat} {x1 x2 : Int} {I L : Nat → Nat → Nat → Int} {t : Nat → Nat} : Res (d + 1) 98 0 [vr 11 i0, vi x1, vi x2] [] (mk I L t) = (Cal d 107 [vr 11 i0, vi x1] (mk I L t)).bind fun v => Res (d + 1) 98 5 [vr 11 i0, vi x1, vi x2] (psh 107 v.1 []) v.2 :=
  Eq.trans (e_aload_n D98_0 rfl rfl) <| Eq.trans (e_iload_n D98_1 rfl rfl) <| e_callV D98_2 rfl o_98 m_11_244 (by decide) rfl rfl
theorem b98_5 {d : Nat} {i0 : Nat} {x1 x2 xs0 : Int} {I L : Nat → Nat → Nat → Int} {t : Nat → Nat} : Res d 98 5 [vr 11 i0, vi x1, vi x2] [vi xs0] (mk I L t) = if xs0 = 0 then Res d 98 35 [vr 11 i0, vi x1, vi x2] [] (mk I L t) else Res d 98 8 [vr 11 i0, vi x1, vi x2] [] (mk I L t) :=
  e_ifeq D98_5 rfl rfl
theorem b98_8 {d : Nat} {i0 : Nat} {x1 x2 : Int} {I L : Nat → Nat → Nat → Int} {t : Nat → Nat} (g1 : 0 ≤ x1 ∧ x1 < 100) : Res d 98 8 [vr 11 i0, vi x1, vi x2] [] (mk I L t) = if I 6 x1.toNat 2 = 2 then Res d 98 35 [vr 11 i0, vi x1, vi x2] [] (mk I L t) else Res d 98 21 [vr 11 i0, vi x1, vi x2] [] (mk I L t) :=
  Eq.trans (e_aload_n D98_8 rfl rfl) <| Eq.trans (e_getP (p := (44, i0)) D98_9 rfl o_98 f_11_41 (sh_11 _) (by decide) (pp_11_5 _ _)) <| Eq.trans (e_iload_n D98_12 rfl rfl) <| Eq.trans (e_aald (p := (6, x1.toNat)) D98_13 rfl (ae_44 _) (aq_44 _) (pa_44 _ _ _) g1) <| Eq.trans (e_getI D98_14 rfl o_98 f_11_200 (sh_6 _) (by decide)) <| Eq.trans (e_iconst (x := 2) D98_17 rfl rfl) <| e_iceq D98_18 rfl rfl
theorem b98_21 {d : Nat} {i0 : Nat} {x1 x2 : Int} {I L : Nat → Nat → Nat → Int} {t : Nat → Nat} : Res d 98 21 [vr 11 i0, vi x1, vi x2] [] (mk I L t) = if x2 = -1 then Res d 98 37 [vr 11 i0, vi x1, vi x2] [] (mk I L t) else Res d 98 26 [vr 11 i0, vi x1, vi x2] [] (mk I L t) :=
  Eq.trans (e_iload_n D98_21 rfl rfl) <| Eq.trans (e_iconst (x := -1) D98_22 rfl rfl) <| e_iceq D98_23 rfl rfl
theorem b98_26 {d : Nat} {i0 : Nat} {x1 x2 : Int} {I L : Nat → Nat → Nat → Int} {t : Nat → Nat} : Res (d + 1) 98 26 [vr 11 i0, vi x1, vi x2] [] (mk I L t) = (Cal d 108 [vr 11 i0, vi x2, vi x1] (mk I L t)).bind fun v => Res (d + 1) 98 32 [vr 11 i0, vi x1, vi x2] (psh 108 v.1 []) v.2 :=
  Eq.trans (e_aload_n D98_26 rfl rfl) <| Eq.trans (e_iload_n D98_27 rfl rfl) <| Eq.trans (e_iload_n D98_28 rfl rfl) <| e_callV D98_29 rfl o_98 m_11_384 (by decide) rfl rfl
theorem b98_32 {d : Nat} {i0 : Nat} {x1 x2 xs0 : Int} {I L : Nat → Nat → Nat → Int} {t : Nat → Nat} : Res d 98 32 [vr 11 i0, vi x1, vi x2] [vi xs0] (mk I L t) = if ¬ xs0 = 0 then Res d 98 37 [vr 11 i0, vi x1, vi x2] [] (mk I L t) else Res d 98 35 [vr 11 i0, vi x1, vi x2] [] (mk I L t) :=
  e_ifne D98_32 rfl rfl
theorem b98_35 {d : Nat} {i0 : Nat} {x1 x2 : Int} {I L : Nat → Nat → Nat → Int} {t : Nat → Nat} : Res d 98 35 [vr 11 i0, vi x1, vi x2] [] (mk I L t) = some (vi (-1), (mk I L t)) :=
  Eq.trans (e_iconst (x := -1) D98_35 rfl rfl) <| e_iret D98_36 rfl
theorem b98_37 {d : Nat} {i0 : Nat} {x1 x2 : Int} {I L : Nat → Nat → Nat → Int} {t : Nat → Nat} : Res (d + 1) 98 37 [vr 11 i0, vi x1, vi x2] [] (mk I L t) = (Cal d 141 [vr 11 i0, vi x1, vi x2] (mk I L t)).bind fun v => Res (d + 1) 98 43 [vr 11 i0, vi x1, vi x2] (psh 141 v.1 []) v.2 :=
  Eq.trans (e_aload_n D98_37 rfl rfl) <| Eq.trans (e_iload_n D98_38 rfl rfl) <| Eq.trans (e_iload_n D98_39 rfl rfl) <| e_callV D98_40 rfl o_98 m_11_388 (by decide) rfl rfl
theorem b98_43 {d : Nat} {i0 : Nat} {x1 x2 xs0 : Int} {I L : Nat → Nat → Nat → Int} {t : Nat → Nat} : Res d 98 43 [vr 11 i0, vi x1, vi x2] [vi xs0] (mk I L t) = some (vi xs0, (mk I L t)) :=
  e_iret D98_43 rfl
/-! x_spoilt -/
theorem cc_99 : cod 99 = cX11_spoilt := rfl
theorem D99_0 : decode (cod 99) 0 = .ok (.aload_n 0, 1) := by rw [cc_99]; decide +kernel
theorem D99_1 : decode (cod 99) 1 = .ok (.iload_n 1, 1) := by rw [cc_99]; decide +kernel
theorem D99_2 : decode (cod 99) 2 = .ok (.invokevirtual 244, 3) := by rw [cc_99]; decide +kernel
theorem D99_5 : decode (cod 99) 5 = .ok (.ifCond .eq 16, 3) := by rw [cc_99]; decide +kernel
theorem D99_8 : decode (cod 99) 8 = .ok (.aload_n 0, 1) := by rw [cc_99]; decide +kernel
theorem D99_9 : decode (cod 99) 9 = .ok (.getfield 41, 3) := by rw [cc_99]; decide +kernel
theorem D99_12 : decode (cod 99) 12 = .ok (.iload_n 1, 1) := by rw [cc_99]; decide +kernel
theorem D99_13 : decode (cod 99) 13 = .ok (.aaload, 1) := by rw [cc_99]; decide +kernel
theorem D99_14 : decode (cod 99) 14 = .ok (.getfield 200, 3) := by rw [cc_99]; decide +kernel
theorem D99_17 : decode (cod 99) 17 = .ok (.iconst 2, 1) := by rw [cc_99]; decide +kernel
theorem D99_18 : decode (cod 99) 18 = .ok (.if_icmp .ne 5, 3) := by rw [cc_99]; decide +kernel
theorem D99_21 : decode (cod 99) 21 = .ok (.iconst (-1), 1) := by rw [cc_99]; decide +kernel
theorem D99_22 : decode (cod 99) 22 = .ok (.ireturn, 1) := by rw [cc_99]; decide +kernel
theorem D99_23 : decode (cod 99) 23 = .ok (.aload_n 0, 1) := by rw [cc_99]; decide +kernel
theorem D99_24 : decode (cod 99) 24 = .ok (.iload_n 1, 1) := by rw [cc_99]; decide +kernel
theorem D99_25 : decode (cod 99) 25 = .ok (.iconst (-1), 1) := by rw [cc_99]; decide +kernel
theorem D99_26 : decode (cod 99) 26 = .ok (.invokevirtual 388, 3) := by rw [cc_99]; decide +kernel
theorem D99_29 : decode (cod 99) 29 = .ok (.istore_n 2, 1) := by rw [cc_99]; decide +kernel
theorem D99_30 : decode (cod 99) 30 = .ok (.iconst (-1), 1) := by rw [cc_99]; decide +kernel
theorem D99_31 : decode (cod 99) 31 = .ok (.istore_n 3, 1) := by rw [cc_99]; decide +kernel
theorem D99_32 : decode (cod 99) 32 = .ok (.iconst 0, 1) := by rw [cc_99]; decide +kernel
theorem D99_33 : decode (cod 99) 33 = .ok (.istore 4, 2) := by rw [cc_99]; decide +kernel
theorem D99_35 : decode (cod 99) 35 = .ok (.iconst 0, 1) := by rw [cc_99]; decide +kernel
theorem D99_36 : decode (cod 99) 36 = .ok (.istore 5, 2) := by rw [cc_99]; decide +kernel
theorem D99_38 : decode (cod 99) 38 = .ok (.iload 5, 2) := by rw [cc_99]; decide +kernel
theorem D99_40 : decode (cod 99) 40 = .ok (.iload_n 1, 1) := by rw [cc_99]; decide +kernel
theorem D99_41 : decode (cod 99) 41 = .ok (.if_icmp .ge 47, 3) := by rw [cc_99]; decide +kernel
theorem D99_44 : decode (cod 99) 44 = .ok (.aload_n 0, 1) := by rw [cc_99]; decide +kernel
theorem D99_45 : decode (cod 99) 45 = .ok (.iload 5, 2) := by rw [cc_99]; decide +kernel
theorem D99_47 : decode (cod 99) 47 = .ok (.iload_n 1, 1) := by rw [cc_99]; decide +kernel
theorem D99_48 : decode (cod 99) 48 = .ok (.invokevirtual 384, 3) := by rw [cc_99]; decide +kernel
theorem D99_51 : decode (cod 99) 51 = .ok (.ifCond .eq 31, 3) := by rw [cc_99]; decide +kernel
theorem D99_54 : decode (cod 99) 54 = .ok (.aload_n 0, 1) := by rw [cc_99]; decide +kernel
theorem D99_55 : decode (cod 99) 55 = .ok (.iload_n 1, 1) := by rw [cc_99]; decide +kernel
theorem D99_56 : decode (cod 99) 56 = .ok (.iload 5, 2) := by rw [cc_99]; decide +kernel
theorem D99_58 : decode (cod 99) 58 = .ok (.invokevirtual 388, 3) := by rw [cc_99]; decide +kernel
theorem D99_61 : decode (cod 99) 61 = .ok (.iload_n 2, 1) := by rw [cc_99]; decide +kernel
theorem D99_62 : decode (cod 99) 62 = .ok (.isub, 1) := by rw [cc_99]; decide +kernel
theorem D99_63 : decode (cod 99) 63 = .ok (.invokestatic 391, 3) := by rw [cc_99]; decide +kernel
theorem D99_66 : decode (cod 99) 66 = .ok (.istore 6, 2) := by rw [cc_99]; decide +kernel
theorem D99_68 : decode (cod 99) 68 = .ok (.iload 6, 2) := by rw [cc_99]; decide +kernel
theorem D99_70 : decode (cod 99) 70 = .ok (.iload 4, 2) := by rw [cc_99]; decide +kernel
theorem D99_72 : decode (cod 99) 72 = .ok (.if_icmp .le 10, 3) := by rw [cc_99]; decide +kernel
theorem D99_75 : decode (cod 99) 75 = .ok (.iload 6, 2) := by rw [cc_99]; decide +kernel
theorem D99_77 : decode (cod 99) 77 = .ok (.istore 4, 2) := by rw [cc_99]; decide +kernel
theorem D99_79 : decode (cod 99) 79 = .ok (.iload 5, 2) := by rw [cc_99]; decide +kernel
theorem D99_81 : decode (cod 99) 81 = .ok (.istore_n 3, 1) := by rw [cc_99]; decide +kernel
theorem D99_82 : decode (cod 99) 82 = .ok (.iinc 5 1, 3) := by rw [cc_99]; decide +kernel
theorem D99_85 : decode (cod 99) 85 = .ok (.goto (-47), 3) := by rw [cc_99]; decide +kernel
theorem D99_88 : decode (cod 99) 88 = .ok (.iload_n 3, 1) := by rw [cc_99]; decide +kernel
theorem D99_89 : decode (cod 99) 89 = .ok (.ireturn, 1) := by rw [cc_99]; decide +kernel
theorem b99_0 {d : Nat} {i0 : Nat} {x1 : Int} {I L : Nat → Nat → Nat → Int} {t : Nat → Nat} : Res (d + 1) 99 0 [vr 11 i0, vi x1, vx, vx, vx, vx, vx] [] (mk I L t) = (Cal d 107 [vr 11 i0, vi x1] (mk I L t)).bind fun v => Res (d + 1) 99 5 [vr 11 i0, vi x1, vx, vx, vx, vx, vx] (psh 107 v.1 []) v.2 :=
  Eq.trans (e_aload_n D99_0 rfl rfl) <| Eq.trans (e_iload_n D99_1 rfl rfl) <| e_callV D99_2 rfl o_99 m_11_244 (by decide) rfl rfl
theorem b99_5 {d : Nat} {i0 : Nat} {x1 xs0 : Int} {I L : Nat → Nat → Nat → Int} {t : Nat → Nat} : Res d 99 5 [vr 11 i0, vi x1, vx, vx, vx, vx, vx] [vi xs0] (mk I L t) = if xs0 = 0 then Res d 99 21 [vr 11 i0, vi x1, vx, vx, vx, vx, vx] [] (mk I L t) else Res d 99 8 [vr 11 i0, vi x1, vx, vx, vx, vx, vx] [] (mk I L t) :=
  e_ifeq D99_5 rfl rfl
theorem b99_8 {d : Nat} {i0 : Nat} {x1 : Int} {I L : Nat → Nat → Nat → Int} {t : Nat → Nat} (g1 : 0 ≤ x1 ∧ x1 < 100) : Res d 99 8 [vr 11 i0, vi x1, vx, vx, vx, vx, vx] [] (mk I L t) = if ¬ I 6 x1.toNat 2 = 2 then Res d 99 23 [vr 11 i0, vi x1, vx, vx, vx, vx, vx] [] (mk I L t) else Res d 99 21 [vr 11 i0, vi x1, vx, vx, vx, vx, vx] [] (mk I L t) :=
  Eq.trans (e_aload_n D99_8 rfl rfl) <| Eq.trans (e_getP (p := (44, i0)) D99_9 rfl o_99 f_11_41 (sh_11 _) (by decide) (pp_11_5 _ _)) <| Eq.trans (e_iload_n D99_12 rfl rfl) <| Eq.trans (e_aald (p := (6, x1.toNat)) D99_13 rfl (ae_44 _) (aq_44 _) (pa_44 _ _ _) g1) <| Eq.trans (e_getI D99_14 rfl o_99 f_11_200 (sh_6 _) (by decide)) <| Eq.trans (e_iconst (x := 2) D99_17 rfl rfl) <| e_icne D99_18 rfl rfl
theorem b99_21 {d : Nat} {i0 : Nat} {x1 : Int} {I L : Nat → Nat → Nat → Int} {t : Nat → Nat} : Res d 99 21 [vr 11 i0, vi x1, vx, vx, vx, vx, vx] [] (mk I L t) = some (vi (-1), (mk I L t)) :=
  Eq.trans (e_iconst (x := -1) D99_21 rfl rfl) <| e_iret D99_22 rfl
theorem b99_23 {d : Nat} {i0 : Nat} {x1 : Int} {I L : Nat → Nat → Nat → Int} {t : Nat → Nat} : Res (d + 1) 99 23 [vr 11 i0, vi x1, vx, vx, vx, vx, vx] [] (mk I L t) = (Cal d 141 [vr 11 i0, vi x1, vi (-1)] (mk I L t)).bind fun v => Res (d + 1) 99 29 [vr 11 i0, vi x1, vx, vx, vx, vx, vx] (psh 141 v.1 []) v.2 :=
  Eq.trans (e_aload_n D99_23 rfl rfl) <| Eq.trans (e_iload_n D99_24 rfl rfl) <| Eq.trans (e_iconst (x := -1) D99_25 rfl rfl) <| e_callV D99_26 rfl o_99 m_11_388 (by decide) rfl rfl
theorem b99_29 {d : Nat} {i0 : Nat} {x1 xs0 : Int} {I L : Nat → Nat → Nat → Int} {t : Nat → Nat} : Res d 99 29 [vr 11 i0, vi x1, vx, vx, vx, vx, vx] [vi xs0] (mk I L t) = Res d 99 38 [vr 11 i0, vi x1, vi xs0, vi (-1), vi 0, vi 0, vx] [] (mk I L t) :=
  Eq.trans (e_istore_n (ls1 := [vr 11 i0, vi x1, vi xs0, vx, vx, vx, vx]) D99_29 rfl (show 2 < 7 by decide) rfl) <| Eq.trans (e_iconst (x := -1) D99_30 rfl rfl) <| Eq.trans (e_istore_n (ls1 := [vr 11 i0, vi x1, vi xs0, vi (-1), vx, vx, vx]) D99_31 rfl (show 3 < 7 by decide) rfl) <| Eq.trans (e_iconst (x := 0) D99_32 rfl rfl) <| Eq.trans (e_istore (ls1 := [vr 11 i0, vi x1, vi xs0, vi (-1), vi 0, vx, vx]) D99_33 rfl (show 4 < 7 by decide) rfl) <| Eq.trans (e_iconst (x := 0) D99_35 rfl rfl) <| e_istore (ls1 := [vr 11 i0, vi x1, vi xs0, vi (-1), vi 0, vi 0, vx]) D99_36 rfl (show 5 < 7 by decide) rfl
theorem b99_38 {d : Nat} {i0 : Nat} {x1 x2 x3 x4 x5 : Int} {u6 : MV} {I L : Nat → Nat → Nat → Int} {t : Nat → Nat} : Res d 99 38 [vr 11 i0, vi x1, vi x2, vi x3, vi x4, vi x5, u6] [] (mk I L t) = if x1 ≤ x5 then Res d 99 88 [vr 11 i0, vi x1, vi x2, vi x3, vi x4, vi x5, u6] [] (mk I L t) else Res d 99 44 [vr 11 i0, vi x1, vi x2, vi x3, vi x4, vi x5, u6] [] (mk I L t) :=
  Eq.trans (e_iload D99_38 rfl rfl) <| Eq.trans (e_iload_n D99_40 rfl rfl) <| e_icge D99_41 rfl rfl
theorem b99_44 {d : Nat} {i0 : Nat} {x1 x2 x3 x4 x5 : Int} {u6 : MV} {I L : Nat → Nat → Nat → Int} {t : Nat → Nat} : Res (d + 1) 99 44 [vr 11 i0, vi x1, vi x2, vi x3, vi x4, vi x5, u6] [] (mk I L t) = (Cal d 108 [vr 11 i0, vi x5, vi x1] (mk I L t)).bind fun v => Res (d + 1) 99 51 [vr 11 i0, vi x1, vi x2, vi x3, vi x4, vi x5, u6] (psh 108 v.1 []) v.2 :=
  Eq.trans (e_aload_n D99_44 rfl rfl) <| Eq.trans (e_iload D99_45 rfl rfl) <| Eq.trans (e_iload_n D99_47 rfl rfl) <| e_callV D99_48 rfl o_99 m_11_384 (by decide) rfl rfl
theorem b99_51 {d : Nat} {i0 : Nat} {x1 x2 x3 x4 x5 xs0 : Int} {u6 : MV} {I L : Nat → Nat → Nat → Int} {t : Nat → Nat} : Res d 99 51 [vr 11 i0, vi x1, vi x2, vi x3, vi x4, vi x5, u6] [vi xs0] (mk I L t) = if xs0 = 0 then Res d 99 82 [vr 11 i0, vi x1, vi x2, vi x3, vi x4, vi x5, u6] [] (mk I L t) else Res d 99 54 [vr 11 i0, vi x1, vi x2, vi x3, vi x4, vi x5, u6] [] (mk I L t) :=
  e_ifeq D99_51 rfl rfl
theorem b99_54 {d : Nat} {i0 : Nat} {x1 x2 x3 x4 x5 : Int} {u6 : MV} {I L : Nat → Nat → Nat → Int} {t : Nat → Nat} : Res (d + 1) 99 54 [vr 11 i0, vi x1, vi x2, vi x3, vi x4, vi x5, u6] [] (mk I L t) = (Cal d 141 [vr 11 i0, vi x1, vi x5] (mk I L t)).bind fun v => Res (d + 1) 99 61 [vr 11 i0, vi x1, vi x2, vi x3, vi x4, vi x5, u6] (psh 141 v.1 []) v.2 :=
  Eq.trans (e_aload_n D99_54 rfl rfl) <| Eq.trans (e_iload_n D99_55 rfl rfl) <| Eq.trans (e_iload D99_56 rfl rfl) <| e_callV D99_58 rfl o_99 m_11_388 (by decide) rfl rfl
theorem b99_61 {d : Nat} {i0 : Nat} {x1 x2 x3 x4 x5 xs0 : Int} {u6 : MV} {I L : Nat → Nat → Nat → Int} {t : Nat → Nat} : Res (d + 1) 99 61 [vr 11 i0, vi x1, vi x2, vi x3, vi x4, vi x5, u6] [vi xs0] (mk I L t) = if (if 0 ≤ w32 (xs0 - x2) then w32 (xs0 - x2) else w32 (-(w32 (xs0 - x2)))) ≤ x4 then Res (d + 1) 99 82 [vr 11 i0, vi x1, vi x2, vi x3, vi x4, vi x5, vi ((if 0 ≤ w32 (xs0 - x2) then w32 (xs0 - x2) else w32 (-(w32 (xs0 - x2)))))] [] (mk I L t) else Res (d + 1) 99 75 [vr 11 i0, vi x1, vi x2, vi x3, vi x4, vi x5, vi ((if 0 ≤ w32 (xs0 - x2) then w32 (xs0 - x2) else w32 (-(w32 (xs0 - x2)))))] [] (mk I L t) :=
  Eq.trans (e_iload_n D99_61 rfl rfl) <| Eq.trans (e_isub D99_62 rfl) <| Eq.trans (e_abs (by omega) D99_63 rfl o_99 m_11_391 (by simp [cw])) <| Eq.trans (e_istore (ls1 := [vr 11 i0, vi x1, vi x2, vi x3, vi x4, vi x5, vi ((if 0 ≤ w32 (xs0 - x2) then w32 (xs0 - x2) else w32 (-(w32 (xs0 - x2)))))]) D99_66 rfl (show 6 < 7 by decide) rfl) <| Eq.trans (e_iload D99_68 rfl rfl) <| Eq.trans (e_iload D99_70 rfl rfl) <| e_icle D99_72 rfl rfl
theorem b99_75 {d : Nat} {i0 : Nat} {x1 x2 x3 x4 x5 x6 : Int} {I L : Nat → Nat → Nat → Int} {t : Nat → Nat} : Res d 99 75 [vr 11 i0, vi x1, vi x2, vi x3, vi x4, vi x5, vi x6] [] (mk I L t) = Res d 99 82 [vr 11 i0, vi x1, vi x2, vi x5, vi x6, vi x5, vi x6] [] (mk I L t) :=
  Eq.trans (e_iload D99_75 rfl rfl) <| Eq.trans (e_istore (ls1 := [vr 11 i0, vi x1, vi x2, vi x3, vi x6, vi x5, vi x6]) D99_77 rfl (show 4 < 7 by decide) rfl) <| Eq.trans (e_iload D99_79 rfl rfl) <| e_istore_n (ls1 := [vr 11 i0, vi x1, vi x2, vi x5, vi x6, vi x5, vi x6]) D99_81 rfl (show 3 < 7 by decide) rfl
theorem b99_82 {d : Nat} {i0 : Nat} {x1 x2 x3 x4 x5 : Int} {u6 : MV} {I L : Nat → Nat → Nat → Int} {t : Nat → Nat} : Res d 99 82 [vr 11 i0, vi x1, vi x2, vi x3, vi x4, vi x5, u6] [] (mk I L t) = Res d 99 38 [vr 11 i0, vi x1, vi x2, vi x3, vi x4, vi (w32 (x5 + 1)), u6] [] (mk I L t) :=
  Eq.trans (e_iinc (ls1 := [vr 11 i0, vi x1, vi x2, vi x3, vi x4, vi (w32 (x5 + 1)), u6]) D99_82 rfl rfl rfl) <| e_goto (q1 := 38) D99_85 rfl
theorem b99_88 {d : Nat} {i0 : Nat} {x1 x2 x3 x4 x5 : Int} {u6 : MV} {I L : Nat → Nat → Nat → Int} {t : Nat → Nat} : Res d 99 88 [vr 11 i0, vi x1, vi x2, vi x3, vi x4, vi x5, u6] [] (mk I L t) = some (vi x3, (mk I L t)) :=
  Eq.trans (e_iload_n D99_88 rfl rfl) <| e_iret D99_89 rfl
/-! x_both -/
theorem cc_100 : cod 100 = cX11_both := rfl
theorem D100_0 : decode (cod 100) 0 = .ok (.aload_n 0, 1) := by rw [cc_100]; decide +kernel
theorem D100_1 : decode (cod 100) 1 = .ok (.iload_n 1, 1) := by rw [cc_100]; decide +kernel
theorem D100_2 : decode (cod 100) 2 = .ok (.invokevirtual 166, 3) := by rw [cc_100]; decide +kernel
theorem D100_5 : decode (cod 100) 5 = .ok (.ifCond .eq 16, 3) := by rw [cc_100]; decide +kernel
theorem D100_8 : decode (cod 100) 8 = .ok (.aload_n 0, 1) := by rw [cc_100]; decide +kernel
theorem D100_9 : decode (cod 100) 9 = .ok (.iload_n 2, 1) := by rw [cc_100]; decide +kernel
theorem D100_10 : decode (cod 100) 10 = .ok (.invokevirtual 166, 3) := by rw [cc_100]; decide +kernel
theorem D100_13 : decode (cod 100) 13 = .ok (.ifCond .eq 8, 3) := by rw [cc_100]; decide +kernel
theorem D100_16 : decode (cod 100) 16 = .ok (.iload_n 1, 1) := by rw [cc_100]; decide +kernel
theorem D100_17 : decode (cod 100) 17 = .ok (.iload_n 2, 1) := by rw [cc_100]; decide +kernel
theorem D100_18 : decode (cod 100) 18 = .ok (.if_icmp .ne 5, 3) := by rw [cc_100]; decide +kernel
theorem D100_21 : decode (cod 100) 21 = .ok (.iconst (-1), 1) := by rw [cc_100]; decide +kernel
theorem D100_22 : decode (cod 100) 22 = .ok (.ireturn, 1) := by rw [cc_100]; decide +kernel
theorem D100_23 : decode (cod 100) 23 = .ok (.iload 5, 2) := by rw [cc_100]; decide +kernel
theorem D100_25 : decode (cod 100) 25 = .ok (.ifCond .ne 18, 3) := by rw [cc_100]; decide +kernel
theorem D100_28 : decode (cod 100) 28 = .ok (.aload_n 0, 1) := by rw [cc_100]; decide +kernel
theorem D100_29 : decode (cod 100) 29 = .ok (.iload_n 1, 1) := by rw [cc_100]; decide +kernel
theorem D100_30 : decode (cod 100) 30 = .ok (.iload_n 2, 1) := by rw [cc_100]; decide +kernel
theorem D100_31 : decode (cod 100) 31 = .ok (.invokevirtual 394, 3) := by rw [cc_100]; decide +kernel
theorem D100_34 : decode (cod 100) 34 = .ok (.ifCond .eq 7, 3) := by rw [cc_100]; decide +kernel
theorem D100_37 : decode (cod 100) 37 = .ok (.iconst 1, 1) := by rw [cc_100]; decide +kernel
theorem D100_38 : decode (cod 100) 38 = .ok (.goto 4, 3) := by rw [cc_100]; decide +kernel
theorem D100_41 : decode (cod 100) 41 = .ok (.iconst 0, 1) := by rw [cc_100]; decide +kernel
theorem D100_42 : decode (cod 100) 42 = .ok (.ireturn, 1) := by rw [cc_100]; decide +kernel
theorem D100_43 : decode (cod 100) 43 = .ok (.iload 5, 2) := by rw [cc_100]; decide +kernel
theorem D100_45 : decode (cod 100) 45 = .ok (.iconst 1, 1) := by rw [cc_100]; decide +kernel
theorem D100_46 : decode (cod 100) 46 = .ok (.if_icmp .ne 26, 3) := by rw [cc_100]; decide +kernel
theorem D100_49 : decode (cod 100) 49 = .ok (.aload_n 0, 1) := by rw [cc_100]; decide +kernel
theorem D100_50 : decode (cod 100) 50 = .ok (.iload_n 3, 1) := by rw [cc_100]; decide +kernel
theorem D100_51 : decode (cod 100) 51 = .ok (.invokevirtual 107, 3) := by rw [cc_100]; decide +kernel
theorem D100_54 : decode (cod 100) 54 = .ok (.ifCond .eq 18, 3) := by rw [cc_100]; decide +kernel
theorem D100_57 : decode (cod 100) 57 = .ok (.aload_n 0, 1) := by rw [cc_100]; decide +kernel
theorem D100_58 : decode (cod 100) 58 = .ok (.getfield 22, 3) := by rw [cc_100]; decide +kernel
theorem D100_61 : decode (cod 100) 61 = .ok (.iload_n 3, 1) := by rw [cc_100]; decide +kernel
theorem D100_62 : decode (cod 100) 62 = .ok (.aaload, 1) := by rw [cc_100]; decide +kernel
theorem D100_63 : decode (cod 100) 63 = .ok (.iload 4, 2) := by rw [cc_100]; decide +kernel
theorem D100_65 : decode (cod 100) 65 = .ok (.invokevirtual 247, 3) := by rw [cc_100]; decide +kernel
theorem D100_68 : decode (cod 100) 68 = .ok (.iconst (-1), 1) := by rw [cc_100]; decide +kernel
theorem D100_69 : decode (cod 100) 69 = .ok (.if_icmp .ne 5, 3) := by rw [cc_100]; decide +kernel
theorem D100_72 : decode (cod 100) 72 = .ok (.iconst (-1), 1) := by rw [cc_100]; decide +kernel
theorem D100_73 : decode (cod 100) 73 = .ok (.ireturn, 1) := by rw [cc_100]; decide +kernel
theorem D100_74 : decode (cod 100) 74 = .ok (.aload_n 0, 1) := by rw [cc_100]; decide +kernel
theorem D100_75 : decode (cod 100) 75 = .ok (.aload_n 0, 1) := by rw [cc_100]; decide +kernel
theorem D100_76 : decode (cod 100) 76 = .ok (.getfield 35, 3) := by rw [cc_100]; decide +kernel
theorem D100_79 : decode (cod 100) 79 = .ok (.iload_n 1, 1) := by rw [cc_100]; decide +kernel
theorem D100_80 : decode (cod 100) 80 = .ok (.aaload, 1) := by rw [cc_100]; decide +kernel
theorem D100_81 : decode (cod 100) 81 = .ok (.aload_n 0, 1) := by rw [cc_100]; decide +kernel
theorem D100_82 : decode (cod 100) 82 = .ok (.getfield 22, 3) := by rw [cc_100]; decide +kernel
theorem D100_85 : decode (cod 100) 85 = .ok (.iload_n 3, 1) := by rw [cc_100]; decide +kernel
theorem D100_86 : decode (cod 100) 86 = .ok (.aaload, 1) := by rw [cc_100]; decide +kernel
theorem D100_87 : decode (cod 100) 87 = .ok (.iconst 0, 1) := by rw [cc_100]; decide +kernel
theorem D100_88 : decode (cod 100) 88 = .ok (.iconst (-1), 1) := by rw [cc_100]; decide +kernel
theorem D100_89 : decode (cod 100) 89 = .ok (.iconst 0, 1) := by rw [cc_100]; decide +kernel
theorem D100_90 : decode (cod 100) 90 = .ok (.invokevirtual 183, 3) := by rw [cc_100]; decide +kernel
theorem D100_93 : decode (cod 100) 93 = .ok (.aload_n 0, 1) := by rw [cc_100]; decide +kernel
theorem D100_94 : decode (cod 100) 94 = .ok (.getfield 61, 3) := by rw [cc_100]; decide +kernel
theorem D100_97 : decode (cod 100) 97 = .ok (.iload 4, 2) := by rw [cc_100]; decide +kernel
theorem D100_99 : decode (cod 100) 99 = .ok (.invokevirtual 187, 3) := by rw [cc_100]; decide +kernel
theorem D100_102 : decode (cod 100) 102 = .ok (.istore 6, 2) := by rw [cc_100]; decide +kernel
theorem D100_104 : decode (cod 100) 104 = .ok (.aload_n 0, 1) := by rw [cc_100]; decide +kernel
theorem D100_105 : decode (cod 100) 105 = .ok (.aload_n 0, 1) := by rw [cc_100]; decide +kernel
theorem D100_106 : decode (cod 100) 106 = .ok (.getfield 35, 3) := by rw [cc_100]; decide +kernel
theorem D100_109 : decode (cod 100) 109 = .ok (.iload_n 2, 1) := by rw [cc_100]; decide +kernel
theorem D100_110 : decode (cod 100) 110 = .ok (.aaload, 1) := by rw [cc_100]; decide +kernel
theorem D100_111 : decode (cod 100) 111 = .ok (.aload_n 0, 1) := by rw [cc_100]; decide +kernel
theorem D100_112 : decode (cod 100) 112 = .ok (.getfield 22, 3) := by rw [cc_100]; decide +kernel
theorem D100_115 : decode (cod 100) 115 = .ok (.iload_n 3, 1) := by rw [cc_100]; decide +kernel
theorem D100_116 : decode (cod 100) 116 = .ok (.aaload, 1) := by rw [cc_100]; decide +kernel
theorem D100_117 : decode (cod 100) 117 = .ok (.iconst 0, 1) := by rw [cc_100]; decide +kernel
theorem D100_118 : decode (cod 100) 118 = .ok (.iconst (-1), 1) := by rw [cc_100]; decide +kernel
theorem D100_119 : decode (cod 100) 119 = .ok (.iconst 0, 1) := by rw [cc_100]; decide +kernel
theorem D100_120 : decode (cod 100) 120 = .ok (.invokevirtual 183, 3) := by rw [cc_100]; decide +kernel
theorem D100_123 : decode (cod 100) 123 = .ok (.aload_n 0, 1) := by rw [cc_100]; decide +kernel
theorem D100_124 : decode (cod 100) 124 = .ok (.getfield 61, 3) := by rw [cc_100]; decide +kernel
theorem D100_127 : decode (cod 100) 127 = .ok (.iload 4, 2) := by rw [cc_100]; decide +kernel
theorem D100_129 : decode (cod 100) 129 = .ok (.invokevirtual 187, 3) := by rw [cc_100]; decide +kernel
theorem D100_132 : decode (cod 100) 132 = .ok (.istore 7, 2) := by rw [cc_100]; decide +kernel
theorem D100_134 : decode (cod 100) 134 = .ok (.aload_n 0, 1) := by rw [cc_100]; decide +kernel
theorem D100_135 : decode (cod 100) 135 = .ok (.iload_n 1, 1) := by rw [cc_100]; decide +kernel
theorem D100_136 : decode (cod 100) 136 = .ok (.iload_n 2, 1) := by rw [cc_100]; decide +kernel
theorem D100_137 : decode (cod 100) 137 = .ok (.invokevirtual 394, 3) := by rw [cc_100]; decide +kernel
theorem D100_140 : decode (cod 100) 140 = .ok (.ifCond .eq 18, 3) := by rw [cc_100]; decide +kernel
theorem D100_143 : decode (cod 100) 143 = .ok (.iload 6, 2) := by rw [cc_100]; decide +kernel
theorem D100_145 : decode (cod 100) 145 = .ok (.i2l, 1) := by rw [cc_100]; decide +kernel
theorem D100_146 : decode (cod 100) 146 = .ok (.iload 7, 2) := by rw [cc_100]; decide +kernel
theorem D100_148 : decode (cod 100) 148 = .ok (.i2l, 1) := by rw [cc_100]; decide +kernel
theorem D100_149 : decode (cod 100) 149 = .ok (.lmul, 1) := by rw [cc_100]; decide +kernel
theorem D100_150 : decode (cod 100) 150 = .ok (.ldc2_w 397, 3) := by rw [cc_100]; decide +kernel
theorem D100_153 : decode (cod 100) 153 = .ok (.ldiv, 1) := by rw [cc_100]; decide +kernel
theorem D100_154 : decode (cod 100) 154 = .ok (.l2i, 1) := by rw [cc_100]; decide +kernel
theorem D100_155 : decode (cod 100) 155 = .ok (.goto 10, 3) := by rw [cc_100]; decide +kernel
theorem D100_158 : decode (cod 100) 158 = .ok (.iload 6, 2) := by rw [cc_100]; decide +kernel
theorem D100_160 : decode (cod 100) 160 = .ok (.iload 7, 2) := by rw [cc_100]; decide +kernel
theorem D100_162 : decode (cod 100) 162 = .ok (.invokestatic 253, 3) := by rw [cc_100]; decide +kernel
theorem D100_165 : decode (cod 100) 165 = .ok (.ireturn, 1) := by rw [cc_100]; decide +kernel
theorem b100_0 {d : Nat} {i0 : Nat} {x1 x2 x3 x4 x5 : Int} {I L : Nat → Nat → Nat → Int} {t : Nat → Nat} : Res (d + 1) 100 0 [vr 11 i0, vi x1, vi x2, vi x3, vi x4, vi x5, vx, vx] [] (mk I L t) = (Cal d 106 [vr 11 i0, vi x1] (mk I L t)).bind fun v => Res (d + 1) 100 5 [vr 11 i0, vi x1, vi x2, vi x3, vi x4, vi x5, vx, vx] (psh 106 v.1 []) v.2 :=
  Eq.trans (e_aload_n D100_0 rfl rfl) <| Eq.trans (e_iload_n D100_1 rfl rfl) <| e_callV D100_2 rfl o_100 m_11_166 (by decide) rfl rfl
theorem b100_5 {d : Nat} {i0 : Nat} {x1 x2 x3 x4 x5 xs0 : Int} {I L : Nat → Nat → Nat → Int} {t : Nat → Nat} : Res d 100 5 [vr 11 i0, vi x1, vi x2, vi x3, vi x4, vi x5, vx, vx] [vi xs0] (mk I L t) = if xs0 = 0 then Res d 100 21 [vr 11 i0, vi x1, vi x2, vi x3, vi x4, vi x5, vx, vx] [] (mk I L t) else Res d 100 8 [vr 11 i0, vi x1, vi x2, vi x3, vi x4, vi x5, vx, vx] [] (mk I L t) :=
  e_ifeq D100_5 rfl rfl
theorem b100_8 {d : Nat} {i0 : Nat} {x1 x2 x3 x4 x5 : Int} {I L : Nat → Nat → Nat → Int} {t : Nat → Nat} : Res (d + 1) 100 8 [vr 11 i0, vi x1, vi x2, vi x3, vi x4, vi x5, vx, vx] [] (mk I L t) = (Cal d 106 [vr 11 i0, vi x2] (mk I L t)).bind fun v => Res (d + 1) 100 13 [vr 11 i0, vi x1, vi x2, vi x3, vi x4, vi x5, vx, vx] (psh 106 v.1 []) v.2 :=
  Eq.trans (e_aload_n D100_8 rfl rfl) <| Eq.trans (e_iload_n D100_9 rfl rfl) <| e_callV D100_10 rfl o_100 m_11_166 (by decide) rfl rfl
theorem b100_13 {d : Nat} {i0 : Nat} {x1 x2 x3 x4 x5 xs0 : Int} {I L : Nat → Nat → Nat → Int} {t : Nat → Nat} : Res d 100 13 [vr 11 i0, vi x1, vi x2, vi x3, vi x4, vi x5, vx, vx] [vi xs0] (mk I L t) = if xs0 = 0 then Res d 100 21 [vr 11 i0, vi x1, vi x2, vi x3, vi x4, vi x5, vx, vx] [] (mk I L t) else Res d 100 16 [vr 11 i0, vi x1, vi x2, vi x3, vi x4, vi x5, vx, vx] [] (mk I L t) :=
  e_ifeq D100_13 rfl rfl
theorem b100_16 {d : Nat} {i0 : Nat} {x1 x2 x3 x4 x5 : Int} {I L : Nat → Nat → Nat → Int} {t : Nat → Nat} : Res d 100 16 [vr 11 i0, vi x1, vi x2, vi x3, vi x4, vi x5, vx, vx] [] (mk I L t) = if ¬ x1 = x2 then Res d 100 23 [vr 11 i0, vi x1, vi x2, vi x3, vi x4, vi x5, vx, vx] [] (mk I L t) else Res d 100 21 [vr 11 i0, vi x1, vi x2, vi x3, vi x4, vi x5, vx, vx] [] (mk I L t) :=
  Eq.trans (e_iload_n D100_16 rfl rfl) <| Eq.trans (e_iload_n D100_17 rfl rfl) <| e_icne D100_18 rfl rfl
theorem b100_21 {d : Nat} {i0 : Nat} {x1 x2 x3 x4 x5 : Int} {I L : Nat → Nat → Nat → Int} {t : Nat → Nat} : Res d 100 21 [vr 11 i0, vi x1, vi x2, vi x3, vi x4, vi x5, vx, vx] [] (mk I L t) = some (vi (-1), (mk I L t)) :=
  Eq.trans (e_iconst (x := -1) D100_21 rfl rfl) <| e_iret D100_22 rfl
theorem b100_23 {d : Nat} {i0 : Nat} {x1 x2 x3 x4 x5 : Int} {I L : Nat → Nat → Nat → Int} {t : Nat → Nat} : Res d 100 23 [vr 11 i0, vi x1, vi x2, vi x3, vi x4, vi x5, vx, vx] [] (mk I L t) = if ¬ x5 = 0 then Res d 100 43 [vr 11 i0, vi x1, vi x2, vi x3, vi x4, vi x5, vx, vx] [] (mk I L t) else Res d 100 28 [vr 11 i0, vi x1, vi x2, vi x3, vi x4, vi x5, vx, vx] [] (mk I L t) :=
  Eq.trans (e_iload D100_23 rfl rfl) <| e_ifne D100_25 rfl rfl
theorem b100_28 {d : Nat} {i0 : Nat} {x1 x2 x3 x4 x5 : Int} {I L : Nat → Nat → Nat → Int} {t : Nat → Nat} : Res (d + 1) 100 28 [vr 11 i0, vi x1, vi x2, vi x3, vi x4, vi x5, vx, vx] [] (mk I L t) = (Cal d 143 [vr 11 i0, vi x1, vi x2] (mk I L t)).bind fun v => Res (d + 1) 100 34 [vr 11 i0, vi x1, vi x2, vi x3, vi x4, vi x5, vx, vx] (psh 143 v.1 []) v.2 :=
  Eq.trans (e_aload_n D100_28 rfl rfl) <| Eq.trans (e_iload_n D100_29 rfl rfl) <| Eq.trans (e_iload_n D100_30 rfl rfl) <| e_callV D100_31 rfl o_100 m_11_394 (by decide) rfl rfl
theorem b100_34 {d : Nat} {i0 : Nat} {x1 x2 x3 x4 x5 xs0 : Int} {I L : Nat → Nat → Nat → Int} {t : Nat → Nat} : Res d 100 34 [vr 11 i0, vi x1, vi x2, vi x3, vi x4, vi x5, vx, vx] [vi xs0] (mk I L t) = if xs0 = 0 then Res d 100 41 [vr 11 i0, vi x1, vi x2, vi x3, vi x4, vi x5, vx, vx] [] (mk I L t) else Res d 100 37 [vr 11 i0, vi x1, vi x2, vi x3, vi x4, vi x5, vx, vx] [] (mk I L t) :=
  e_ifeq D100_34 rfl rfl
theorem b100_37 {d : Nat} {i0 : Nat} {x1 x2 x3 x4 x5 : Int} {I L : Nat → Nat → Nat → Int} {t : Nat → Nat} : Res d 100 37 [vr 11 i0, vi x1, vi x2, vi x3, vi x4, vi x5, vx, vx] [] (mk I L t) = Res d 100 42 [vr 11 i0, vi x1, vi x2, vi x3, vi x4, vi x5, vx, vx] [vi 1] (mk I L t) :=
  Eq.trans (e_iconst (x := 1) D100_37 rfl rfl) <| e_goto (q1 := 42) D100_38 rfl
theorem b100_41 {d : Nat} {i0 : Nat} {x1 x2 x3 x4 x5 : Int} {I L : Nat → Nat → Nat → Int} {t : Nat → Nat} : Res d 100 41 [vr 11 i0, vi x1, vi x2, vi x3, vi x4, vi x5, vx, vx] [] (mk I L t) = Res d 100 42 [vr 11 i0, vi x1, vi x2, vi x3, vi x4, vi x5, vx, vx] [vi 0] (mk I L t) :=
  e_iconst (x := 0) D100_41 rfl rfl
theorem b100_42 {d : Nat} {i0 : Nat} {x1 x2 x3 x4 x5 xs0 : Int} {I L : Nat → Nat → Nat → Int} {t : Nat → Nat} : Res d 100 42 [vr 11 i0, vi x1, vi x2, vi x3, vi x4, vi x5, vx, vx] [vi xs0] (mk I L t) = some (vi xs0, (mk I L t)) :=
  e_iret D100_42 rfl
theorem b100_43 {d : Nat} {i0 : Nat} {x1 x2 x3 x4 x5 : Int} {I L : Nat → Nat → Nat → Int} {t : Nat → Nat} : Res d 100 43 [vr 11 i0, vi x1, vi x2, vi x3, vi x4, vi x5, vx, vx] [] (mk I L t) = if ¬ x5 = 1 then Res d 100 72 [vr 11 i0, vi x1, vi x2, vi x3, vi x4, vi x5, vx, vx] [] (mk I L t) else Res d 100 49 [vr 11 i0, vi x1, vi x2, vi x3, vi x4, vi x5, vx, vx] [] (mk I L t) :=
  Eq.trans (e_iload D100_43 rfl rfl) <| Eq.trans (e_iconst (x := 1) D100_45 rfl rfl) <| e_icne D100_46 rfl rfl
theorem b100_49 {d : Nat} {i0 : Nat} {x1 x2 x3 x4 x5 : Int} {I L : Nat → Nat → Nat → Int} {t : Nat → Nat} : Res (d + 1) 100 49 [vr 11 i0, vi x1, vi x2, vi x3, vi x4, vi x5, vx, vx] [] (mk I L t) = (Cal d 105 [vr 11 i0, vi x3] (mk I L t)).bind fun v => Res (d + 1) 100 54 [vr 11 i0, vi x1, vi x2, vi x3, vi x4, vi x5, vx, vx] (psh 105 v.1 []) v.2 :=
  Eq.trans (e_aload_n D100_49 rfl rfl) <| Eq.trans (e_iload_n D100_50 rfl rfl) <| e_callV D100_51 rfl o_100 m_11_107 (by decide) rfl rfl
theorem b100_54 {d : Nat} {i0 : Nat} {x1 x2 x3 x4 x5 xs0 : Int} {I L : Nat → Nat → Nat → Int} {t : Nat → Nat} : Res d 100 54 [vr 11 i0, vi x1, vi x2, vi x3, vi x4, vi x5, vx, vx] [vi xs0] (mk I L t) = if xs0 = 0 then Res d 100 72 [vr 11 i0, vi x1, vi x2, vi x3, vi x4, vi x5, vx, vx] [] (mk I L t) else Res d 100 57 [vr 11 i0, vi x1, vi x2, vi x3, vi x4, vi x5, vx, vx] [] (mk I L t) :=
  e_ifeq D100_54 rfl rfl
theorem b100_57 {d : Nat} {i0 : Nat} {x1 x2 x3 x4 x5 : Int} {I L : Nat → Nat → Nat → Int} {t : Nat → Nat} (g1 : 0 ≤ x3 ∧ x3 < 6) : Res (d + 1) 100 57 [vr 11 i0, vi x1, vi x2, vi x3, vi x4, vi x5, vx, vx] [] (mk I L t) = (Cal d 26 [vr 4 x3.toNat, vi x4] (mk I L t)).bind fun v => Res (d + 1) 100 68 [vr 11 i0, vi x1, vi x2, vi x3, vi x4, vi x5, vx, vx] (psh 26 v.1 []) v.2 :=
  Eq.trans (e_aload_n D100_57 rfl rfl) <| Eq.trans (e_getP (p := (42, i0)) D100_58 rfl o_100 f_11_22 (sh_11 _) (by decide) (pp_11_2 _ _)) <| Eq.trans (e_iload_n D100_61 rfl rfl) <| Eq.trans (e_aald (p := (4, x3.toNat)) D100_62 rfl (ae_42 _) (aq_42 _) (pa_42 _ _ _) g1) <| Eq.trans (e_iload D100_63 rfl rfl) <| e_callV D100_65 rfl o_100 m_11_247 (by decide) rfl rfl
theorem b100_68 {d : Nat} {i0 : Nat} {x1 x2 x3 x4 x5 xs0 : Int} {I L : Nat → Nat → Nat → Int} {t : Nat → Nat} : Res d 100 68 [vr 11 i0, vi x1, vi x2, vi x3, vi x4, vi x5, vx, vx] [vi xs0] (mk I L t) = if ¬ xs0 = -1 then Res d 100 74 [vr 11 i0, vi x1, vi x2, vi x3, vi x4, vi x5, vx, vx] [] (mk I L t) else Res d 100 72 [vr 11 i0, vi x1, vi x2, vi x3, vi x4, vi x5, vx, vx] [] (mk I L t) :=
  Eq.trans (e_iconst (x := -1) D100_68 rfl rfl) <| e_icne D100_69 rfl rfl
theorem b100_72 {d : Nat} {i0 : Nat} {x1 x2 x3 x4 x5 : Int} {I L : Nat → Nat → Nat → Int} {t : Nat → Nat} : Res d 100 72 [vr 11 i0, vi x1, vi x2, vi x3, vi x4, vi x5, vx, vx] [] (mk I L t) = some (vi (-1), (mk I L t)) :=
  Eq.trans (e_iconst (x := -1) D100_72 rfl rfl) <| e_iret D100_73 rfl
theorem b100_74 {d : Nat} {i0 : Nat} {x1 x2 x3 x4 x5 : Int} {I L : Nat → Nat → Nat → Int} {t : Nat → Nat} (g1 : 0 ≤ x1 ∧ x1 < 20) (g2 : 0 ≤ x3 ∧ x3 < 6) : Res (d + 1) 100 74 [vr 11 i0, vi x1, vi x2, vi x3, vi x4, vi x5, vx, vx] [] (mk I L t) = (Cal d 127 [vr 11 i0, vr 3 x1.toNat, vr 4 x3.toNat, vi 0, vi (-1), vi 0] (mk I L t)).bind fun v => Res (d + 1) 100 93 [vr 11 i0, vi x1, vi x2, vi x3, vi x4, vi x5, vx, vx] (psh 127 v.1 []) v.2 :=
  Eq.trans (e_aload_n D100_74 rfl rfl) <| Eq.trans (e_aload_n D100_75 rfl rfl) <| Eq.trans (e_getP (p := (43, i0)) D100_76 rfl o_100 f_11_35 (sh_11 _) (by decide) (pp_11_4 _ _)) <| Eq.trans (e_iload_n D100_79 rfl rfl) <| Eq.trans (e_aald (p := (3, x1.toNat)) D100_80 rfl (ae_43 _) (aq_43 _) (pa_43 _ _ _) g1) <| Eq.trans (e_aload_n D100_81 rfl rfl) <| Eq.trans (e_getP (p := (42, i0)) D100_82 rfl o_100 f_11_22 (sh_11 _) (by decide) (pp_11_2 _ _)) <| Eq.trans (e_iload_n D100_85 rfl rfl) <| Eq.trans (e_aald (p := (4, x3.toNat)) D100_86 rfl (ae_42 _) (aq_42 _) (pa_42 _ _ _) g2) <| Eq.trans (e_iconst (x := 0) D100_87 rfl rfl) <| Eq.trans (e_iconst (x := -1) D100_88 rfl rfl) <| Eq.trans (e_iconst (x := 0) D100_89 rfl rfl) <| e_callV D100_90 rfl o_100 m_11_183 (by decide) rfl rfl
theorem b100_93 {d : Nat} {i0 : Nat} {x1 x2 x3 x4 x5 : Int} {I L : Nat → Nat → Nat → Int} {t : Nat → Nat} : Res (d + 1) 100 93 [vr 11 i0, vi x1, vi x2, vi x3, vi x4, vi x5, vx, vx] [] (mk I L t) = (Cal d 1 [vr 0 0, vi x4] (mk I L t)).bind fun v => Res (d + 1) 100 102 [vr 11 i0, vi x1, vi x2, vi x3, vi x4, vi x5, vx, vx] (psh 1 v.1 []) v.2 :=
  Eq.trans (e_aload_n D100_93 rfl rfl) <| Eq.trans (e_getP (p := (0, 0)) D100_94 rfl o_100 f_11_61 (sh_11 _) (by decide) (pp_11_9 _ _)) <| Eq.trans (e_iload D100_97 rfl rfl) <| e_callV D100_99 rfl o_100 m_11_187 (by decide) rfl rfl
theorem b100_102 {d : Nat} {i0 : Nat} {x1 x2 x3 x4 x5 xs0 : Int} {I L : Nat → Nat → Nat → Int} {t : Nat → Nat} (g1 : 0 ≤ x2 ∧ x2 < 20) (g2 : 0 ≤ x3 ∧ x3 < 6) : Res (d + 1) 100 102 [vr 11 i0, vi x1, vi x2, vi x3, vi x4, vi x5, vx, vx] [vi xs0] (mk I L t) = (Cal d 127 [vr 11 i0, vr 3 x2.toNat, vr 4 x3.toNat, vi 0, vi (-1), vi 0] (mk I L t)).bind fun v => Res (d + 1) 100 123 [vr 11 i0, vi x1, vi x2, vi x3, vi x4, vi x5, vi xs0, vx] (psh 127 v.1 []) v.2 :=
  Eq.trans (e_istore (ls1 := [vr 11 i0, vi x1, vi x2, vi x3, vi x4, vi x5, vi xs0, vx]) D100_102 rfl (show 6 < 8 by decide) rfl) <| Eq.trans (e_aload_n D100_104 rfl rfl) <| Eq.trans (e_aload_n D100_105 rfl rfl) <| Eq.trans (e_getP (p := (43, i0)) D100_106 rfl o_100 f_11_35 (sh_11 _) (by decide) (pp_11_4 _ _)) <| Eq.trans (e_iload_n D100_109 rfl rfl) <| Eq.trans (e_aald (p := (3, x2.toNat)) D100_110 rfl (ae_43 _) (aq_43 _) (pa_43 _ _ _) g1) <| Eq.trans (e_aload_n D100_111 rfl rfl) <| Eq.trans (e_getP (p := (42, i0)) D100_112 rfl o_100 f_11_22 (sh_11 _) (by decide) (pp_11_2 _ _)) <| Eq.trans (e_iload_n D100_115 rfl rfl) <| Eq.trans (e_aald (p := (4, x3.toNat)) D100_116 rfl (ae_42 _) (aq_42 _) (pa_42 _ _ _) g2) <| Eq.trans (e_iconst (x := 0) D100_117 rfl rfl) <| Eq.trans (e_iconst (x := -1) D100_118 rfl rfl) <| Eq.trans (e_iconst (x := 0) D100_119 rfl rfl) <| e_callV D100_120 rfl o_100 m_11_183 (by decide) rfl rfl
theorem b100_123 {d : Nat} {i0 : Nat} {x1 x2 x3 x4 x5 x6 : Int} {I L : Nat → Nat → Nat → Int} {t : Nat → Nat} : Res (d + 1) 100 123 [vr 11 i0, vi x1, vi x2, vi x3, vi x4, vi x5, vi x6, vx] [] (mk I L t) = (Cal d 1 [vr 0 0, vi x4] (mk I L t)).bind fun v => Res (d + 1) 100 132 [vr 11 i0, vi x1, vi x2, vi x3, vi x4, vi x5, vi x6, vx] (psh 1 v.1 []) v.2 :=
  Eq.trans (e_aload_n D100_123 rfl rfl) <| Eq.trans (e_getP (p := (0, 0)) D100_124 rfl o_100 f_11_61 (sh_11 _) (by decide) (pp_11_9 _ _)) <| Eq.trans (e_iload D100_127 rfl rfl) <| e_callV D100_129 rfl o_100 m_11_187 (by decide) rfl rfl
theorem b100_132 {d : Nat} {i0 : Nat} {x1 x2 x3 x4 x5 x6 xs0 : Int} {I L : Nat → Nat → Nat → Int} {t : Nat → Nat} : Res (d + 1) 100 132 [vr 11 i0, vi x1, vi x2, vi x3, vi x4, vi x5, vi x6, vx] [vi xs0] (mk I L t) = (Cal d 143 [vr 11 i0, vi x1, vi x2] (mk I L t)).bind fun v => Res (d + 1) 100 140 [vr 11 i0, vi x1, vi x2, vi x3, vi x4, vi x5, vi x6, vi xs0] (psh 143 v.1 []) v.2 :=
  Eq.trans (e_istore (ls1 := [vr 11 i0, vi x1, vi x2, vi x3, vi x4, vi x5, vi x6, vi xs0]) D100_132 rfl (show 7 < 8 by decide) rfl) <| Eq.trans (e_aload_n D100_134 rfl rfl) <| Eq.trans (e_iload_n D100_135 rfl rfl) <| Eq.trans (e_iload_n D100_136 rfl rfl) <| e_callV D100_137 rfl o_100 m_11_394 (by decide) rfl rfl
theorem b100_140 {d : Nat} {i0 : Nat} {x1 x2 x3 x4 x5 x6 x7 xs0 : Int} {I L : Nat → Nat → Nat → Int} {t : Nat → Nat} : Res d 100 140 [vr 11 i0, vi x1, vi x2, vi x3, vi x4, vi x5, vi x6, vi x7] [vi xs0] (mk I L t) = if xs0 = 0 then Res d 100 158 [vr 11 i0, vi x1, vi x2, vi x3, vi x4, vi x5, vi x6, vi x7] [] (mk I L t) else Res d 100 143 [vr 11 i0, vi x1, vi x2, vi x3, vi x4, vi x5, vi x6, vi x7] [] (mk I L t) :=
  e_ifeq D100_140 rfl rfl
theorem b100_143 {d : Nat} {i0 : Nat} {x1 x2 x3 x4 x5 x6 x7 : Int} {I L : Nat → Nat → Nat → Int} {t : Nat → Nat} : Res d 100 143 [vr 11 i0, vi x1, vi x2, vi x3, vi x4, vi x5, vi x6, vi x7] [] (mk I L t) = Res d 100 165 [vr 11 i0, vi x1, vi x2, vi x3, vi x4, vi x5, vi x6, vi x7] [vi (w32 (vLdiv (w64 (x6 * x7)) 1000000))] (mk I L t) :=
  Eq.trans (e_iload D100_143 rfl rfl) <| Eq.trans (e_i2l D100_145 rfl) <| Eq.trans (e_iload D100_146 rfl rfl) <| Eq.trans (e_i2l D100_148 rfl) <| Eq.trans (e_lmul D100_149 rfl) <| Eq.trans (e_ldc2 (x := 1000000) D100_150 rfl o_100 l_11_397 rfl) <| Eq.trans (e_ldiv D100_153 rfl (by decide)) <| Eq.trans (e_l2i D100_154 rfl) <| e_goto (q1 := 165) D100_155 rfl
theorem b100_158 {d : Nat} {i0 : Nat} {x1 x2 x3 x4 x5 x6 x7 : Int} {I L : Nat → Nat → Nat → Int} {t : Nat → Nat} : Res (d + 1) 100 158 [vr 11 i0, vi x1, vi x2, vi x3, vi x4, vi x5, vi x6, vi x7] [] (mk I L t) = Res (d + 1) 100 165 [vr 11 i0, vi x1, vi x2, vi x3, vi x4, vi x5, vi x6, vi x7] [vi ((if x7 < x6 then x7 else x6))] (mk I L t) :=
  Eq.trans (e_iload D100_158 rfl rfl) <| Eq.trans (e_iload D100_160 rfl rfl) <| e_min (by omega) D100_162 rfl o_100 m_11_253 (by simp [cw])
theorem b100_165 {d : Nat} {i0 : Nat} {x1 x2 x3 x4 x5 x6 x7 xs0 : Int} {I L : Nat → Nat → Nat → Int} {t : Nat → Nat} : Res d 100 165 [vr 11 i0, vi x1, vi x2, vi x3, vi x4, vi x5, vi x6, vi x7] [vi xs0] (mk I L t) = some (vi xs0, (mk I L t)) :=
  e_iret D100_165 rfl
/-! x_look -/
theorem cc_101 : cod 101 = cX11_look := rfl
theorem D101_0 : decode (cod 101) 0 = .ok (.iload_n 1, 1) := by rw [cc_101]; decide +kernel
theorem D101_1 : decode (cod 101) 1 = .ok (.tableswitch 84 0 6 #[43, 48, 53, 58, 63, 68, 79], 43) := by rw [cc_101]; decide +kernel
theorem D101_44 : decode (cod 101) 44 = .ok (.aload_n 0, 1) := by rw [cc_101]; decide +kernel
theorem D101_45 : decode (cod 101) 45 = .ok (.getfield 137, 3) := by rw [cc_101]; decide +kernel
theorem D101_48 : decode (cod 101) 48 = .ok (.ireturn, 1) := by rw [cc_101]; decide +kernel
theorem D101_49 : decode (cod 101) 49 = .ok (.aload_n 0, 1) := by rw [cc_101]; decide +kernel
theorem D101_50 : decode (cod 101) 50 = .ok (.getfield 80, 3) := by rw [cc_101]; decide +kernel
theorem D101_53 : decode (cod 101) 53 = .ok (.ireturn, 1) := by rw [cc_101]; decide +kernel
theorem D101_54 : decode (cod 101) 54 = .ok (.aload_n 0, 1) := by rw [cc_101]; decide +kernel
theorem D101_55 : decode (cod 101) 55 = .ok (.getfield 140, 3) := by rw [cc_101]; decide +kernel
theorem D101_58 : decode (cod 101) 58 = .ok (.ireturn, 1) := by rw [cc_101]; decide +kernel
theorem D101_59 : decode (cod 101) 59 = .ok (.aload_n 0, 1) := by rw [cc_101]; decide +kernel
theorem D101_60 : decode (cod 101) 60 = .ok (.getfield 191, 3) := by rw [cc_101]; decide +kernel
theorem D101_63 : decode (cod 101) 63 = .ok (.ireturn, 1) := by rw [cc_101]; decide +kernel
theorem D101_64 : decode (cod 101) 64 = .ok (.aload_n 0, 1) := by rw [cc_101]; decide +kernel
theorem D101_65 : decode (cod 101) 65 = .ok (.getfield 335, 3) := by rw [cc_101]; decide +kernel
theorem D101_68 : decode (cod 101) 68 = .ok (.ireturn, 1) := by rw [cc_101]; decide +kernel
theorem D101_69 : decode (cod 101) 69 = .ok (.aload_n 0, 1) := by rw [cc_101]; decide +kernel
theorem D101_70 : decode (cod 101) 70 = .ok (.getfield 29, 3) := by rw [cc_101]; decide +kernel
theorem D101_73 : decode (cod 101) 73 = .ok (.getfield 304, 3) := by rw [cc_101]; decide +kernel
theorem D101_76 : decode (cod 101) 76 = .ok (.getfield 399, 3) := by rw [cc_101]; decide +kernel
theorem D101_79 : decode (cod 101) 79 = .ok (.ireturn, 1) := by rw [cc_101]; decide +kernel
theorem D101_80 : decode (cod 101) 80 = .ok (.aload_n 0, 1) := by rw [cc_101]; decide +kernel
theorem D101_81 : decode (cod 101) 81 = .ok (.getfield 279, 3) := by rw [cc_101]; decide +kernel
theorem D101_84 : decode (cod 101) 84 = .ok (.ireturn, 1) := by rw [cc_101]; decide +kernel
theorem D101_85 : decode (cod 101) 85 = .ok (.iconst (-1), 1) := by rw [cc_101]; decide +kernel
theorem D101_86 : decode (cod 101) 86 = .ok (.ireturn, 1) := by rw [cc_101]; decide +kernel
theorem b101_0_d {d : Nat} {i0 : Nat} {x1 : Int} {I L : Nat → Nat → Nat → Int} {t : Nat → Nat} (gx : x1 < 0 ∨ 6 < x1) : Res d 101 0 [vr 11 i0, vi x1] [] (mk I L t) = Res d 101 85 [vr 11 i0, vi x1] [] (mk I L t) :=
  Eq.trans (e_iload_n D101_0 rfl rfl) <| e_tswD (q1 := 85) D101_1 gx rfl
theorem b101_0_c0 {d : Nat} {i0 : Nat} {x1 : Int} {I L : Nat → Nat → Nat → Int} {t : Nat → Nat} (gx : x1 = 0) : Res d 101 0 [vr 11 i0, vi x1] [] (mk I L t) = Res d 101 44 [vr 11 i0, vi x1] [] (mk I L t) :=
  Eq.trans (e_iload_n D101_0 rfl rfl) <| e_tswK (k := 0) (q1 := 44) D101_1 gx (by decide) rfl rfl
theorem b101_0_c1 {d : Nat} {i0 : Nat} {x1 : Int} {I L : Nat → Nat → Nat → Int} {t : Nat → Nat} (gx : x1 = 1) : Res d 101 0 [vr 11 i0, vi x1] [] (mk I L t) = Res d 101 49 [vr 11 i0, vi x1] [] (mk I L t) :=
  Eq.trans (e_iload_n D101_0 rfl rfl) <| e_tswK (k := 1) (q1 := 49) D101_1 gx (by decide) rfl rfl
theorem b101_0_c2 {d : Nat} {i0 : Nat} {x1 : Int} {I L : Nat → Nat → Nat → Int} {t : Nat → Nat} (gx : x1 = 2) : Res d 101 0 [vr 11 i0, vi x1] [] (mk I L t) = Res d 101 54 [vr 11 i0, vi x1] [] (mk I L t) :=
  Eq.trans (e_iload_n D101_0 rfl rfl) <| e_tswK (k := 2) (q1 := 54) D101_1 gx (by decide) rfl rfl
theorem b101_0_c3 {d : Nat} {i0 : Nat} {x1 : Int} {I L : Nat → Nat → Nat → Int} {t : Nat → Nat} (gx : x1 = 3) : Res d 101 0 [vr 11 i0, vi x1] [] (mk I L t) = Res d 101 59 [vr 11 i0, vi x1] [] (mk I L t) :=
  Eq.trans (e_iload_n D101_0 rfl rfl) <| e_tswK (k := 3) (q1 := 59) D101_1 gx (by decide) rfl rfl
theorem b101_0_c4 {d : Nat} {i0 : Nat} {x1 : Int} {I L : Nat → Nat → Nat → Int} {t : Nat → Nat} (gx : x1 = 4) : Res d 101 0 [vr 11 i0, vi x1] [] (mk I L t) = Res d 101 64 [vr 11 i0, vi x1] [] (mk I L t) :=
  Eq.trans (e_iload_n D101_0 rfl rfl) <| e_tswK (k := 4) (q1 := 64) D101_1 gx (by decide) rfl rfl
theorem b101_0_c5 {d : Nat} {i0 : Nat} {x1 : Int} {I L : Nat → Nat → Nat → Int} {t : Nat → Nat} (gx : x1 = 5) : Res d 101 0 [vr 11 i0, vi x1] [] (mk I L t) = Res d 101 69 [vr 11 i0, vi x1] [] (mk I L t) :=
  Eq.trans (e_iload_n D101_0 rfl rfl) <| e_tswK (k := 5) (q1 := 69) D101_1 gx (by decide) rfl rfl
theorem b101_0_c6 {d : Nat} {i0 : Nat} {x1 : Int} {I L : Nat → Nat → Nat → Int} {t : Nat → Nat} (gx : x1 = 6) : Res d 101 0 [vr 11 i0, vi x1] [] (mk I L t) = Res d 101 80 [vr 11 i0, vi x1] [] (mk I L t) :=
  Eq.trans (e_iload_n D101_0 rfl rfl) <| e_tswK (k := 6) (q1 := 80) D101_1 gx (by decide) rfl rfl
theorem b101_44 {d : Nat} {i0 : Nat} {x1 : Int} {I L : Nat → Nat → Nat → Int} {t : Nat → Nat} : Res d 101 44 [vr 11 i0, vi x1] [] (mk I L t) = some (vi (I 11 i0 16), (mk I L t)) :=
  Eq.trans (e_aload_n D101_44 rfl rfl) <| Eq.trans (e_getI D101_45 rfl o_101 f_11_137 (sh_11 _) (by decide)) <| e_iret D101_48 rfl
theorem b101_49 {d : Nat} {i0 : Nat} {x1 : Int} {I L : Nat → Nat → Nat → Int} {t : Nat → Nat} : Res d 101 49 [vr 11 i0, vi x1] [] (mk I L t) = some (vi (I 11 i0 10), (mk I L t)) :=
  Eq.trans (e_aload_n D101_49 rfl rfl) <| Eq.trans (e_getI D101_50 rfl o_101 f_11_80 (sh_11 _) (by decide)) <| e_iret D101_53 rfl
theorem b101_54 {d : Nat} {i0 : Nat} {x1 : Int} {I L : Nat → Nat → Nat → Int} {t : Nat → Nat} : Res d 101 54 [vr 11 i0, vi x1] [] (mk I L t) = some (vi (I 11 i0 12), (mk I L t)) :=
  Eq.trans (e_aload_n D101_54 rfl rfl) <| Eq.trans (e_getI D101_55 rfl o_101 f_11_140 (sh_11 _) (by decide)) <| e_iret D101_58 rfl
theorem b101_59 {d : Nat} {i0 : Nat} {x1 : Int} {I L : Nat → Nat → Nat → Int} {t : Nat → Nat} : Res d 101 59 [vr 11 i0, vi x1] [] (mk I L t) = some (vi (I 11 i0 13), (mk I L t)) :=
  Eq.trans (e_aload_n D101_59 rfl rfl) <| Eq.trans (e_getI D101_60 rfl o_101 f_11_191 (sh_11 _) (by decide)) <| e_iret D101_63 rfl
theorem b101_64 {d : Nat} {i0 : Nat} {x1 : Int} {I L : Nat → Nat → Nat → Int} {t : Nat → Nat} : Res d 101 64 [vr 11 i0, vi x1] [] (mk I L t) = some (vi (I 11 i0 14), (mk I L t)) :=
  Eq.trans (e_aload_n D101_64 rfl rfl) <| Eq.trans (e_getI D101_65 rfl o_101 f_11_335 (sh_11 _) (by decide)) <| e_iret D101_68 rfl
theorem b101_69 {d : Nat} {i0 : Nat} {x1 : Int} {I L : Nat → Nat → Nat → Int} {t : Nat → Nat} : Res d 101 69 [vr 11 i0, vi x1] [] (mk I L t) = some (vi (I 5 (t 10) 3), (mk I L t)) :=
  Eq.trans (e_aload_n D101_69 rfl rfl) <| Eq.trans (e_getP (p := (8, 0)) D101_70 rfl o_101 f_11_29 (sh_11 _) (by decide) (pp_11_3 _ _)) <| Eq.trans (e_getP (p := (5, t 10)) D101_73 rfl o_101 f_11_304 (sh_8 _) (by decide) (pp_8_3 _)) <| Eq.trans (e_getI D101_76 rfl o_101 f_11_399 (sh_5 _) (by decide)) <| e_iret D101_79 rfl
theorem b101_80 {d : Nat} {i0 : Nat} {x1 : Int} {I L : Nat → Nat → Nat → Int} {t : Nat → Nat} : Res d 101 80 [vr 11 i0, vi x1] [] (mk I L t) = some (vi (I 11 i0 11), (mk I L t)) :=
  Eq.trans (e_aload_n D101_80 rfl rfl) <| Eq.trans (e_getI D101_81 rfl o_101 f_11_279 (sh_11 _) (by decide)) <| e_iret D101_84 rfl
theorem b101_85 {d : Nat} {i0 : Nat} {x1 : Int} {I L : Nat → Nat → Nat → Int} {t : Nat → Nat} : Res d 101 85 [vr 11 i0, vi x1] [] (mk I L t) = some (vi (-1), (mk I L t)) :=
  Eq.trans (e_iconst (x := -1) D101_85 rfl rfl) <| e_iret D101_86 rfl
/-! x_isIn -/
theorem cc_102 : cod 102 = cX11_isIn := rfl
theorem D102_0 : decode (cod 102) 0 = .ok (.iload_n 0, 1) := by rw [cc_102]; decide +kernel
theorem D102_1 : decode (cod 102) 1 = .ok (.iload_n 1, 1) := by rw [cc_102]; decide +kernel
theorem D102_2 : decode (cod 102) 2 = .ok (.if_icmp .lt 12, 3) := by rw [cc_102]; decide +kernel
theorem D102_5 : decode (cod 102) 5 = .ok (.iload_n 0, 1) := by rw [cc_102]; decide +kernel
theorem D102_6 : decode (cod 102) 6 = .ok (.iload_n 2, 1) := by rw [cc_102]; decide +kernel
theorem D102_7 : decode (cod 102) 7 = .ok (.if_icmp .gt 7, 3) := by rw [cc_102]; decide +kernel
theorem D102_10 : decode (cod 102) 10 = .ok (.iconst 1, 1) := by rw [cc_102]; decide +kernel
theorem D102_11 : decode (cod 102) 11 = .ok (.goto 4, 3) := by rw [cc_102]; decide +kernel
theorem D102_14 : decode (cod 102) 14 = .ok (.iconst 0, 1) := by rw [cc_102]; decide +kernel
theorem D102_15 : decode (cod 102) 15 = .ok (.ireturn, 1) := by rw [cc_102]; decide +kernel
theorem b102_0 {d : Nat} {x0 x1 x2 : Int} {I L : Nat → Nat → Nat → Int} {t : Nat → Nat} : Res d 102 0 [vi x0, vi x1, vi x2] [] (mk I L t) = if x0 < x1 then Res d 102 14 [vi x0, vi x1, vi x2] [] (mk I L t) else Res d 102 5 [vi x0, vi x1, vi x2] [] (mk I L t) :=
  Eq.trans (e_iload_n D102_0 rfl rfl) <| Eq.trans (e_iload_n D102_1 rfl rfl) <| e_iclt D102_2 rfl rfl
theorem b102_5 {d : Nat} {x0 x1 x2 : Int} {I L : Nat → Nat → Nat → Int} {t : Nat → Nat} : Res d 102 5 [vi x0, vi x1, vi x2] [] (mk I L t) = if x2 < x0 then Res d 102 14 [vi x0, vi x1, vi x2] [] (mk I L t) else Res d 102 10 [vi x0, vi x1, vi x2] [] (mk I L t) :=
  Eq.trans (e_iload_n D102_5 rfl rfl) <| Eq.trans (e_iload_n D102_6 rfl rfl) <| e_icgt D102_7 rfl rfl
theorem b102_10 {d : Nat} {x0 x1 x2 : Int} {I L : Nat → Nat → Nat → Int} {t : Nat → Nat} : Res d 102 10 [vi x0, vi x1, vi x2] [] (mk I L t) = Res d 102 15 [vi x0, vi x1, vi x2] [vi 1] (mk I L t) :=
  Eq.trans (e_iconst (x := 1) D102_10 rfl rfl) <| e_goto (q1 := 15) D102_11 rfl
theorem b102_14 {d : Nat} {x0 x1 x2 : Int} {I L : Nat → Nat → Nat → Int} {t : Nat → Nat} : Res d 102 14 [vi x0, vi x1, vi x2] [] (mk I L t) = Res d 102 15 [vi x0, vi x1, vi x2] [vi 0] (mk I L t) :=
  e_iconst (x := 0) D102_14 rfl rfl
theorem b102_15 {d : Nat} {x0 x1 x2 xs0 : Int} {I L : Nat → Nat → Nat → Int} {t : Nat → Nat} (g1 : xs0 = 0 ∨ xs0 = 1) : Res d 102 15 [vi x0, vi x1, vi x2] [vi xs0] (mk I L t) = some (vi xs0, (mk I L t)) :=
  e_iret D102_15 (nrz rfl g1)
/-! x_cut -/
theorem cc_103 : cod 103 = cX11_cut := rfl
theorem D103_0 : decode (cod 103) 0 = .ok (.iload_n 1, 1) := by rw [cc_103]; decide +kernel
theorem D103_1 : decode (cod 103) 1 = .ok (.iload_n 2, 1) := by rw [cc_103]; decide +kernel
theorem D103_2 : decode (cod 103) 2 = .ok (.iload_n 0, 1) := by rw [cc_103]; decide +kernel
theorem D103_3 : decode (cod 103) 3 = .ok (.invokestatic 253, 3) := by rw [cc_103]; decide +kernel
theorem D103_6 : decode (cod 103) 6 = .ok (.invokestatic 318, 3) := by rw [cc_103]; decide +kernel
theorem D103_9 : decode (cod 103) 9 = .ok (.ireturn, 1) := by rw [cc_103]; decide +kernel
theorem b103_0 {d : Nat} {x0 x1 x2 : Int} {I L : Nat → Nat → Nat → Int} {t : Nat → Nat} : Res (d + 1) 103 0 [vi x0, vi x1, vi x2] [] (mk I L t) = some (vi ((if x1 < (if x0 < x2 then x0 else x2) then (if x0 < x2 then x0 else x2) else x1)), (mk I L t)) :=
  Eq.trans (e_iload_n D103_0 rfl rfl) <| Eq.trans (e_iload_n D103_1 rfl rfl) <| Eq.trans (e_iload_n D103_2 rfl rfl) <| Eq.trans (e_min (by omega) D103_3 rfl o_103 m_11_253 (by simp [cw])) <| Eq.trans (e_max (by omega) D103_6 rfl o_103 m_11_318 (by simp [cw])) <| e_iret D103_9 rfl
/-! x_isFace -/
theorem cc_104 : cod 104 = cX11_isFace := rfl
theorem D104_0 : decode (cod 104) 0 = .ok (.iload_n 1, 1) := by rw [cc_104]; decide +kernel
theorem D104_1 : decode (cod 104) 1 = .ok (.iconst 0, 1) := by rw [cc_104]; decide +kernel
theorem D104_2 : decode (cod 104) 2 = .ok (.aload_n 0, 1) := by rw [cc_104]; decide +kernel
theorem D104_3 : decode (cod 104) 3 = .ok (.getfield 80, 3) := by rw [cc_104]; decide +kernel
theorem D104_6 : decode (cod 104) 6 = .ok (.iconst 1, 1) := by rw [cc_104]; decide +kernel
theorem D104_7 : decode (cod 104) 7 = .ok (.isub, 1) := by rw [cc_104]; decide +kernel
theorem D104_8 : decode (cod 104) 8 = .ok (.invokestatic 76, 3) := by rw [cc_104]; decide +kernel
theorem D104_11 : decode (cod 104) 11 = .ok (.ireturn, 1) := by rw [cc_104]; decide +kernel
theorem b104_0 {d : Nat} {i0 : Nat} {x1 : Int} {I L : Nat → Nat → Nat → Int} {t : Nat → Nat} : Res (d + 1) 104 0 [vr 11 i0, vi x1] [] (mk I L t) = (Cal d 102 [vi x1, vi 0, vi (w32 ((I 11 i0 10) - 1))] (mk I L t)).bind fun v => Res (d + 1) 104 11 [vr 11 i0, vi x1] (psh 102 v.1 []) v.2 :=
  Eq.trans (e_iload_n D104_0 rfl rfl) <| Eq.trans (e_iconst (x := 0) D104_1 rfl rfl) <| Eq.trans (e_aload_n D104_2 rfl rfl) <| Eq.trans (e_getI D104_3 rfl o_104 f_11_80 (sh_11 _) (by decide)) <| Eq.trans (e_iconst (x := 1) D104_6 rfl rfl) <| Eq.trans (e_isub D104_7 rfl) <| e_callS D104_8 rfl o_104 m_11_76 (by decide) rfl rfl
theorem b104_11 {d : Nat} {i0 : Nat} {x1 xs0 : Int} {I L : Nat → Nat → Nat → Int} {t : Nat → Nat} (g1 : xs0 = 0 ∨ xs0 = 1) : Res d 104 11 [vr 11 i0, vi x1] [vi xs0] (mk I L t) = some (vi xs0, (mk I L t)) :=
  e_iret D104_11 (nrz rfl g1)
/-! x_isRow -/
theorem cc_105 : cod 105 = cX11_isRow := rfl
theorem D105_0 : decode (cod 105) 0 = .ok (.iload_n 1, 1) := by rw [cc_105]; decide +kernel
theorem D105_1 : decode (cod 105) 1 = .ok (.iconst 0, 1) := by rw [cc_105]; decide +kernel
theorem D105_2 : decode (cod 105) 2 = .ok (.iconst 5, 1) := by rw [cc_105]; decide +kernel
theorem D105_3 : decode (cod 105) 3 = .ok (.invokestatic 76, 3) := by rw [cc_105]; decide +kernel
theorem D105_6 : decode (cod 105) 6 = .ok (.ireturn, 1) := by rw [cc_105]; decide +kernel
theorem b105_0 {d : Nat} {i0 : Nat} {x1 : Int} {I L : Nat → Nat → Nat → Int} {t : Nat → Nat} : Res (d + 1) 105 0 [vr 11 i0, vi x1] [] (mk I L t) = (Cal d 102 [vi x1, vi 0, vi 5] (mk I L t)).bind fun v => Res (d + 1) 105 6 [vr 11 i0, vi x1] (psh 102 v.1 []) v.2 :=
  Eq.trans (e_iload_n D105_0 rfl rfl) <| Eq.trans (e_iconst (x := 0) D105_1 rfl rfl) <| Eq.trans (e_iconst (x := 5) D105_2 rfl rfl) <| e_callS D105_3 rfl o_105 m_11_76 (by decide) rfl rfl
theorem b105_6 {d : Nat} {i0 : Nat} {x1 xs0 : Int} {I L : Nat → Nat → Nat → Int} {t : Nat → Nat} (g1 : xs0 = 0 ∨ xs0 = 1) : Res d 105 6 [vr 11 i0, vi x1] [vi xs0] (mk I L t) = some (vi xs0, (mk I L t)) :=
  e_iret D105_6 (nrz rfl g1)
/-! x_isMind -/
theorem cc_106 : cod 106 = cX11_isMind := rfl
theorem D106_0 : decode (cod 106) 0 = .ok (.iload_n 1, 1) := by rw [cc_106]; decide +kernel
theorem D106_1 : decode (cod 106) 1 = .ok (.iconst 0, 1) := by rw [cc_106]; decide +kernel
theorem D106_2 : decode (cod 106) 2 = .ok (.aload_n 0, 1) := by rw [cc_106]; decide +kernel
theorem D106_3 : decode (cod 106) 3 = .ok (.getfield 140, 3) := by rw [cc_106]; decide +kernel
theorem D106_6 : decode (cod 106) 6 = .ok (.iconst 1, 1) := by rw [cc_106]; decide +kernel
theorem D106_7 : decode (cod 106) 7 = .ok (.isub, 1) := by rw [cc_106]; decide +kernel
theorem D106_8 : decode (cod 106) 8 = .ok (.invokestatic 76, 3) := by rw [cc_106]; decide +kernel
theorem D106_11 : decode (cod 106) 11 = .ok (.ireturn, 1) := by rw [cc_106]; decide +kernel
theorem b106_0 {d : Nat} {i0 : Nat} {x1 : Int} {I L : Nat → Nat → Nat → Int} {t : Nat → Nat} : Res (d + 1) 106 0 [vr 11 i0, vi x1] [] (mk I L t) = (Cal d 102 [vi x1, vi 0, vi (w32 ((I 11 i0 12) - 1))] (mk I L t)).bind fun v => Res (d + 1) 106 11 [vr 11 i0, vi x1] (psh 102 v.1 []) v.2 :=
  Eq.trans (e_iload_n D106_0 rfl rfl) <| Eq.trans (e_iconst (x := 0) D106_1 rfl rfl) <| Eq.trans (e_aload_n D106_2 rfl rfl) <| Eq.trans (e_getI D106_3 rfl o_106 f_11_140 (sh_11 _) (by decide)) <| Eq.trans (e_iconst (x := 1) D106_6 rfl rfl) <| Eq.trans (e_isub D106_7 rfl) <| e_callS D106_8 rfl o_106 m_11_76 (by decide) rfl rfl
theorem b106_11 {d : Nat} {i0 : Nat} {x1 xs0 : Int} {I L : Nat → Nat → Nat → Int} {t : Nat → Nat} (g1 : xs0 = 0 ∨ xs0 = 1) : Res d 106 11 [vr 11 i0, vi x1] [vi xs0] (mk I L t) = some (vi xs0, (mk I L t)) :=
  e_iret D106_11 (nrz rfl g1)
/-! x_isShowing -/
theorem cc_107 : cod 107 = cX11_isShowing := rfl
theorem D107_0 : decode (cod 107) 0 = .ok (.iload_n 1, 1) := by rw [cc_107]; decide +kernel
theorem D107_1 : decode (cod 107) 1 = .ok (.iconst 0, 1) := by rw [cc_107]; decide +kernel
theorem D107_2 : decode (cod 107) 2 = .ok (.aload_n 0, 1) := by rw [cc_107]; decide +kernel
theorem D107_3 : decode (cod 107) 3 = .ok (.getfield 191, 3) := by rw [cc_107]; decide +kernel
theorem D107_6 : decode (cod 107) 6 = .ok (.iconst 1, 1) := by rw [cc_107]; decide +kernel
theorem D107_7 : decode (cod 107) 7 = .ok (.isub, 1) := by rw [cc_107]; decide +kernel
theorem D107_8 : decode (cod 107) 8 = .ok (.invokestatic 76, 3) := by rw [cc_107]; decide +kernel
theorem D107_11 : decode (cod 107) 11 = .ok (.ireturn, 1) := by rw [cc_107]; decide +kernel
theorem b107_0 {d : Nat} {i0 : Nat} {x1 : Int} {I L : Nat → Nat → Nat → Int} {t : Nat → Nat} : Res (d + 1) 107 0 [vr 11 i0, vi x1] [] (mk I L t) = (Cal d 102 [vi x1, vi 0, vi (w32 ((I 11 i0 13) - 1))] (mk I L t)).bind fun v => Res (d + 1) 107 11 [vr 11 i0, vi x1] (psh 102 v.1 []) v.2 :=
  Eq.trans (e_iload_n D107_0 rfl rfl) <| Eq.trans (e_iconst (x := 0) D107_1 rfl rfl) <| Eq.trans (e_aload_n D107_2 rfl rfl) <| Eq.trans (e_getI D107_3 rfl o_107 f_11_191 (sh_11 _) (by decide)) <| Eq.trans (e_iconst (x := 1) D107_6 rfl rfl) <| Eq.trans (e_isub D107_7 rfl) <| e_callS D107_8 rfl o_107 m_11_76 (by decide) rfl rfl
theorem b107_11 {d : Nat} {i0 : Nat} {x1 xs0 : Int} {I L : Nat → Nat → Nat → Int} {t : Nat → Nat} (g1 : xs0 = 0 ∨ xs0 = 1) : Res d 107 11 [vr 11 i0, vi x1] [vi xs0] (mk I L t) = some (vi xs0, (mk I L t)) :=
  e_iret D107_11 (nrz rfl g1)
/-! x_isEarlier -/
theorem cc_108 : cod 108 = cX11_isEarlier := rfl
theorem D108_0 : decode (cod 108) 0 = .ok (.aload_n 0, 1) := by rw [cc_108]; decide +kernel
theorem D108_1 : decode (cod 108) 1 = .ok (.iload_n 1, 1) := by rw [cc_108]; decide +kernel
theorem D108_2 : decode (cod 108) 2 = .ok (.invokevirtual 244, 3) := by rw [cc_108]; decide +kernel
theorem D108_5 : decode (cod 108) 5 = .ok (.ifCond .eq 41, 3) := by rw [cc_108]; decide +kernel
theorem D108_8 : decode (cod 108) 8 = .ok (.aload_n 0, 1) := by rw [cc_108]; decide +kernel
theorem D108_9 : decode (cod 108) 9 = .ok (.iload_n 2, 1) := by rw [cc_108]; decide +kernel
theorem D108_10 : decode (cod 108) 10 = .ok (.invokevirtual 244, 3) := by rw [cc_108]; decide +kernel
theorem D108_13 : decode (cod 108) 13 = .ok (.ifCond .eq 33, 3) := by rw [cc_108]; decide +kernel
theorem D108_16 : decode (cod 108) 16 = .ok (.iload_n 1, 1) := by rw [cc_108]; decide +kernel
theorem D108_17 : decode (cod 108) 17 = .ok (.iload_n 2, 1) := by rw [cc_108]; decide +kernel
theorem D108_18 : decode (cod 108) 18 = .ok (.if_icmp .ge 28, 3) := by rw [cc_108]; decide +kernel
theorem D108_21 : decode (cod 108) 21 = .ok (.aload_n 0, 1) := by rw [cc_108]; decide +kernel
theorem D108_22 : decode (cod 108) 22 = .ok (.getfield 41, 3) := by rw [cc_108]; decide +kernel
theorem D108_25 : decode (cod 108) 25 = .ok (.iload_n 1, 1) := by rw [cc_108]; decide +kernel
theorem D108_26 : decode (cod 108) 26 = .ok (.aaload, 1) := by rw [cc_108]; decide +kernel
theorem D108_27 : decode (cod 108) 27 = .ok (.getfield 197, 3) := by rw [cc_108]; decide +kernel
theorem D108_30 : decode (cod 108) 30 = .ok (.aload_n 0, 1) := by rw [cc_108]; decide +kernel
theorem D108_31 : decode (cod 108) 31 = .ok (.getfield 41, 3) := by rw [cc_108]; decide +kernel
theorem D108_34 : decode (cod 108) 34 = .ok (.iload_n 2, 1) := by rw [cc_108]; decide +kernel
theorem D108_35 : decode (cod 108) 35 = .ok (.aaload, 1) := by rw [cc_108]; decide +kernel
theorem D108_36 : decode (cod 108) 36 = .ok (.getfield 197, 3) := by rw [cc_108]; decide +kernel
theorem D108_39 : decode (cod 108) 39 = .ok (.if_icmp .ne 7, 3) := by rw [cc_108]; decide +kernel
theorem D108_42 : decode (cod 108) 42 = .ok (.iconst 1, 1) := by rw [cc_108]; decide +kernel
theorem D108_43 : decode (cod 108) 43 = .ok (.goto 4, 3) := by rw [cc_108]; decide +kernel
theorem D108_46 : decode (cod 108) 46 = .ok (.iconst 0, 1) := by rw [cc_108]; decide +kernel
theorem D108_47 : decode (cod 108) 47 = .ok (.ireturn, 1) := by rw [cc_108]; decide +kernel
theorem b108_0 {d : Nat} {i0 : Nat} {x1 x2 : Int} {I L : Nat → Nat → Nat → Int} {t : Nat → Nat} : Res (d + 1) 108 0 [vr 11 i0, vi x1, vi x2] [] (mk I L t) = (Cal d 107 [vr 11 i0, vi x1] (mk I L t)).bind fun v => Res (d + 1) 108 5 [vr 11 i0, vi x1, vi x2] (psh 107 v.1 []) v.2 :=
  Eq.trans (e_aload_n D108_0 rfl rfl) <| Eq.trans (e_iload_n D108_1 rfl rfl) <| e_callV D108_2 rfl o_108 m_11_244 (by decide) rfl rfl
theorem b108_5 {d : Nat} {i0 : Nat} {x1 x2 xs0 : Int} {I L : Nat → Nat → Nat → Int} {t : Nat → Nat} : Res d 108 5 [vr 11 i0, vi x1, vi x2] [vi xs0] (mk I L t) = if xs0 = 0 then Res d 108 46 [vr 11 i0, vi x1, vi x2] [] (mk I L t) else Res d 108 8 [vr 11 i0, vi x1, vi x2] [] (mk I L t) :=
  e_ifeq D108_5 rfl rfl
theorem b108_8 {d : Nat} {i0 : Nat} {x1 x2 : Int} {I L : Nat → Nat → Nat → Int} {t : Nat → Nat} : Res (d + 1) 108 8 [vr 11 i0, vi x1, vi x2] [] (mk I L t) = (Cal d 107 [vr 11 i0, vi x2] (mk I L t)).bind fun v => Res (d + 1) 108 13 [vr 11 i0, vi x1, vi x2] (psh 107 v.1 []) v.2 :=
  Eq.trans (e_aload_n D108_8 rfl rfl) <| Eq.trans (e_iload_n D108_9 rfl rfl) <| e_callV D108_10 rfl o_108 m_11_244 (by decide) rfl rfl
theorem b108_13 {d : Nat} {i0 : Nat} {x1 x2 xs0 : Int} {I L : Nat → Nat → Nat → Int} {t : Nat → Nat} : Res d 108 13 [vr 11 i0, vi x1, vi x2] [vi xs0] (mk I L t) = if xs0 = 0 then Res d 108 46 [vr 11 i0, vi x1, vi x2] [] (mk I L t) else Res d 108 16 [vr 11 i0, vi x1, vi x2] [] (mk I L t) :=
  e_ifeq D108_13 rfl rfl
theorem b108_16 {d : Nat} {i0 : Nat} {x1 x2 : Int} {I L : Nat → Nat → Nat → Int} {t : Nat → Nat} : Res d 108 16 [vr 11 i0, vi x1, vi x2] [] (mk I L t) = if x2 ≤ x1 then Res d 108 46 [vr 11 i0, vi x1, vi x2] [] (mk I L t) else Res d 108 21 [vr 11 i0, vi x1, vi x2] [] (mk I L t) :=
  Eq.trans (e_iload_n D108_16 rfl rfl) <| Eq.trans (e_iload_n D108_17 rfl rfl) <| e_icge D108_18 rfl rfl
theorem b108_21 {d : Nat} {i0 : Nat} {x1 x2 : Int} {I L : Nat → Nat → Nat → Int} {t : Nat → Nat} (g1 : 0 ≤ x1 ∧ x1 < 100) (g2 : 0 ≤ x2 ∧ x2 < 100) : Res d 108 21 [vr 11 i0, vi x1, vi x2] [] (mk I L t) = if ¬ I 6 x1.toNat 1 = I 6 x2.toNat 1 then Res d 108 46 [vr 11 i0, vi x1, vi x2] [] (mk I L t) else Res d 108 42 [vr 11 i0, vi x1, vi x2] [] (mk I L t) :=
  Eq.trans (e_aload_n D108_21 rfl rfl) <| Eq.trans (e_getP (p := (44, i0)) D108_22 rfl o_108 f_11_41 (sh_11 _) (by decide) (pp_11_5 _ _)) <| Eq.trans (e_iload_n D108_25 rfl rfl) <| Eq.trans (e_aald (p := (6, x1.toNat)) D108_26 rfl (ae_44 _) (aq_44 _) (pa_44 _ _ _) g1) <| Eq.trans (e_getI D108_27 rfl o_108 f_11_197 (sh_6 _) (by decide)) <| Eq.trans (e_aload_n D108_30 rfl rfl) <| Eq.trans (e_getP (p := (44, i0)) D108_31 rfl o_108 f_11_41 (sh_11 _) (by decide) (pp_11_5 _ _)) <| Eq.trans (e_iload_n D108_34 rfl rfl) <| Eq.trans (e_aald (p := (6, x2.toNat)) D108_35 rfl (ae_44 _) (aq_44 _) (pa_44 _ _ _) g2) <| Eq.trans (e_getI D108_36 rfl o_108 f_11_197 (sh_6 _) (by decide)) <| e_icne D108_39 rfl rfl
theorem b108_42 {d : Nat} {i0 : Nat} {x1 x2 : Int} {I L : Nat → Nat → Nat → Int} {t : Nat → Nat} : Res d 108 42 [vr 11 i0, vi x1, vi x2] [] (mk I L t) = Res d 108 47 [vr 11 i0, vi x1, vi x2] [vi 1] (mk I L t) :=
  Eq.trans (e_iconst (x := 1) D108_42 rfl rfl) <| e_goto (q1 := 47) D108_43 rfl
theorem b108_46 {d : Nat} {i0 : Nat} {x1 x2 : Int} {I L : Nat → Nat → Nat → Int} {t : Nat → Nat} : Res d 108 46 [vr 11 i0, vi x1, vi x2] [] (mk I L t) = Res d 108 47 [vr 11 i0, vi x1, vi x2] [vi 0] (mk I L t) :=
  e_iconst (x := 0) D108_46 rfl rfl
theorem b108_47 {d : Nat} {i0 : Nat} {x1 x2 xs0 : Int} {I L : Nat → Nat → Nat → Int} {t : Nat → Nat} (g1 : xs0 = 0 ∨ xs0 = 1) : Res d 108 47 [vr 11 i0, vi x1, vi x2] [vi xs0] (mk I L t) = some (vi xs0, (mk I L t)) :=
  e_iret D108_47 (nrz rfl g1)
/-! x_canSee -/
theorem cc_109 : cod 109 = cX11_canSee := rfl
theorem D109_0 : decode (cod 109) 0 = .ok (.iload_n 1, 1) := by rw [cc_109]; decide +kernel
theorem D109_1 : decode (cod 109) 1 = .ok (.iconst 0, 1) := by rw [cc_109]; decide +kernel
theorem D109_2 : decode (cod 109) 2 = .ok (.iconst 3, 1) := by rw [cc_109]; decide +kernel
theorem D109_3 : decode (cod 109) 3 = .ok (.invokestatic 76, 3) := by rw [cc_109]; decide +kernel
theorem D109_6 : decode (cod 109) 6 = .ok (.ifCond .eq 58, 3) := by rw [cc_109]; decide +kernel
theorem D109_9 : decode (cod 109) 9 = .ok (.iload_n 2, 1) := by rw [cc_109]; decide +kernel
theorem D109_10 : decode (cod 109) 10 = .ok (.iconst 0, 1) := by rw [cc_109]; decide +kernel
theorem D109_11 : decode (cod 109) 11 = .ok (.iconst 5, 1) := by rw [cc_109]; decide +kernel
theorem D109_12 : decode (cod 109) 12 = .ok (.invokestatic 76, 3) := by rw [cc_109]; decide +kernel
theorem D109_15 : decode (cod 109) 15 = .ok (.ifCond .eq 49, 3) := by rw [cc_109]; decide +kernel
theorem D109_18 : decode (cod 109) 18 = .ok (.aload_n 0, 1) := by rw [cc_109]; decide +kernel
theorem D109_19 : decode (cod 109) 19 = .ok (.iload_n 3, 1) := by rw [cc_109]; decide +kernel
theorem D109_20 : decode (cod 109) 20 = .ok (.invokevirtual 94, 3) := by rw [cc_109]; decide +kernel
theorem D109_23 : decode (cod 109) 23 = .ok (.ifCond .eq 41, 3) := by rw [cc_109]; decide +kernel
theorem D109_26 : decode (cod 109) 26 = .ok (.iload 4, 2) := by rw [cc_109]; decide +kernel
theorem D109_28 : decode (cod 109) 28 = .ok (.iconst 0, 1) := by rw [cc_109]; decide +kernel
theorem D109_29 : decode (cod 109) 29 = .ok (.sipush 999, 3) := by rw [cc_109]; decide +kernel
theorem D109_32 : decode (cod 109) 32 = .ok (.invokestatic 76, 3) := by rw [cc_109]; decide +kernel
theorem D109_35 : decode (cod 109) 35 = .ok (.ifCond .eq 29, 3) := by rw [cc_109]; decide +kernel
theorem D109_38 : decode (cod 109) 38 = .ok (.iload 5, 2) := by rw [cc_109]; decide +kernel
theorem D109_40 : decode (cod 109) 40 = .ok (.iconst 0, 1) := by rw [cc_109]; decide +kernel
theorem D109_41 : decode (cod 109) 41 = .ok (.bipush 9, 2) := by rw [cc_109]; decide +kernel
theorem D109_43 : decode (cod 109) 43 = .ok (.invokestatic 76, 3) := by rw [cc_109]; decide +kernel
theorem D109_46 : decode (cod 109) 46 = .ok (.ifCond .eq 18, 3) := by rw [cc_109]; decide +kernel
theorem D109_49 : decode (cod 109) 49 = .ok (.iload 6, 2) := by rw [cc_109]; decide +kernel
theorem D109_51 : decode (cod 109) 51 = .ok (.iconst 0, 1) := by rw [cc_109]; decide +kernel
theorem D109_52 : decode (cod 109) 52 = .ok (.bipush 9, 2) := by rw [cc_109]; decide +kernel
theorem D109_54 : decode (cod 109) 54 = .ok (.invokestatic 76, 3) := by rw [cc_109]; decide +kernel
theorem D109_57 : decode (cod 109) 57 = .ok (.ifCond .eq 7, 3) := by rw [cc_109]; decide +kernel
theorem D109_60 : decode (cod 109) 60 = .ok (.iconst 1, 1) := by rw [cc_109]; decide +kernel
theorem D109_61 : decode (cod 109) 61 = .ok (.goto 4, 3) := by rw [cc_109]; decide +kernel
theorem D109_64 : decode (cod 109) 64 = .ok (.iconst 0, 1) := by rw [cc_109]; decide +kernel
theorem D109_65 : decode (cod 109) 65 = .ok (.ireturn, 1) := by rw [cc_109]; decide +kernel
theorem b109_0 {d : Nat} {i0 : Nat} {x1 x2 x3 x4 x5 x6 : Int} {I L : Nat → Nat → Nat → Int} {t : Nat → Nat} : Res (d + 1) 109 0 [vr 11 i0, vi x1, vi x2, vi x3, vi x4, vi x5, vi x6] [] (mk I L t) = (Cal d 102 [vi x1, vi 0, vi 3] (mk I L t)).bind fun v => Res (d + 1) 109 6 [vr 11 i0, vi x1, vi x2, vi x3, vi x4, vi x5, vi x6] (psh 102 v.1 []) v.2 :=
  Eq.trans (e_iload_n D109_0 rfl rfl) <| Eq.trans (e_iconst (x := 0) D109_1 rfl rfl) <| Eq.trans (e_iconst (x := 3) D109_2 rfl rfl) <| e_callS D109_3 rfl o_109 m_11_76 (by decide) rfl rfl
theorem b109_6 {d : Nat} {i0 : Nat} {x1 x2 x3 x4 x5 x6 xs0 : Int} {I L : Nat → Nat → Nat → Int} {t : Nat → Nat} : Res d 109 6 [vr 11 i0, vi x1, vi x2, vi x3, vi x4, vi x5, vi x6] [vi xs0] (mk I L t) = if xs0 = 0 then Res d 109 64 [vr 11 i0, vi x1, vi x2, vi x3, vi x4, vi x5, vi x6] [] (mk I L t) else Res d 109 9 [vr 11 i0, vi x1, vi x2, vi x3, vi x4, vi x5, vi x6] [] (mk I L t) :=
  e_ifeq D109_6 rfl rfl
theorem b109_9 {d : Nat} {i0 : Nat} {x1 x2 x3 x4 x5 x6 : Int} {I L : Nat → Nat → Nat → Int} {t : Nat → Nat} : Res (d + 1) 109 9 [vr 11 i0, vi x1, vi x2, vi x3, vi x4, vi x5, vi x6] [] (mk I L t) = (Cal d 102 [vi x2, vi 0, vi 5] (mk I L t)).bind fun v => Res (d + 1) 109 15 [vr 11 i0, vi x1, vi x2, vi x3, vi x4, vi x5, vi x6] (psh 102 v.1 []) v.2 :=
  Eq.trans (e_iload_n D109_9 rfl rfl) <| Eq.trans (e_iconst (x := 0) D109_10 rfl rfl) <| Eq.trans (e_iconst (x := 5) D109_11 rfl rfl) <| e_callS D109_12 rfl o_109 m_11_76 (by decide) rfl rfl
theorem b109_15 {d : Nat} {i0 : Nat} {x1 x2 x3 x4 x5 x6 xs0 : Int} {I L : Nat → Nat → Nat → Int} {t : Nat → Nat} : Res d 109 15 [vr 11 i0, vi x1, vi x2, vi x3, vi x4, vi x5, vi x6] [vi xs0] (mk I L t) = if xs0 = 0 then Res d 109 64 [vr 11 i0, vi x1, vi x2, vi x3, vi x4, vi x5, vi x6] [] (mk I L t) else Res d 109 18 [vr 11 i0, vi x1, vi x2, vi x3, vi x4, vi x5, vi x6] [] (mk I L t) :=
  e_ifeq D109_15 rfl rfl
theorem b109_18 {d : Nat} {i0 : Nat} {x1 x2 x3 x4 x5 x6 : Int} {I L : Nat → Nat → Nat → Int} {t : Nat → Nat} : Res (d + 1) 109 18 [vr 11 i0, vi x1, vi x2, vi x3, vi x4, vi x5, vi x6] [] (mk I L t) = (Cal d 104 [vr 11 i0, vi x3] (mk I L t)).bind fun v => Res (d + 1) 109 23 [vr 11 i0, vi x1, vi x2, vi x3, vi x4, vi x5, vi x6] (psh 104 v.1 []) v.2 :=
  Eq.trans (e_aload_n D109_18 rfl rfl) <| Eq.trans (e_iload_n D109_19 rfl rfl) <| e_callV D109_20 rfl o_109 m_11_94 (by decide) rfl rfl
theorem b109_23 {d : Nat} {i0 : Nat} {x1 x2 x3 x4 x5 x6 xs0 : Int} {I L : Nat → Nat → Nat → Int} {t : Nat → Nat} : Res d 109 23 [vr 11 i0, vi x1, vi x2, vi x3, vi x4, vi x5, vi x6] [vi xs0] (mk I L t) = if xs0 = 0 then Res d 109 64 [vr 11 i0, vi x1, vi x2, vi x3, vi x4, vi x5, vi x6] [] (mk I L t) else Res d 109 26 [vr 11 i0, vi x1, vi x2, vi x3, vi x4, vi x5, vi x6] [] (mk I L t) :=
  e_ifeq D109_23 rfl rfl
theorem b109_26 {d : Nat} {i0 : Nat} {x1 x2 x3 x4 x5 x6 : Int} {I L : Nat → Nat → Nat → Int} {t : Nat → Nat} : Res (d + 1) 109 26 [vr 11 i0, vi x1, vi x2, vi x3, vi x4, vi x5, vi x6] [] (mk I L t) = (Cal d 102 [vi x4, vi 0, vi 999] (mk I L t)).bind fun v => Res (d + 1) 109 35 [vr 11 i0, vi x1, vi x2, vi x3, vi x4, vi x5, vi x6] (psh 102 v.1 []) v.2 :=
  Eq.trans (e_iload D109_26 rfl rfl) <| Eq.trans (e_iconst (x := 0) D109_28 rfl rfl) <| Eq.trans (e_sipush (x := 999) D109_29 rfl rfl) <| e_callS D109_32 rfl o_109 m_11_76 (by decide) rfl rfl
theorem b109_35 {d : Nat} {i0 : Nat} {x1 x2 x3 x4 x5 x6 xs0 : Int} {I L : Nat → Nat → Nat → Int} {t : Nat → Nat} : Res d 109 35 [vr 11 i0, vi x1, vi x2, vi x3, vi x4, vi x5, vi x6] [vi xs0] (mk I L t) = if xs0 = 0 then Res d 109 64 [vr 11 i0, vi x1, vi x2, vi x3, vi x4, vi x5, vi x6] [] (mk I L t) else Res d 109 38 [vr 11 i0, vi x1, vi x2, vi x3, vi x4, vi x5, vi x6] [] (mk I L t) :=
  e_ifeq D109_35 rfl rfl
theorem b109_38 {d : Nat} {i0 : Nat} {x1 x2 x3 x4 x5 x6 : Int} {I L : Nat → Nat → Nat → Int} {t : Nat → Nat} : Res (d + 1) 109 38 [vr 11 i0, vi x1, vi x2, vi x3, vi x4, vi x5, vi x6] [] (mk I L t) = (Cal d 102 [vi x5, vi 0, vi 9] (mk I L t)).bind fun v => Res (d + 1) 109 46 [vr 11 i0, vi x1, vi x2, vi x3, vi x4, vi x5, vi x6] (psh 102 v.1 []) v.2 :=
  Eq.trans (e_iload D109_38 rfl rfl) <| Eq.trans (e_iconst (x := 0) D109_40 rfl rfl) <| Eq.trans (e_bipush (x := 9) D109_41 rfl rfl) <| e_callS D109_43 rfl o_109 m_11_76 (by decide) rfl rfl
theorem b109_46 {d : Nat} {i0 : Nat} {x1 x2 x3 x4 x5 x6 xs0 : Int} {I L : Nat → Nat → Nat → Int} {t : Nat → Nat} : Res d 109 46 [vr 11 i0, vi x1, vi x2, vi x3, vi x4, vi x5, vi x6] [vi xs0] (mk I L t) = if xs0 = 0 then Res d 109 64 [vr 11 i0, vi x1, vi x2, vi x3, vi x4, vi x5, vi x6] [] (mk I L t) else Res d 109 49 [vr 11 i0, vi x1, vi x2, vi x3, vi x4, vi x5, vi x6] [] (mk I L t) :=
  e_ifeq D109_46 rfl rfl
theorem b109_49 {d : Nat} {i0 : Nat} {x1 x2 x3 x4 x5 x6 : Int} {I L : Nat → Nat → Nat → Int} {t : Nat → Nat} : Res (d + 1) 109 49 [vr 11 i0, vi x1, vi x2, vi x3, vi x4, vi x5, vi x6] [] (mk I L t) = (Cal d 102 [vi x6, vi 0, vi 9] (mk I L t)).bind fun v => Res (d + 1) 109 57 [vr 11 i0, vi x1, vi x2, vi x3, vi x4, vi x5, vi x6] (psh 102 v.1 []) v.2 :=
  Eq.trans (e_iload D109_49 rfl rfl) <| Eq.trans (e_iconst (x := 0) D109_51 rfl rfl) <| Eq.trans (e_bipush (x := 9) D109_52 rfl rfl) <| e_callS D109_54 rfl o_109 m_11_76 (by decide) rfl rfl
theorem b109_57 {d : Nat} {i0 : Nat} {x1 x2 x3 x4 x5 x6 xs0 : Int} {I L : Nat → Nat → Nat → Int} {t : Nat → Nat} : Res d 109 57 [vr 11 i0, vi x1, vi x2, vi x3, vi x4, vi x5, vi x6] [vi xs0] (mk I L t) = if xs0 = 0 then Res d 109 64 [vr 11 i0, vi x1, vi x2, vi x3, vi x4, vi x5, vi x6] [] (mk I L t) else Res d 109 60 [vr 11 i0, vi x1, vi x2, vi x3, vi x4, vi x5, vi x6] [] (mk I L t) :=
  e_ifeq D109_57 rfl rfl
theorem b109_60 {d : Nat} {i0 : Nat} {x1 x2 x3 x4 x5 x6 : Int} {I L : Nat → Nat → Nat → Int} {t : Nat → Nat} : Res d 109 60 [vr 11 i0, vi x1, vi x2, vi x3, vi x4, vi x5, vi x6] [] (mk I L t) = Res d 109 65 [vr 11 i0, vi x1, vi x2, vi x3, vi x4, vi x5, vi x6] [vi 1] (mk I L t) :=
  Eq.trans (e_iconst (x := 1) D109_60 rfl rfl) <| e_goto (q1 := 65) D109_61 rfl
theorem b109_64 {d : Nat} {i0 : Nat} {x1 x2 x3 x4 x5 x6 : Int} {I L : Nat → Nat → Nat → Int} {t : Nat → Nat} : Res d 109 64 [vr 11 i0, vi x1, vi x2, vi x3, vi x4, vi x5, vi x6] [] (mk I L t) = Res d 109 65 [vr 11 i0, vi x1, vi x2, vi x3, vi x4, vi x5, vi x6] [vi 0] (mk I L t) :=
  e_iconst (x := 0) D109_64 rfl rfl
theorem b109_65 {d : Nat} {i0 : Nat} {x1 x2 x3 x4 x5 x6 xs0 : Int} {I L : Nat → Nat → Nat → Int} {t : Nat → Nat} (g1 : xs0 = 0 ∨ xs0 = 1) : Res d 109 65 [vr 11 i0, vi x1, vi x2, vi x3, vi x4, vi x5, vi x6] [vi xs0] (mk I L t) = some (vi xs0, (mk I L t)) :=
  e_iret D109_65 (nrz rfl g1)
/-! x_canLead -/
theorem cc_110 : cod 110 = cX11_canLead := rfl
theorem D110_0 : decode (cod 110) 0 = .ok (.iload_n 2, 1) := by rw [cc_110]; decide +kernel
theorem D110_1 : decode (cod 110) 1 = .ok (.iconst 0, 1) := by rw [cc_110]; decide +kernel
theorem D110_2 : decode (cod 110) 2 = .ok (.bipush 99, 2) := by rw [cc_110]; decide +kernel
theorem D110_4 : decode (cod 110) 4 = .ok (.invokestatic 76, 3) := by rw [cc_110]; decide +kernel
theorem D110_7 : decode (cod 110) 7 = .ok (.ifCond .eq 20, 3) := by rw [cc_110]; decide +kernel
theorem D110_10 : decode (cod 110) 10 = .ok (.iload_n 1, 1) := by rw [cc_110]; decide +kernel
theorem D110_11 : decode (cod 110) 11 = .ok (.iconst (-1), 1) := by rw [cc_110]; decide +kernel
theorem D110_12 : decode (cod 110) 12 = .ok (.if_icmp .eq 11, 3) := by rw [cc_110]; decide +kernel
theorem D110_15 : decode (cod 110) 15 = .ok (.aload_n 0, 1) := by rw [cc_110]; decide +kernel
theorem D110_16 : decode (cod 110) 16 = .ok (.iload_n 1, 1) := by rw [cc_110]; decide +kernel
theorem D110_17 : decode (cod 110) 17 = .ok (.invokevirtual 180, 3) := by rw [cc_110]; decide +kernel
theorem D110_20 : decode (cod 110) 20 = .ok (.ifCond .eq 7, 3) := by rw [cc_110]; decide +kernel
theorem D110_23 : decode (cod 110) 23 = .ok (.iconst 1, 1) := by rw [cc_110]; decide +kernel
theorem D110_24 : decode (cod 110) 24 = .ok (.goto 4, 3) := by rw [cc_110]; decide +kernel
theorem D110_27 : decode (cod 110) 27 = .ok (.iconst 0, 1) := by rw [cc_110]; decide +kernel
theorem D110_28 : decode (cod 110) 28 = .ok (.ireturn, 1) := by rw [cc_110]; decide +kernel
theorem b110_0 {d : Nat} {i0 : Nat} {x1 x2 : Int} {I L : Nat → Nat → Nat → Int} {t : Nat → Nat} : Res (d + 1) 110 0 [vr 4 i0, vi x1, vi x2] [] (mk I L t) = (Cal d 102 [vi x2, vi 0, vi 99] (mk I L t)).bind fun v => Res (d + 1) 110 7 [vr 4 i0, vi x1, vi x2] (psh 102 v.1 []) v.2 :=
  Eq.trans (e_iload_n D110_0 rfl rfl) <| Eq.trans (e_iconst (x := 0) D110_1 rfl rfl) <| Eq.trans (e_bipush (x := 99) D110_2 rfl rfl) <| e_callS D110_4 rfl o_110 m_11_76 (by decide) rfl rfl
theorem b110_7 {d : Nat} {i0 : Nat} {x1 x2 xs0 : Int} {I L : Nat → Nat → Nat → Int} {t : Nat → Nat} : Res d 110 7 [vr 4 i0, vi x1, vi x2] [vi xs0] (mk I L t) = if xs0 = 0 then Res d 110 27 [vr 4 i0, vi x1, vi x2] [] (mk I L t) else Res d 110 10 [vr 4 i0, vi x1, vi x2] [] (mk I L t) :=
  e_ifeq D110_7 rfl rfl
theorem b110_10 {d : Nat} {i0 : Nat} {x1 x2 : Int} {I L : Nat → Nat → Nat → Int} {t : Nat → Nat} : Res d 110 10 [vr 4 i0, vi x1, vi x2] [] (mk I L t) = if x1 = -1 then Res d 110 23 [vr 4 i0, vi x1, vi x2] [] (mk I L t) else Res d 110 15 [vr 4 i0, vi x1, vi x2] [] (mk I L t) :=
  Eq.trans (e_iload_n D110_10 rfl rfl) <| Eq.trans (e_iconst (x := -1) D110_11 rfl rfl) <| e_iceq D110_12 rfl rfl
theorem b110_15 {d : Nat} {i0 : Nat} {x1 x2 : Int} {I L : Nat → Nat → Nat → Int} {t : Nat → Nat} : Res (d + 1) 110 15 [vr 4 i0, vi x1, vi x2] [] (mk I L t) = (Cal d 25 [vr 4 i0, vi x1] (mk I L t)).bind fun v => Res (d + 1) 110 20 [vr 4 i0, vi x1, vi x2] (psh 25 v.1 []) v.2 :=
  Eq.trans (e_aload_n D110_15 rfl rfl) <| Eq.trans (e_iload_n D110_16 rfl rfl) <| e_callV D110_17 rfl o_110 m_11_180 (by decide) rfl rfl
theorem b110_20 {d : Nat} {i0 : Nat} {x1 x2 xs0 : Int} {I L : Nat → Nat → Nat → Int} {t : Nat → Nat} : Res d 110 20 [vr 4 i0, vi x1, vi x2] [vi xs0] (mk I L t) = if xs0 = 0 then Res d 110 27 [vr 4 i0, vi x1, vi x2] [] (mk I L t) else Res d 110 23 [vr 4 i0, vi x1, vi x2] [] (mk I L t) :=
  e_ifeq D110_20 rfl rfl
theorem b110_23 {d : Nat} {i0 : Nat} {x1 x2 : Int} {I L : Nat → Nat → Nat → Int} {t : Nat → Nat} : Res d 110 23 [vr 4 i0, vi x1, vi x2] [] (mk I L t) = Res d 110 28 [vr 4 i0, vi x1, vi x2] [vi 1] (mk I L t) :=
  Eq.trans (e_iconst (x := 1) D110_23 rfl rfl) <| e_goto (q1 := 28) D110_24 rfl
theorem b110_27 {d : Nat} {i0 : Nat} {x1 x2 : Int} {I L : Nat → Nat → Nat → Int} {t : Nat → Nat} : Res d 110 27 [vr 4 i0, vi x1, vi x2] [] (mk I L t) = Res d 110 28 [vr 4 i0, vi x1, vi x2] [vi 0] (mk I L t) :=
  e_iconst (x := 0) D110_27 rfl rfl
theorem b110_28 {d : Nat} {i0 : Nat} {x1 x2 xs0 : Int} {I L : Nat → Nat → Nat → Int} {t : Nat → Nat} (g1 : xs0 = 0 ∨ xs0 = 1) : Res d 110 28 [vr 4 i0, vi x1, vi x2] [vi xs0] (mk I L t) = some (vi xs0, (mk I L t)) :=
  e_iret D110_28 (nrz rfl g1)
/-! x_canPick -/
theorem cc_111 : cod 111 = cX11_canPick := rfl
theorem D111_0 : decode (cod 111) 0 = .ok (.iload_n 2, 1) := by rw [cc_111]; decide +kernel
theorem D111_1 : decode (cod 111) 1 = .ok (.iconst (-1), 1) := by rw [cc_111]; decide +kernel
theorem D111_2 : decode (cod 111) 2 = .ok (.if_icmp .eq 17, 3) := by rw [cc_111]; decide +kernel
theorem D111_5 : decode (cod 111) 5 = .ok (.iload_n 1, 1) := by rw [cc_111]; decide +kernel
theorem D111_6 : decode (cod 111) 6 = .ok (.iconst 2, 1) := by rw [cc_111]; decide +kernel
theorem D111_7 : decode (cod 111) 7 = .ok (.if_icmp .eq 16, 3) := by rw [cc_111]; decide +kernel
theorem D111_10 : decode (cod 111) 10 = .ok (.aload_n 0, 1) := by rw [cc_111]; decide +kernel
theorem D111_11 : decode (cod 111) 11 = .ok (.iload_n 2, 1) := by rw [cc_111]; decide +kernel
theorem D111_12 : decode (cod 111) 12 = .ok (.invokevirtual 247, 3) := by rw [cc_111]; decide +kernel
theorem D111_15 : decode (cod 111) 15 = .ok (.iconst (-1), 1) := by rw [cc_111]; decide +kernel
theorem D111_16 : decode (cod 111) 16 = .ok (.if_icmp .eq 7, 3) := by rw [cc_111]; decide +kernel
theorem D111_19 : decode (cod 111) 19 = .ok (.iconst 1, 1) := by rw [cc_111]; decide +kernel
theorem D111_20 : decode (cod 111) 20 = .ok (.goto 4, 3) := by rw [cc_111]; decide +kernel
theorem D111_23 : decode (cod 111) 23 = .ok (.iconst 0, 1) := by rw [cc_111]; decide +kernel
theorem D111_24 : decode (cod 111) 24 = .ok (.ireturn, 1) := by rw [cc_111]; decide +kernel
theorem b111_0 {d : Nat} {i0 : Nat} {x1 x2 : Int} {I L : Nat → Nat → Nat → Int} {t : Nat → Nat} : Res d 111 0 [vr 4 i0, vi x1, vi x2] [] (mk I L t) = if x2 = -1 then Res d 111 19 [vr 4 i0, vi x1, vi x2] [] (mk I L t) else Res d 111 5 [vr 4 i0, vi x1, vi x2] [] (mk I L t) :=
  Eq.trans (e_iload_n D111_0 rfl rfl) <| Eq.trans (e_iconst (x := -1) D111_1 rfl rfl) <| e_iceq D111_2 rfl rfl
theorem b111_5 {d : Nat} {i0 : Nat} {x1 x2 : Int} {I L : Nat → Nat → Nat → Int} {t : Nat → Nat} : Res d 111 5 [vr 4 i0, vi x1, vi x2] [] (mk I L t) = if x1 = 2 then Res d 111 23 [vr 4 i0, vi x1, vi x2] [] (mk I L t) else Res d 111 10 [vr 4 i0, vi x1, vi x2] [] (mk I L t) :=
  Eq.trans (e_iload_n D111_5 rfl rfl) <| Eq.trans (e_iconst (x := 2) D111_6 rfl rfl) <| e_iceq D111_7 rfl rfl
theorem b111_10 {d : Nat} {i0 : Nat} {x1 x2 : Int} {I L : Nat → Nat → Nat → Int} {t : Nat → Nat} : Res (d + 1) 111 10 [vr 4 i0, vi x1, vi x2] [] (mk I L t) = (Cal d 26 [vr 4 i0, vi x2] (mk I L t)).bind fun v => Res (d + 1) 111 15 [vr 4 i0, vi x1, vi x2] (psh 26 v.1 []) v.2 :=
  Eq.trans (e_aload_n D111_10 rfl rfl) <| Eq.trans (e_iload_n D111_11 rfl rfl) <| e_callV D111_12 rfl o_111 m_11_247 (by decide) rfl rfl
theorem b111_15 {d : Nat} {i0 : Nat} {x1 x2 xs0 : Int} {I L : Nat → Nat → Nat → Int} {t : Nat → Nat} : Res d 111 15 [vr 4 i0, vi x1, vi x2] [vi xs0] (mk I L t) = if xs0 = -1 then Res d 111 23 [vr 4 i0, vi x1, vi x2] [] (mk I L t) else Res d 111 19 [vr 4 i0, vi x1, vi x2] [] (mk I L t) :=
  Eq.trans (e_iconst (x := -1) D111_15 rfl rfl) <| e_iceq D111_16 rfl rfl
theorem b111_19 {d : Nat} {i0 : Nat} {x1 x2 : Int} {I L : Nat → Nat → Nat → Int} {t : Nat → Nat} : Res d 111 19 [vr 4 i0, vi x1, vi x2] [] (mk I L t) = Res d 111 24 [vr 4 i0, vi x1, vi x2] [vi 1] (mk I L t) :=
  Eq.trans (e_iconst (x := 1) D111_19 rfl rfl) <| e_goto (q1 := 24) D111_20 rfl
theorem b111_23 {d : Nat} {i0 : Nat} {x1 x2 : Int} {I L : Nat → Nat → Nat → Int} {t : Nat → Nat} : Res d 111 23 [vr 4 i0, vi x1, vi x2] [] (mk I L t) = Res d 111 24 [vr 4 i0, vi x1, vi x2] [vi 0] (mk I L t) :=
  e_iconst (x := 0) D111_23 rfl rfl
theorem b111_24 {d : Nat} {i0 : Nat} {x1 x2 xs0 : Int} {I L : Nat → Nat → Nat → Int} {t : Nat → Nat} (g1 : xs0 = 0 ∨ xs0 = 1) : Res d 111 24 [vr 4 i0, vi x1, vi x2] [vi xs0] (mk I L t) = some (vi xs0, (mk I L t)) :=
  e_iret D111_24 (nrz rfl g1)
/-! x_askMind -/
theorem cc_112 : cod 112 = cX11_askMind := rfl
theorem D112_0 : decode (cod 112) 0 = .ok (.aload_n 0, 1) := by rw [cc_112]; decide +kernel
theorem D112_1 : decode (cod 112) 1 = .ok (.getfield 61, 3) := by rw [cc_112]; decide +kernel
theorem D112_4 : decode (cod 112) 4 = .ok (.getfield 402, 3) := by rw [cc_112]; decide +kernel
theorem D112_7 : decode (cod 112) 7 = .ok (.astore_n 2, 1) := by rw [cc_112]; decide +kernel
theorem D112_8 : decode (cod 112) 8 = .ok (.aload_n 2, 1) := by rw [cc_112]; decide +kernel
theorem D112_9 : decode (cod 112) 9 = .ok (.iconst 0, 1) := by rw [cc_112]; decide +kernel
theorem D112_10 : decode (cod 112) 10 = .ok (.invokestatic 66, 3) := by rw [cc_112]; decide +kernel
theorem D112_13 : decode (cod 112) 13 = .ok (.aload_n 2, 1) := by rw [cc_112]; decide +kernel
theorem D112_14 : decode (cod 112) 14 = .ok (.iconst 3, 1) := by rw [cc_112]; decide +kernel
theorem D112_15 : decode (cod 112) 15 = .ok (.aload_n 1, 1) := by rw [cc_112]; decide +kernel
theorem D112_16 : decode (cod 112) 16 = .ok (.getfield 405, 3) := by rw [cc_112]; decide +kernel
theorem D112_19 : decode (cod 112) 19 = .ok (.iastore, 1) := by rw [cc_112]; decide +kernel
theorem D112_20 : decode (cod 112) 20 = .ok (.aload_n 2, 1) := by rw [cc_112]; decide +kernel
theorem D112_21 : decode (cod 112) 21 = .ok (.iconst 4, 1) := by rw [cc_112]; decide +kernel
theorem D112_22 : decode (cod 112) 22 = .ok (.aload_n 1, 1) := by rw [cc_112]; decide +kernel
theorem D112_23 : decode (cod 112) 23 = .ok (.getfield 408, 3) := by rw [cc_112]; decide +kernel
theorem D112_26 : decode (cod 112) 26 = .ok (.iastore, 1) := by rw [cc_112]; decide +kernel
theorem D112_27 : decode (cod 112) 27 = .ok (.aload_n 2, 1) := by rw [cc_112]; decide +kernel
theorem D112_28 : decode (cod 112) 28 = .ok (.iconst 5, 1) := by rw [cc_112]; decide +kernel
theorem D112_29 : decode (cod 112) 29 = .ok (.aload_n 1, 1) := by rw [cc_112]; decide +kernel
theorem D112_30 : decode (cod 112) 30 = .ok (.getfield 411, 3) := by rw [cc_112]; decide +kernel
theorem D112_33 : decode (cod 112) 33 = .ok (.iastore, 1) := by rw [cc_112]; decide +kernel
theorem D112_34 : decode (cod 112) 34 = .ok (.aload_n 2, 1) := by rw [cc_112]; decide +kernel
theorem D112_35 : decode (cod 112) 35 = .ok (.bipush 6, 2) := by rw [cc_112]; decide +kernel
theorem D112_37 : decode (cod 112) 37 = .ok (.aload_n 1, 1) := by rw [cc_112]; decide +kernel
theorem D112_38 : decode (cod 112) 38 = .ok (.getfield 414, 3) := by rw [cc_112]; decide +kernel
theorem D112_41 : decode (cod 112) 41 = .ok (.iastore, 1) := by rw [cc_112]; decide +kernel
theorem D112_42 : decode (cod 112) 42 = .ok (.aload_n 2, 1) := by rw [cc_112]; decide +kernel
theorem D112_43 : decode (cod 112) 43 = .ok (.bipush 9, 2) := by rw [cc_112]; decide +kernel
theorem D112_45 : decode (cod 112) 45 = .ok (.aload_n 1, 1) := by rw [cc_112]; decide +kernel
theorem D112_46 : decode (cod 112) 46 = .ok (.getfield 250, 3) := by rw [cc_112]; decide +kernel
theorem D112_49 : decode (cod 112) 49 = .ok (.iastore, 1) := by rw [cc_112]; decide +kernel
theorem D112_50 : decode (cod 112) 50 = .ok (.return_, 1) := by rw [cc_112]; decide +kernel
theorem b112_0 {d : Nat} {i0 i1 : Nat} {I L : Nat → Nat → Nat → Int} {t : Nat → Nat} : Res (d + 1) 112 0 [vr 11 i0, vr 3 i1, vx] [] (mk I L t) = (Cal d 249 [vr 13 0, vi 0] (mk I L t)).bind fun v => Res (d + 1) 112 13 [vr 11 i0, vr 3 i1, vr 13 0] (psh 249 v.1 []) v.2 :=
  Eq.trans (e_aload_n D112_0 rfl rfl) <| Eq.trans (e_getP (p := (0, 0)) D112_1 rfl o_112 f_11_61 (sh_11 _) (by decide) (pp_11_9 _ _)) <| Eq.trans (e_getP (p := (13, 0)) D112_4 rfl o_112 f_11_402 (sh_0 _) (by decide) (pp_0_0 _ _)) <| Eq.trans (e_astore_n (ls1 := [vr 11 i0, vr 3 i1, vr 13 0]) D112_7 rfl (show 2 < 3 by decide) rfl) <| Eq.trans (e_aload_n D112_8 rfl rfl) <| Eq.trans (e_iconst (x := 0) D112_9 rfl rfl) <| e_callS D112_10 rfl o_112 m_11_66 (by decide) rfl rfl
theorem b112_13 {d : Nat} {i0 i1 i2 : Nat} {I L : Nat → Nat → Nat → Int} {t : Nat → Nat} : Res d 112 13 [vr 11 i0, vr 3 i1, vr 13 i2] [] (mk I L t) = some (vx, (mk (up3 (up3 (up3 (up3 (up3 I 13 i2 3 (I 3 i1 5)) 13 i2 4 ((up3 I 13 i2 3 (I 3 i1 5)) 3 i1 6)) 13 i2 5 ((up3 (up3 I 13 i2 3 (I 3 i1 5)) 13 i2 4 ((up3 I 13 i2 3 (I 3 i1 5)) 3 i1 6)) 3 i1 7)) 13 i2 6 ((up3 (up3 (up3 I 13 i2 3 (I 3 i1 5)) 13 i2 4 ((up3 I 13 i2 3 (I 3 i1 5)) 3 i1 6)) 13 i2 5 ((up3 (up3 I 13 i2 3 (I 3 i1 5)) 13 i2 4 ((up3 I 13 i2 3 (I 3 i1 5)) 3 i1 6)) 3 i1 7)) 3 i1 10)) 13 i2 9 ((up3 (up3 (up3 (up3 I 13 i2 3 (I 3 i1 5)) 13 i2 4 ((up3 I 13 i2 3 (I 3 i1 5)) 3 i1 6)) 13 i2 5 ((up3 (up3 I 13 i2 3 (I 3 i1 5)) 13 i2 4 ((up3 I 13 i2 3 (I 3 i1 5)) 3 i1 6)) 3 i1 7)) 13 i2 6 ((up3 (up3 (up3 I 13 i2 3 (I 3 i1 5)) 13 i2 4 ((up3 I 13 i2 3 (I 3 i1 5)) 3 i1 6)) 13 i2 5 ((up3 (up3 I 13 i2 3 (I 3 i1 5)) 13 i2 4 ((up3 I 13 i2 3 (I 3 i1 5)) 3 i1 6)) 3 i1 7)) 3 i1 10)) 3 i1 8)) L t)) :=
  Eq.trans (e_aload_n D112_13 rfl rfl) <| Eq.trans (e_iconst (x := 3) D112_14 rfl rfl) <| Eq.trans (e_aload_n D112_15 rfl rfl) <| Eq.trans (e_getI D112_16 rfl o_112 f_11_405 (sh_3 _) (by decide)) <| Eq.trans (e_iast D112_19 rfl (al_13 _) rfl (by decide)) <| Eq.trans (e_aload_n D112_20 rfl rfl) <| Eq.trans (e_iconst (x := 4) D112_21 rfl rfl) <| Eq.trans (e_aload_n D112_22 rfl rfl) <| Eq.trans (e_getI D112_23 rfl o_112 f_11_408 (sh_3 _) (by decide)) <| Eq.trans (e_iast D112_26 rfl (al_13 _) rfl (by decide)) <| Eq.trans (e_aload_n D112_27 rfl rfl) <| Eq.trans (e_iconst (x := 5) D112_28 rfl rfl) <| Eq.trans (e_aload_n D112_29 rfl rfl) <| Eq.trans (e_getI D112_30 rfl o_112 f_11_411 (sh_3 _) (by decide)) <| Eq.trans (e_iast D112_33 rfl (al_13 _) rfl (by decide)) <| Eq.trans (e_aload_n D112_34 rfl rfl) <| Eq.trans (e_bipush (x := 6) D112_35 rfl rfl) <| Eq.trans (e_aload_n D112_37 rfl rfl) <| Eq.trans (e_getI D112_38 rfl o_112 f_11_414 (sh_3 _) (by decide)) <| Eq.trans (e_iast D112_41 rfl (al_13 _) rfl (by decide)) <| Eq.trans (e_aload_n D112_42 rfl rfl) <| Eq.trans (e_bipush (x := 9) D112_43 rfl rfl) <| Eq.trans (e_aload_n D112_45 rfl rfl) <| Eq.trans (e_getI D112_46 rfl o_112 f_11_250 (sh_3 _) (by decide)) <| Eq.trans (e_iast D112_49 rfl (al_13 _) rfl (by decide)) <| e_vret D112_50 rfl
/-! x_askFace -/
theorem cc_113 : cod 113 = cX11_askFace := rfl
theorem D113_0 : decode (cod 113) 0 = .ok (.aload_n 0, 1) := by rw [cc_113]; decide +kernel
theorem D113_1 : decode (cod 113) 1 = .ok (.getfield 61, 3) := by rw [cc_113]; decide +kernel
theorem D113_4 : decode (cod 113) 4 = .ok (.getfield 402, 3) := by rw [cc_113]; decide +kernel
theorem D113_7 : decode (cod 113) 7 = .ok (.astore_n 3, 1) := by rw [cc_113]; decide +kernel
theorem D113_8 : decode (cod 113) 8 = .ok (.aload_n 3, 1) := by rw [cc_113]; decide +kernel
theorem D113_9 : decode (cod 113) 9 = .ok (.iconst 0, 1) := by rw [cc_113]; decide +kernel
theorem D113_10 : decode (cod 113) 10 = .ok (.aload_n 2, 1) := by rw [cc_113]; decide +kernel
theorem D113_11 : decode (cod 113) 11 = .ok (.getfield 98, 3) := by rw [cc_113]; decide +kernel
theorem D113_14 : decode (cod 113) 14 = .ok (.aload_n 1, 1) := by rw [cc_113]; decide +kernel
theorem D113_15 : decode (cod 113) 15 = .ok (.getfield 169, 3) := by rw [cc_113]; decide +kernel
theorem D113_18 : decode (cod 113) 18 = .ok (.iconst 0, 1) := by rw [cc_113]; decide +kernel
theorem D113_19 : decode (cod 113) 19 = .ok (.bipush 12, 2) := by rw [cc_113]; decide +kernel
theorem D113_21 : decode (cod 113) 21 = .ok (.invokestatic 417, 3) := by rw [cc_113]; decide +kernel
theorem D113_24 : decode (cod 113) 24 = .ok (.iastore, 1) := by rw [cc_113]; decide +kernel
theorem D113_25 : decode (cod 113) 25 = .ok (.aload_n 3, 1) := by rw [cc_113]; decide +kernel
theorem D113_26 : decode (cod 113) 26 = .ok (.iconst 1, 1) := by rw [cc_113]; decide +kernel
theorem D113_27 : decode (cod 113) 27 = .ok (.aload_n 2, 1) := by rw [cc_113]; decide +kernel
theorem D113_28 : decode (cod 113) 28 = .ok (.getfield 98, 3) := by rw [cc_113]; decide +kernel
theorem D113_31 : decode (cod 113) 31 = .ok (.aload_n 1, 1) := by rw [cc_113]; decide +kernel
theorem D113_32 : decode (cod 113) 32 = .ok (.getfield 169, 3) := by rw [cc_113]; decide +kernel
theorem D113_35 : decode (cod 113) 35 = .ok (.bipush 12, 2) := by rw [cc_113]; decide +kernel
theorem D113_37 : decode (cod 113) 37 = .ok (.bipush 16, 2) := by rw [cc_113]; decide +kernel
theorem D113_39 : decode (cod 113) 39 = .ok (.invokestatic 417, 3) := by rw [cc_113]; decide +kernel
theorem D113_42 : decode (cod 113) 42 = .ok (.iastore, 1) := by rw [cc_113]; decide +kernel
theorem D113_43 : decode (cod 113) 43 = .ok (.aload_n 3, 1) := by rw [cc_113]; decide +kernel
theorem D113_44 : decode (cod 113) 44 = .ok (.iconst 2, 1) := by rw [cc_113]; decide +kernel
theorem D113_45 : decode (cod 113) 45 = .ok (.aload_n 2, 1) := by rw [cc_113]; decide +kernel
theorem D113_46 : decode (cod 113) 46 = .ok (.getfield 84, 3) := by rw [cc_113]; decide +kernel
theorem D113_49 : decode (cod 113) 49 = .ok (.aload_n 1, 1) := by rw [cc_113]; decide +kernel
theorem D113_50 : decode (cod 113) 50 = .ok (.getfield 421, 3) := by rw [cc_113]; decide +kernel
theorem D113_53 : decode (cod 113) 53 = .ok (.if_icmp .ne 7, 3) := by rw [cc_113]; decide +kernel
theorem D113_56 : decode (cod 113) 56 = .ok (.iconst 1, 1) := by rw [cc_113]; decide +kernel
theorem D113_57 : decode (cod 113) 57 = .ok (.goto 4, 3) := by rw [cc_113]; decide +kernel
theorem D113_60 : decode (cod 113) 60 = .ok (.iconst 0, 1) := by rw [cc_113]; decide +kernel
theorem D113_61 : decode (cod 113) 61 = .ok (.iastore, 1) := by rw [cc_113]; decide +kernel
theorem D113_62 : decode (cod 113) 62 = .ok (.return_, 1) := by rw [cc_113]; decide +kernel
theorem b113_0 {d : Nat} {i0 i1 i2 : Nat} {I L : Nat → Nat → Nat → Int} {t : Nat → Nat} : Res (d + 1) 113 0 [vr 11 i0, vr 3 i1, vr 1 i2, vx] [] (mk I L t) = (Cal d 125 [vr 22 i2, vr 28 i1, vi 0, vi 12] (mk I L t)).bind fun v => Res (d + 1) 113 24 [vr 11 i0, vr 3 i1, vr 1 i2, vr 13 0] (psh 125 v.1 [vi 0, vr 13 0]) v.2 :=
  Eq.trans (e_aload_n D113_0 rfl rfl) <| Eq.trans (e_getP (p := (0, 0)) D113_1 rfl o_113 f_11_61 (sh_11 _) (by decide) (pp_11_9 _ _)) <| Eq.trans (e_getP (p := (13, 0)) D113_4 rfl o_113 f_11_402 (sh_0 _) (by decide) (pp_0_0 _ _)) <| Eq.trans (e_astore_n (ls1 := [vr 11 i0, vr 3 i1, vr 1 i2, vr 13 0]) D113_7 rfl (show 3 < 4 by decide) rfl) <| Eq.trans (e_aload_n D113_8 rfl rfl) <| Eq.trans (e_iconst (x := 0) D113_9 rfl rfl) <| Eq.trans (e_aload_n D113_10 rfl rfl) <| Eq.trans (e_getP (p := (22, i2)) D113_11 rfl o_113 f_11_98 (sh_1 _) (by decide) (pp_1_0 _ _)) <| Eq.trans (e_aload_n D113_14 rfl rfl) <| Eq.trans (e_getP (p := (28, i1)) D113_15 rfl o_113 f_11_169 (sh_3 _) (by decide) (pp_3_0 _ _)) <| Eq.trans (e_iconst (x := 0) D113_18 rfl rfl) <| Eq.trans (e_bipush (x := 12) D113_19 rfl rfl) <| e_callS D113_21 rfl o_113 m_11_417 (by decide) rfl rfl
theorem b113_24 {d : Nat} {i0 i1 i2 i3 is0 : Nat} {xs2 xs1 : Int} {I L : Nat → Nat → Nat → Int} {t : Nat → Nat} (g1 : 0 ≤ xs1 ∧ xs1 < 10) : Res (d + 1) 113 24 [vr 11 i0, vr 3 i1, vr 1 i2, vr 13 i3] [vi xs2, vi xs1, vr 13 is0] (mk I L t) = (Cal d 125 [vr 22 i2, vr 28 i1, vi 12, vi 16] (mk (up3 I 13 is0 xs1.toNat xs2) L t)).bind fun v => Res (d + 1) 113 42 [vr 11 i0, vr 3 i1, vr 1 i2, vr 13 i3] (psh 125 v.1 [vi 1, vr 13 i3]) v.2 :=
  Eq.trans (e_iast D113_24 rfl (al_13 _) rfl g1) <| Eq.trans (e_aload_n D113_25 rfl rfl) <| Eq.trans (e_iconst (x := 1) D113_26 rfl rfl) <| Eq.trans (e_aload_n D113_27 rfl rfl) <| Eq.trans (e_getP (p := (22, i2)) D113_28 rfl o_113 f_11_98 (sh_1 _) (by decide) (pp_1_0 _ _)) <| Eq.trans (e_aload_n D113_31 rfl rfl) <| Eq.trans (e_getP (p := (28, i1)) D113_32 rfl o_113 f_11_169 (sh_3 _) (by decide) (pp_3_0 _ _)) <| Eq.trans (e_bipush (x := 12) D113_35 rfl rfl) <| Eq.trans (e_bipush (x := 16) D113_37 rfl rfl) <| e_callS D113_39 rfl o_113 m_11_417 (by decide) rfl rfl
theorem b113_42 {d : Nat} {i0 i1 i2 i3 is0 : Nat} {xs2 xs1 : Int} {I L : Nat → Nat → Nat → Int} {t : Nat → Nat} (g1 : 0 ≤ xs1 ∧ xs1 < 10) : Res d 113 42 [vr 11 i0, vr 3 i1, vr 1 i2, vr 13 i3] [vi xs2, vi xs1, vr 13 is0] (mk I L t) = if ¬ (up3 I 13 is0 xs1.toNat xs2) 1 i2 1 = (up3 I 13 is0 xs1.toNat xs2) 3 i1 3 then Res d 113 60 [vr 11 i0, vr 3 i1, vr 1 i2, vr 13 i3] [vi 2, vr 13 i3] (mk (up3 I 13 is0 xs1.toNat xs2) L t) else Res d 113 56 [vr 11 i0, vr 3 i1, vr 1 i2, vr 13 i3] [vi 2, vr 13 i3] (mk (up3 I 13 is0 xs1.toNat xs2) L t) :=
  Eq.trans (e_iast D113_42 rfl (al_13 _) rfl g1) <| Eq.trans (e_aload_n D113_43 rfl rfl) <| Eq.trans (e_iconst (x := 2) D113_44 rfl rfl) <| Eq.trans (e_aload_n D113_45 rfl rfl) <| Eq.trans (e_getI D113_46 rfl o_113 f_11_84 (sh_1 _) (by decide)) <| Eq.trans (e_aload_n D113_49 rfl rfl) <| Eq.trans (e_getI D113_50 rfl o_113 f_11_421 (sh_3 _) (by decide)) <| e_icne D113_53 rfl rfl
theorem b113_56 {d : Nat} {i0 i1 i2 i3 is0 : Nat} {xs1 : Int} {I L : Nat → Nat → Nat → Int} {t : Nat → Nat} : Res d 113 56 [vr 11 i0, vr 3 i1, vr 1 i2, vr 13 i3] [vi xs1, vr 13 is0] (mk I L t) = Res d 113 61 [vr 11 i0, vr 3 i1, vr 1 i2, vr 13 i3] [vi 1, vi xs1, vr 13 is0] (mk I L t) :=
  Eq.trans (e_iconst (x := 1) D113_56 rfl rfl) <| e_goto (q1 := 61) D113_57 rfl
theorem b113_60 {d : Nat} {i0 i1 i2 i3 is0 : Nat} {xs1 : Int} {I L : Nat → Nat → Nat → Int} {t : Nat → Nat} : Res d 113 60 [vr 11 i0, vr 3 i1, vr 1 i2, vr 13 i3] [vi xs1, vr 13 is0] (mk I L t) = Res d 113 61 [vr 11 i0, vr 3 i1, vr 1 i2, vr 13 i3] [vi 0, vi xs1, vr 13 is0] (mk I L t) :=
  e_iconst (x := 0) D113_60 rfl rfl
theorem b113_61 {d : Nat} {i0 i1 i2 i3 is0 : Nat} {xs2 xs1 : Int} {I L : Nat → Nat → Nat → Int} {t : Nat → Nat} (g1 : 0 ≤ xs1 ∧ xs1 < 10) : Res d 113 61 [vr 11 i0, vr 3 i1, vr 1 i2, vr 13 i3] [vi xs2, vi xs1, vr 13 is0] (mk I L t) = some (vx, (mk (up3 I 13 is0 xs1.toNat xs2) L t)) :=
  Eq.trans (e_iast D113_61 rfl (al_13 _) rfl g1) <| e_vret D113_62 rfl
/-! x_ask -/
theorem cc_114 : cod 114 = cX11_ask := rfl
theorem D114_0 : decode (cod 114) 0 = .ok (.aload_n 0, 1) := by rw [cc_114]; decide +kernel
theorem D114_1 : decode (cod 114) 1 = .ok (.aload_n 1, 1) := by rw [cc_114]; decide +kernel
theorem D114_2 : decode (cod 114) 2 = .ok (.invokevirtual 422, 3) := by rw [cc_114]; decide +kernel
theorem D114_5 : decode (cod 114) 5 = .ok (.aload_n 0, 1) := by rw [cc_114]; decide +kernel
theorem D114_6 : decode (cod 114) 6 = .ok (.getfield 29, 3) := by rw [cc_114]; decide +kernel
theorem D114_9 : decode (cod 114) 9 = .ok (.getfield 426, 3) := by rw [cc_114]; decide +kernel
theorem D114_12 : decode (cod 114) 12 = .ok (.aload_n 1, 1) := by rw [cc_114]; decide +kernel
theorem D114_13 : decode (cod 114) 13 = .ok (.getfield 430, 3) := by rw [cc_114]; decide +kernel
theorem D114_16 : decode (cod 114) 16 = .ok (.aaload, 1) := by rw [cc_114]; decide +kernel
theorem D114_17 : decode (cod 114) 17 = .ok (.iload_n 2, 1) := by rw [cc_114]; decide +kernel
theorem D114_18 : decode (cod 114) 18 = .ok (.aload_n 0, 1) := by rw [cc_114]; decide +kernel
theorem D114_19 : decode (cod 114) 19 = .ok (.getfield 61, 3) := by rw [cc_114]; decide +kernel
theorem D114_22 : decode (cod 114) 22 = .ok (.getfield 402, 3) := by rw [cc_114]; decide +kernel
theorem D114_25 : decode (cod 114) 25 = .ok (.invokevirtual 433, 3) := by rw [cc_114]; decide +kernel
theorem D114_28 : decode (cod 114) 28 = .ok (.ireturn, 1) := by rw [cc_114]; decide +kernel
theorem b114_0 {d : Nat} {i0 i1 : Nat} {x2 : Int} {I L : Nat → Nat → Nat → Int} {t : Nat → Nat} : Res (d + 1) 114 0 [vr 11 i0, vr 3 i1, vi x2] [] (mk I L t) = (Cal d 112 [vr 11 i0, vr 3 i1] (mk I L t)).bind fun v => Res (d + 1) 114 5 [vr 11 i0, vr 3 i1, vi x2] (psh 112 v.1 []) v.2 :=
  Eq.trans (e_aload_n D114_0 rfl rfl) <| Eq.trans (e_aload_n D114_1 rfl rfl) <| e_callV D114_2 rfl o_114 m_11_422 (by decide) rfl rfl
theorem b114_5 {d : Nat} {i0 i1 : Nat} {x2 : Int} {I L : Nat → Nat → Nat → Int} {t : Nat → Nat} (g1 : 0 ≤ I 3 i1 2 ∧ I 3 i1 2 < 4) : Res (d + 1) 114 5 [vr 11 i0, vr 3 i1, vi x2] [] (mk I L t) = (Cal d 18 [vr 2 (t (I 3 i1 2).toNat), vi x2, vr 13 0] (mk I L t)).bind fun v => Res (d + 1) 114 28 [vr 11 i0, vr 3 i1, vi x2] (psh 18 v.1 []) v.2 :=
  Eq.trans (e_aload_n D114_5 rfl rfl) <| Eq.trans (e_getP (p := (8, 0)) D114_6 rfl o_114 f_11_29 (sh_11 _) (by decide) (pp_11_3 _ _)) <| Eq.trans (e_getP (p := (38, 0)) D114_9 rfl o_114 f_11_426 (sh_8 _) (by decide) (pp_8_1 _)) <| Eq.trans (e_aload_n D114_12 rfl rfl) <| Eq.trans (e_getI D114_13 rfl o_114 f_11_430 (sh_3 _) (by decide)) <| Eq.trans (e_aald (p := (2, t (I 3 i1 2).toNat)) D114_16 rfl (ae_38 _) (aq_38 _) (pa_38 _ (tn4 g1)) g1) <| Eq.trans (e_iload_n D114_17 rfl rfl) <| Eq.trans (e_aload_n D114_18 rfl rfl) <| Eq.trans (e_getP (p := (0, 0)) D114_19 rfl o_114 f_11_61 (sh_11 _) (by decide) (pp_11_9 _ _)) <| Eq.trans (e_getP (p := (13, 0)) D114_22 rfl o_114 f_11_402 (sh_0 _) (by decide) (pp_0_0 _ _)) <| e_callV D114_25 rfl o_114 m_11_433 (by decide) rfl rfl
theorem b114_28 {d : Nat} {i0 i1 : Nat} {x2 xs0 : Int} {I L : Nat → Nat → Nat → Int} {t : Nat → Nat} : Res d 114 28 [vr 11 i0, vr 3 i1, vi x2] [vi xs0] (mk I L t) = some (vi xs0, (mk I L t)) :=
  e_iret D114_28 rfl
/-! x_farOf -/
theorem cc_115 : cod 115 = cX11_farOf := rfl
theorem D115_0 : decode (cod 115) 0 = .ok (.aload_n 0, 1) := by rw [cc_115]; decide +kernel
theorem D115_1 : decode (cod 115) 1 = .ok (.aload_n 1, 1) := by rw [cc_115]; decide +kernel
theorem D115_2 : decode (cod 115) 2 = .ok (.invokevirtual 422, 3) := by rw [cc_115]; decide +kernel
theorem D115_5 : decode (cod 115) 5 = .ok (.aload_n 0, 1) := by rw [cc_115]; decide +kernel
theorem D115_6 : decode (cod 115) 6 = .ok (.aload_n 1, 1) := by rw [cc_115]; decide +kernel
theorem D115_7 : decode (cod 115) 7 = .ok (.aload_n 2, 1) := by rw [cc_115]; decide +kernel
theorem D115_8 : decode (cod 115) 8 = .ok (.invokevirtual 439, 3) := by rw [cc_115]; decide +kernel
theorem D115_11 : decode (cod 115) 11 = .ok (.aload_n 0, 1) := by rw [cc_115]; decide +kernel
theorem D115_12 : decode (cod 115) 12 = .ok (.getfield 29, 3) := by rw [cc_115]; decide +kernel
theorem D115_15 : decode (cod 115) 15 = .ok (.getfield 426, 3) := by rw [cc_115]; decide +kernel
theorem D115_18 : decode (cod 115) 18 = .ok (.aload_n 1, 1) := by rw [cc_115]; decide +kernel
theorem D115_19 : decode (cod 115) 19 = .ok (.getfield 430, 3) := by rw [cc_115]; decide +kernel
theorem D115_22 : decode (cod 115) 22 = .ok (.aaload, 1) := by rw [cc_115]; decide +kernel
theorem D115_23 : decode (cod 115) 23 = .ok (.iconst 0, 1) := by rw [cc_115]; decide +kernel
theorem D115_24 : decode (cod 115) 24 = .ok (.aload_n 0, 1) := by rw [cc_115]; decide +kernel
theorem D115_25 : decode (cod 115) 25 = .ok (.getfield 61, 3) := by rw [cc_115]; decide +kernel
theorem D115_28 : decode (cod 115) 28 = .ok (.getfield 402, 3) := by rw [cc_115]; decide +kernel
theorem D115_31 : decode (cod 115) 31 = .ok (.invokevirtual 433, 3) := by rw [cc_115]; decide +kernel
theorem D115_34 : decode (cod 115) 34 = .ok (.ireturn, 1) := by rw [cc_115]; decide +kernel
theorem b115_0 {d : Nat} {i0 i1 i2 : Nat} {I L : Nat → Nat → Nat → Int} {t : Nat → Nat} : Res (d + 1) 115 0 [vr 11 i0, vr 3 i1, vr 1 i2] [] (mk I L t) = (Cal d 112 [vr 11 i0, vr 3 i1] (mk I L t)).bind fun v => Res (d + 1) 115 5 [vr 11 i0, vr 3 i1, vr 1 i2] (psh 112 v.1 []) v.2 :=
  Eq.trans (e_aload_n D115_0 rfl rfl) <| Eq.trans (e_aload_n D115_1 rfl rfl) <| e_callV D115_2 rfl o_115 m_11_422 (by decide) rfl rfl
theorem b115_5 {d : Nat} {i0 i1 i2 : Nat} {I L : Nat → Nat → Nat → Int} {t : Nat → Nat} : Res (d + 1) 115 5 [vr 11 i0, vr 3 i1, vr 1 i2] [] (mk I L t) = (Cal d 113 [vr 11 i0, vr 3 i1, vr 1 i2] (mk I L t)).bind fun v => Res (d + 1) 115 11 [vr 11 i0, vr 3 i1, vr 1 i2] (psh 113 v.1 []) v.2 :=
  Eq.trans (e_aload_n D115_5 rfl rfl) <| Eq.trans (e_aload_n D115_6 rfl rfl) <| Eq.trans (e_aload_n D115_7 rfl rfl) <| e_callV D115_8 rfl o_115 m_11_439 (by decide) rfl rfl
theorem b115_11 {d : Nat} {i0 i1 i2 : Nat} {I L : Nat → Nat → Nat → Int} {t : Nat → Nat} (g1 : 0 ≤ I 3 i1 2 ∧ I 3 i1 2 < 4) : Res (d + 1) 115 11 [vr 11 i0, vr 3 i1, vr 1 i2] [] (mk I L t) = (Cal d 18 [vr 2 (t (I 3 i1 2).toNat), vi 0, vr 13 0] (mk I L t)).bind fun v => Res (d + 1) 115 34 [vr 11 i0, vr 3 i1, vr 1 i2] (psh 18 v.1 []) v.2 :=
  Eq.trans (e_aload_n D115_11 rfl rfl) <| Eq.trans (e_getP (p := (8, 0)) D115_12 rfl o_115 f_11_29 (sh_11 _) (by decide) (pp_11_3 _ _)) <| Eq.trans (e_getP (p := (38, 0)) D115_15 rfl o_115 f_11_426 (sh_8 _) (by decide) (pp_8_1 _)) <| Eq.trans (e_aload_n D115_18 rfl rfl) <| Eq.trans (e_getI D115_19 rfl o_115 f_11_430 (sh_3 _) (by decide)) <| Eq.trans (e_aald (p := (2, t (I 3 i1 2).toNat)) D115_22 rfl (ae_38 _) (aq_38 _) (pa_38 _ (tn4 g1)) g1) <| Eq.trans (e_iconst (x := 0) D115_23 rfl rfl) <| Eq.trans (e_aload_n D115_24 rfl rfl) <| Eq.trans (e_getP (p := (0, 0)) D115_25 rfl o_115 f_11_61 (sh_11 _) (by decide) (pp_11_9 _ _)) <| Eq.trans (e_getP (p := (13, 0)) D115_28 rfl o_115 f_11_402 (sh_0 _) (by decide) (pp_0_0 _ _)) <| e_callV D115_31 rfl o_115 m_11_433 (by decide) rfl rfl
theorem b115_34 {d : Nat} {i0 i1 i2 : Nat} {xs0 : Int} {I L : Nat → Nat → Nat → Int} {t : Nat → Nat} : Res d 115 34 [vr 11 i0, vr 3 i1, vr 1 i2] [vi xs0] (mk I L t) = some (vi xs0, (mk I L t)) :=
  e_iret D115_34 rfl
/-! x_sureOf -/
theorem cc_116 : cod 116 = cX11_sureOf := rfl
theorem D116_0 : decode (cod 116) 0 = .ok (.aload_n 2, 1) := by rw [cc_116]; decide +kernel
theorem D116_1 : decode (cod 116) 1 = .ok (.iload_n 3, 1) := by rw [cc_116]; decide +kernel
theorem D116_2 : decode (cod 116) 2 = .ok (.invokevirtual 247, 3) := by rw [cc_116]; decide +kernel
theorem D116_5 : decode (cod 116) 5 = .ok (.istore 4, 2) := by rw [cc_116]; decide +kernel
theorem D116_7 : decode (cod 116) 7 = .ok (.iload 4, 2) := by rw [cc_116]; decide +kernel
theorem D116_9 : decode (cod 116) 9 = .ok (.iconst (-1), 1) := by rw [cc_116]; decide +kernel
theorem D116_10 : decode (cod 116) 10 = .ok (.if_icmp .ne 5, 3) := by rw [cc_116]; decide +kernel
theorem D116_13 : decode (cod 116) 13 = .ok (.iconst (-1), 1) := by rw [cc_116]; decide +kernel
theorem D116_14 : decode (cod 116) 14 = .ok (.ireturn, 1) := by rw [cc_116]; decide +kernel
theorem D116_15 : decode (cod 116) 15 = .ok (.aload_n 0, 1) := by rw [cc_116]; decide +kernel
theorem D116_16 : decode (cod 116) 16 = .ok (.aload_n 1, 1) := by rw [cc_116]; decide +kernel
theorem D116_17 : decode (cod 116) 17 = .ok (.aload_n 0, 1) := by rw [cc_116]; decide +kernel
theorem D116_18 : decode (cod 116) 18 = .ok (.getfield 11, 3) := by rw [cc_116]; decide +kernel
theorem D116_21 : decode (cod 116) 21 = .ok (.iload 4, 2) := by rw [cc_116]; decide +kernel
theorem D116_23 : decode (cod 116) 23 = .ok (.aaload, 1) := by rw [cc_116]; decide +kernel
theorem D116_24 : decode (cod 116) 24 = .ok (.invokevirtual 172, 3) := by rw [cc_116]; decide +kernel
theorem D116_27 : decode (cod 116) 27 = .ok (.istore 5, 2) := by rw [cc_116]; decide +kernel
theorem D116_29 : decode (cod 116) 29 = .ok (.aload_n 0, 1) := by rw [cc_116]; decide +kernel
theorem D116_30 : decode (cod 116) 30 = .ok (.aload_n 1, 1) := by rw [cc_116]; decide +kernel
theorem D116_31 : decode (cod 116) 31 = .ok (.aload_n 2, 1) := by rw [cc_116]; decide +kernel
theorem D116_32 : decode (cod 116) 32 = .ok (.iload_n 3, 1) := by rw [cc_116]; decide +kernel
theorem D116_33 : decode (cod 116) 33 = .ok (.iload 5, 2) := by rw [cc_116]; decide +kernel
theorem D116_35 : decode (cod 116) 35 = .ok (.invokevirtual 443, 3) := by rw [cc_116]; decide +kernel
theorem D116_38 : decode (cod 116) 38 = .ok (.istore 6, 2) := by rw [cc_116]; decide +kernel
theorem D116_40 : decode (cod 116) 40 = .ok (.aload_n 0, 1) := by rw [cc_116]; decide +kernel
theorem D116_41 : decode (cod 116) 41 = .ok (.aload_n 1, 1) := by rw [cc_116]; decide +kernel
theorem D116_42 : decode (cod 116) 42 = .ok (.invokevirtual 422, 3) := by rw [cc_116]; decide +kernel
theorem D116_45 : decode (cod 116) 45 = .ok (.aload_n 0, 1) := by rw [cc_116]; decide +kernel
theorem D116_46 : decode (cod 116) 46 = .ok (.aload_n 1, 1) := by rw [cc_116]; decide +kernel
theorem D116_47 : decode (cod 116) 47 = .ok (.aload_n 0, 1) := by rw [cc_116]; decide +kernel
theorem D116_48 : decode (cod 116) 48 = .ok (.getfield 11, 3) := by rw [cc_116]; decide +kernel
theorem D116_51 : decode (cod 116) 51 = .ok (.iload 4, 2) := by rw [cc_116]; decide +kernel
theorem D116_53 : decode (cod 116) 53 = .ok (.aaload, 1) := by rw [cc_116]; decide +kernel
theorem D116_54 : decode (cod 116) 54 = .ok (.invokevirtual 439, 3) := by rw [cc_116]; decide +kernel
theorem D116_57 : decode (cod 116) 57 = .ok (.aload_n 0, 1) := by rw [cc_116]; decide +kernel
theorem D116_58 : decode (cod 116) 58 = .ok (.getfield 61, 3) := by rw [cc_116]; decide +kernel
theorem D116_61 : decode (cod 116) 61 = .ok (.getfield 402, 3) := by rw [cc_116]; decide +kernel
theorem D116_64 : decode (cod 116) 64 = .ok (.bipush 8, 2) := by rw [cc_116]; decide +kernel
theorem D116_66 : decode (cod 116) 66 = .ok (.iload 5, 2) := by rw [cc_116]; decide +kernel
theorem D116_68 : decode (cod 116) 68 = .ok (.iastore, 1) := by rw [cc_116]; decide +kernel
theorem D116_69 : decode (cod 116) 69 = .ok (.aload_n 0, 1) := by rw [cc_116]; decide +kernel
theorem D116_70 : decode (cod 116) 70 = .ok (.getfield 61, 3) := by rw [cc_116]; decide +kernel
theorem D116_73 : decode (cod 116) 73 = .ok (.getfield 402, 3) := by rw [cc_116]; decide +kernel
theorem D116_76 : decode (cod 116) 76 = .ok (.bipush 7, 2) := by rw [cc_116]; decide +kernel
theorem D116_78 : decode (cod 116) 78 = .ok (.iload 6, 2) := by rw [cc_116]; decide +kernel
theorem D116_80 : decode (cod 116) 80 = .ok (.iastore, 1) := by rw [cc_116]; decide +kernel
theorem D116_81 : decode (cod 116) 81 = .ok (.aload_n 0, 1) := by rw [cc_116]; decide +kernel
theorem D116_82 : decode (cod 116) 82 = .ok (.getfield 29, 3) := by rw [cc_116]; decide +kernel
theorem D116_85 : decode (cod 116) 85 = .ok (.getfield 426, 3) := by rw [cc_116]; decide +kernel
theorem D116_88 : decode (cod 116) 88 = .ok (.aload_n 1, 1) := by rw [cc_116]; decide +kernel
theorem D116_89 : decode (cod 116) 89 = .ok (.getfield 430, 3) := by rw [cc_116]; decide +kernel
theorem D116_92 : decode (cod 116) 92 = .ok (.aaload, 1) := by rw [cc_116]; decide +kernel
theorem D116_93 : decode (cod 116) 93 = .ok (.bipush 6, 2) := by rw [cc_116]; decide +kernel
theorem D116_95 : decode (cod 116) 95 = .ok (.aload_n 0, 1) := by rw [cc_116]; decide +kernel
theorem D116_96 : decode (cod 116) 96 = .ok (.getfield 61, 3) := by rw [cc_116]; decide +kernel
theorem D116_99 : decode (cod 116) 99 = .ok (.getfield 402, 3) := by rw [cc_116]; decide +kernel
theorem D116_102 : decode (cod 116) 102 = .ok (.invokevirtual 433, 3) := by rw [cc_116]; decide +kernel
theorem D116_105 : decode (cod 116) 105 = .ok (.ireturn, 1) := by rw [cc_116]; decide +kernel
theorem b116_0 {d : Nat} {i0 i1 i2 : Nat} {x3 : Int} {I L : Nat → Nat → Nat → Int} {t : Nat → Nat} : Res (d + 1) 116 0 [vr 11 i0, vr 3 i1, vr 4 i2, vi x3, vx, vx, vx] [] (mk I L t) = (Cal d 26 [vr 4 i2, vi x3] (mk I L t)).bind fun v => Res (d + 1) 116 5 [vr 11 i0, vr 3 i1, vr 4 i2, vi x3, vx, vx, vx] (psh 26 v.1 []) v.2 :=
  Eq.trans (e_aload_n D116_0 rfl rfl) <| Eq.trans (e_iload_n D116_1 rfl rfl) <| e_callV D116_2 rfl o_116 m_11_247 (by decide) rfl rfl
theorem b116_5 {d : Nat} {i0 i1 i2 : Nat} {x3 xs0 : Int} {I L : Nat → Nat → Nat → Int} {t : Nat → Nat} : Res d 116 5 [vr 11 i0, vr 3 i1, vr 4 i2, vi x3, vx, vx, vx] [vi xs0] (mk I L t) = if ¬ xs0 = -1 then Res d 116 15 [vr 11 i0, vr 3 i1, vr 4 i2, vi x3, vi xs0, vx, vx] [] (mk I L t) else Res d 116 13 [vr 11 i0, vr 3 i1, vr 4 i2, vi x3, vi xs0, vx, vx] [] (mk I L t) :=
  Eq.trans (e_istore (ls1 := [vr 11 i0, vr 3 i1, vr 4 i2, vi x3, vi xs0, vx, vx]) D116_5 rfl (show 4 < 7 by decide) rfl) <| Eq.trans (e_iload D116_7 rfl rfl) <| Eq.trans (e_iconst (x := -1) D116_9 rfl rfl) <| e_icne D116_10 rfl rfl
theorem b116_13 {d : Nat} {i0 i1 i2 : Nat} {x3 x4 : Int} {I L : Nat → Nat → Nat → Int} {t : Nat → Nat} : Res d 116 13 [vr 11 i0, vr 3 i1, vr 4 i2, vi x3, vi x4, vx, vx] [] (mk I L t) = some (vi (-1), (mk I L t)) :=
  Eq.trans (e_iconst (x := -1) D116_13 rfl rfl) <| e_iret D116_14 rfl
theorem b116_15 {d : Nat} {i0 i1 i2 : Nat} {x3 x4 : Int} {I L : Nat → Nat → Nat → Int} {t : Nat → Nat} (g1 : 0 ≤ x4 ∧ x4 < 120) : Res (d + 1) 116 15 [vr 11 i0, vr 3 i1, vr 4 i2, vi x3, vi x4, vx, vx] [] (mk I L t) = (Cal d 115 [vr 11 i0, vr 3 i1, vr 1 x4.toNat] (mk I L t)).bind fun v => Res (d + 1) 116 27 [vr 11 i0, vr 3 i1, vr 4 i2, vi x3, vi x4, vx, vx] (psh 115 v.1 []) v.2 :=
  Eq.trans (e_aload_n D116_15 rfl rfl) <| Eq.trans (e_aload_n D116_16 rfl rfl) <| Eq.trans (e_aload_n D116_17 rfl rfl) <| Eq.trans (e_getP (p := (40, i0)) D116_18 rfl o_116 f_11_11 (sh_11 _) (by decide) (pp_11_0 _ _)) <| Eq.trans (e_iload D116_21 rfl rfl) <| Eq.trans (e_aald (p := (1, x4.toNat)) D116_23 rfl (ae_40 _) (aq_40 _) (pa_40 _ _ _) g1) <| e_callV D116_24 rfl o_116 m_11_172 (by decide) rfl rfl
theorem b116_27 {d : Nat} {i0 i1 i2 : Nat} {x3 x4 xs0 : Int} {I L : Nat → Nat → Nat → Int} {t : Nat → Nat} : Res (d + 1) 116 27 [vr 11 i0, vr 3 i1, vr 4 i2, vi x3, vi x4, vx, vx] [vi xs0] (mk I L t) = (Cal d 117 [vr 11 i0, vr 3 i1, vr 4 i2, vi x3, vi xs0] (mk I L t)).bind fun v => Res (d + 1) 116 38 [vr 11 i0, vr 3 i1, vr 4 i2, vi x3, vi x4, vi xs0, vx] (psh 117 v.1 []) v.2 :=
  Eq.trans (e_istore (ls1 := [vr 11 i0, vr 3 i1, vr 4 i2, vi x3, vi x4, vi xs0, vx]) D116_27 rfl (show 5 < 7 by decide) rfl) <| Eq.trans (e_aload_n D116_29 rfl rfl) <| Eq.trans (e_aload_n D116_30 rfl rfl) <| Eq.trans (e_aload_n D116_31 rfl rfl) <| Eq.trans (e_iload_n D116_32 rfl rfl) <| Eq.trans (e_iload D116_33 rfl rfl) <| e_callV D116_35 rfl o_116 m_11_443 (by decide) rfl rfl
theorem b116_38 {d : Nat} {i0 i1 i2 : Nat} {x3 x4 x5 xs0 : Int} {I L : Nat → Nat → Nat → Int} {t : Nat → Nat} : Res (d + 1) 116 38 [vr 11 i0, vr 3 i1, vr 4 i2, vi x3, vi x4, vi x5, vx] [vi xs0] (mk I L t) = (Cal d 112 [vr 11 i0, vr 3 i1] (mk I L t)).bind fun v => Res (d + 1) 116 45 [vr 11 i0, vr 3 i1, vr 4 i2, vi x3, vi x4, vi x5, vi xs0] (psh 112 v.1 []) v.2 :=
  Eq.trans (e_istore (ls1 := [vr 11 i0, vr 3 i1, vr 4 i2, vi x3, vi x4, vi x5, vi xs0]) D116_38 rfl (show 6 < 7 by decide) rfl) <| Eq.trans (e_aload_n D116_40 rfl rfl) <| Eq.trans (e_aload_n D116_41 rfl rfl) <| e_callV D116_42 rfl o_116 m_11_422 (by decide) rfl rfl
theorem b116_45 {d : Nat} {i0 i1 i2 : Nat} {x3 x4 x5 x6 : Int} {I L : Nat → Nat → Nat → Int} {t : Nat → Nat} (g1 : 0 ≤ x4 ∧ x4 < 120) : Res (d + 1) 116 45 [vr 11 i0, vr 3 i1, vr 4 i2, vi x3, vi x4, vi x5, vi x6] [] (mk I L t) = (Cal d 113 [vr 11 i0, vr 3 i1, vr 1 x4.toNat] (mk I L t)).bind fun v => Res (d + 1) 116 57 [vr 11 i0, vr 3 i1, vr 4 i2, vi x3, vi x4, vi x5, vi x6] (psh 113 v.1 []) v.2 :=
  Eq.trans (e_aload_n D116_45 rfl rfl) <| Eq.trans (e_aload_n D116_46 rfl rfl) <| Eq.trans (e_aload_n D116_47 rfl rfl) <| Eq.trans (e_getP (p := (40, i0)) D116_48 rfl o_116 f_11_11 (sh_11 _) (by decide) (pp_11_0 _ _)) <| Eq.trans (e_iload D116_51 rfl rfl) <| Eq.trans (e_aald (p := (1, x4.toNat)) D116_53 rfl (ae_40 _) (aq_40 _) (pa_40 _ _ _) g1) <| e_callV D116_54 rfl o_116 m_11_439 (by decide) rfl rfl
theorem b116_57 {d : Nat} {i0 i1 i2 : Nat} {x3 x4 x5 x6 : Int} {I L : Nat → Nat → Nat → Int} {t : Nat → Nat} (g1 : 0 ≤ (up3 (up3 I 13 0 8 x5) 13 0 7 x6) 3 i1 2 ∧ (up3 (up3 I 13 0 8 x5) 13 0 7 x6) 3 i1 2 < 4) : Res (d + 1) 116 57 [vr 11 i0, vr 3 i1, vr 4 i2, vi x3, vi x4, vi x5, vi x6] [] (mk I L t) = (Cal d 18 [vr 2 (t ((up3 (up3 I 13 0 8 x5) 13 0 7 x6) 3 i1 2).toNat), vi 6, vr 13 0] (mk (up3 (up3 I 13 0 8 x5) 13 0 7 x6) L t)).bind fun v => Res (d + 1) 116 105 [vr 11 i0, vr 3 i1, vr 4 i2, vi x3, vi x4, vi x5, vi x6] (psh 18 v.1 []) v.2 :=
  Eq.trans (e_aload_n D116_57 rfl rfl) <| Eq.trans (e_getP (p := (0, 0)) D116_58 rfl o_116 f_11_61 (sh_11 _) (by decide) (pp_11_9 _ _)) <| Eq.trans (e_getP (p := (13, 0)) D116_61 rfl o_116 f_11_402 (sh_0 _) (by decide) (pp_0_0 _ _)) <| Eq.trans (e_bipush (x := 8) D116_64 rfl rfl) <| Eq.trans (e_iload D116_66 rfl rfl) <| Eq.trans (e_iast D116_68 rfl (al_13 _) rfl (by decide)) <| Eq.trans (e_aload_n D116_69 rfl rfl) <| Eq.trans (e_getP (p := (0, 0)) D116_70 rfl o_116 f_11_61 (sh_11 _) (by decide) (pp_11_9 _ _)) <| Eq.trans (e_getP (p := (13, 0)) D116_73 rfl o_116 f_11_402 (sh_0 _) (by decide) (pp_0_0 _ _)) <| Eq.trans (e_bipush (x := 7) D116_76 rfl rfl) <| Eq.trans (e_iload D116_78 rfl rfl) <| Eq.trans (e_iast D116_80 rfl (al_13 _) rfl (by decide)) <| Eq.trans (e_aload_n D116_81 rfl rfl) <| Eq.trans (e_getP (p := (8, 0)) D116_82 rfl o_116 f_11_29 (sh_11 _) (by decide) (pp_11_3 _ _)) <| Eq.trans (e_getP (p := (38, 0)) D116_85 rfl o_116 f_11_426 (sh_8 _) (by decide) (pp_8_1 _)) <| Eq.trans (e_aload_n D116_88 rfl rfl) <| Eq.trans (e_getI D116_89 rfl o_116 f_11_430 (sh_3 _) (by decide)) <| Eq.trans (e_aald (p := (2, t ((up3 (up3 I 13 0 8 x5) 13 0 7 x6) 3 i1 2).toNat)) D116_92 rfl (ae_38 _) (aq_38 _) (pa_38 _ (tn4 g1)) g1) <| Eq.trans (e_bipush (x := 6) D116_93 rfl rfl) <| Eq.trans (e_aload_n D116_95 rfl rfl) <| Eq.trans (e_getP (p := (0, 0)) D116_96 rfl o_116 f_11_61 (sh_11 _) (by decide) (pp_11_9 _ _)) <| Eq.trans (e_getP (p := (13, 0)) D116_99 rfl o_116 f_11_402 (sh_0 _) (by decide) (pp_0_0 _ _)) <| e_callV D116_102 rfl o_116 m_11_433 (by decide) rfl rfl
theorem b116_105 {d : Nat} {i0 i1 i2 : Nat} {x3 x4 x5 x6 xs0 : Int} {I L : Nat → Nat → Nat → Int} {t : Nat → Nat} : Res d 116 105 [vr 11 i0, vr 3 i1, vr 4 i2, vi x3, vi x4, vi x5, vi x6] [vi xs0] (mk I L t) = some (vi xs0, (mk I L t)) :=
  e_iret D116_105 rfl
/-! x_gapBehind -/
theorem cc_117 : cod 117 = cX11_gapBehind := rfl
theorem D117_0 : decode (cod 117) 0 = .ok (.iconst (-1), 1) := by rw [cc_117]; decide +kernel
theorem D117_1 : decode (cod 117) 1 = .ok (.istore 5, 2) := by rw [cc_117]; decide +kernel
theorem D117_3 : decode (cod 117) 3 = .ok (.iconst 0, 1) := by rw [cc_117]; decide +kernel
theorem D117_4 : decode (cod 117) 4 = .ok (.istore 6, 2) := by rw [cc_117]; decide +kernel
theorem D117_6 : decode (cod 117) 6 = .ok (.iload 6, 2) := by rw [cc_117]; decide +kernel
theorem D117_8 : decode (cod 117) 8 = .ok (.bipush 9, 2) := by rw [cc_117]; decide +kernel
theorem D117_10 : decode (cod 117) 10 = .ok (.if_icmp .ge 63, 3) := by rw [cc_117]; decide +kernel
theorem D117_13 : decode (cod 117) 13 = .ok (.aload_n 2, 1) := by rw [cc_117]; decide +kernel
theorem D117_14 : decode (cod 117) 14 = .ok (.iload 6, 2) := by rw [cc_117]; decide +kernel
theorem D117_16 : decode (cod 117) 16 = .ok (.invokevirtual 247, 3) := by rw [cc_117]; decide +kernel
theorem D117_19 : decode (cod 117) 19 = .ok (.istore 7, 2) := by rw [cc_117]; decide +kernel
theorem D117_21 : decode (cod 117) 21 = .ok (.iload 6, 2) := by rw [cc_117]; decide +kernel
theorem D117_23 : decode (cod 117) 23 = .ok (.iload_n 3, 1) := by rw [cc_117]; decide +kernel
theorem D117_24 : decode (cod 117) 24 = .ok (.if_icmp .eq 43, 3) := by rw [cc_117]; decide +kernel
theorem D117_27 : decode (cod 117) 27 = .ok (.iload 7, 2) := by rw [cc_117]; decide +kernel
theorem D117_29 : decode (cod 117) 29 = .ok (.iconst (-1), 1) := by rw [cc_117]; decide +kernel
theorem D117_30 : decode (cod 117) 30 = .ok (.if_icmp .eq 37, 3) := by rw [cc_117]; decide +kernel
theorem D117_33 : decode (cod 117) 33 = .ok (.aload_n 0, 1) := by rw [cc_117]; decide +kernel
theorem D117_34 : decode (cod 117) 34 = .ok (.aload_n 1, 1) := by rw [cc_117]; decide +kernel
theorem D117_35 : decode (cod 117) 35 = .ok (.aload_n 0, 1) := by rw [cc_117]; decide +kernel
theorem D117_36 : decode (cod 117) 36 = .ok (.getfield 11, 3) := by rw [cc_117]; decide +kernel
theorem D117_39 : decode (cod 117) 39 = .ok (.iload 7, 2) := by rw [cc_117]; decide +kernel
theorem D117_41 : decode (cod 117) 41 = .ok (.aaload, 1) := by rw [cc_117]; decide +kernel
theorem D117_42 : decode (cod 117) 42 = .ok (.invokevirtual 172, 3) := by rw [cc_117]; decide +kernel
theorem D117_45 : decode (cod 117) 45 = .ok (.istore 8, 2) := by rw [cc_117]; decide +kernel
theorem D117_47 : decode (cod 117) 47 = .ok (.iload 5, 2) := by rw [cc_117]; decide +kernel
theorem D117_49 : decode (cod 117) 49 = .ok (.iconst (-1), 1) := by rw [cc_117]; decide +kernel
theorem D117_50 : decode (cod 117) 50 = .ok (.if_icmp .ne 8, 3) := by rw [cc_117]; decide +kernel
theorem D117_53 : decode (cod 117) 53 = .ok (.iload 8, 2) := by rw [cc_117]; decide +kernel
theorem D117_55 : decode (cod 117) 55 = .ok (.goto 10, 3) := by rw [cc_117]; decide +kernel
theorem D117_58 : decode (cod 117) 58 = .ok (.iload 5, 2) := by rw [cc_117]; decide +kernel
theorem D117_60 : decode (cod 117) 60 = .ok (.iload 8, 2) := by rw [cc_117]; decide +kernel
theorem D117_62 : decode (cod 117) 62 = .ok (.invokestatic 253, 3) := by rw [cc_117]; decide +kernel
theorem D117_65 : decode (cod 117) 65 = .ok (.istore 5, 2) := by rw [cc_117]; decide +kernel
theorem D117_67 : decode (cod 117) 67 = .ok (.iinc 6 1, 3) := by rw [cc_117]; decide +kernel
theorem D117_70 : decode (cod 117) 70 = .ok (.goto (-64), 3) := by rw [cc_117]; decide +kernel
theorem D117_73 : decode (cod 117) 73 = .ok (.iload 5, 2) := by rw [cc_117]; decide +kernel
theorem D117_75 : decode (cod 117) 75 = .ok (.iconst (-1), 1) := by rw [cc_117]; decide +kernel
theorem D117_76 : decode (cod 117) 76 = .ok (.if_icmp .ne 7, 3) := by rw [cc_117]; decide +kernel
theorem D117_79 : decode (cod 117) 79 = .ok (.iconst 0, 1) := by rw [cc_117]; decide +kernel
theorem D117_80 : decode (cod 117) 80 = .ok (.goto 12, 3) := by rw [cc_117]; decide +kernel
theorem D117_83 : decode (cod 117) 83 = .ok (.iconst 0, 1) := by rw [cc_117]; decide +kernel
theorem D117_84 : decode (cod 117) 84 = .ok (.iload 5, 2) := by rw [cc_117]; decide +kernel
theorem D117_86 : decode (cod 117) 86 = .ok (.iload 4, 2) := by rw [cc_117]; decide +kernel
theorem D117_88 : decode (cod 117) 88 = .ok (.isub, 1) := by rw [cc_117]; decide +kernel
theorem D117_89 : decode (cod 117) 89 = .ok (.invokestatic 318, 3) := by rw [cc_117]; decide +kernel
theorem D117_92 : decode (cod 117) 92 = .ok (.ireturn, 1) := by rw [cc_117]; decide +kernel
theorem b117_0 {d : Nat} {i0 i1 i2 : Nat} {x3 x4 : Int} {I L : Nat → Nat → Nat → Int} {t : Nat → Nat} : Res d 117 0 [vr 11 i0, vr 3 i1, vr 4 i2, vi x3, vi x4, vx, vx, vx, vx] [] (mk I L t) = Res d 117 6 [vr 11 i0, vr 3 i1, vr 4 i2, vi x3, vi x4, vi (-1), vi 0, vx, vx] [] (mk I L t) :=
  Eq.trans (e_iconst (x := -1) D117_0 rfl rfl) <| Eq.trans (e_istore (ls1 := [vr 11 i0, vr 3 i1, vr 4 i2, vi x3, vi x4, vi (-1), vx, vx, vx]) D117_1 rfl (show 5 < 9 by decide) rfl) <| Eq.trans (e_iconst (x := 0) D117_3 rfl rfl) <| e_istore (ls1 := [vr 11 i0, vr 3 i1, vr 4 i2, vi x3, vi x4, vi (-1), vi 0, vx, vx]) D117_4 rfl (show 6 < 9 by decide) rfl
theorem b117_6 {d : Nat} {i0 i1 i2 : Nat} {x3 x4 x5 x6 : Int} {u7 u8 : MV} {I L : Nat → Nat → Nat → Int} {t : Nat → Nat} : Res d 117 6 [vr 11 i0, vr 3 i1, vr 4 i2, vi x3, vi x4, vi x5, vi x6, u7, u8] [] (mk I L t) = if 9 ≤ x6 then Res d 117 73 [vr 11 i0, vr 3 i1, vr 4 i2, vi x3, vi x4, vi x5, vi x6, u7, u8] [] (mk I L t) else Res d 117 13 [vr 11 i0, vr 3 i1, vr 4 i2, vi x3, vi x4, vi x5, vi x6, u7, u8] [] (mk I L t) :=
  Eq.trans (e_iload D117_6 rfl rfl) <| Eq.trans (e_bipush (x := 9) D117_8 rfl rfl) <| e_icge D117_10 rfl rfl
theorem b117_13 {d : Nat} {i0 i1 i2 : Nat} {x3 x4 x5 x6 : Int} {u7 u8 : MV} {I L : Nat → Nat → Nat → Int} {t : Nat → Nat} : Res (d + 1) 117 13 [vr 11 i0, vr 3 i1, vr 4 i2, vi x3, vi x4, vi x5, vi x6, u7, u8] [] (mk I L t) = (Cal d 26 [vr 4 i2, vi x6] (mk I L t)).bind fun v => Res (d + 1) 117 19 [vr 11 i0, vr 3 i1, vr 4 i2, vi x3, vi x4, vi x5, vi x6, u7, u8] (psh 26 v.1 []) v.2 :=
  Eq.trans (e_aload_n D117_13 rfl rfl) <| Eq.trans (e_iload D117_14 rfl rfl) <| e_callV D117_16 rfl o_117 m_11_247 (by decide) rfl rfl
theorem b117_19 {d : Nat} {i0 i1 i2 : Nat} {x3 x4 x5 x6 xs0 : Int} {u7 u8 : MV} {I L : Nat → Nat → Nat → Int} {t : Nat → Nat} : Res d 117 19 [vr 11 i0, vr 3 i1, vr 4 i2, vi x3, vi x4, vi x5, vi x6, u7, u8] [vi xs0] (mk I L t) = if x6 = x3 then Res d 117 67 [vr 11 i0, vr 3 i1, vr 4 i2, vi x3, vi x4, vi x5, vi x6, vi xs0, u8] [] (mk I L t) else Res d 117 27 [vr 11 i0, vr 3 i1, vr 4 i2, vi x3, vi x4, vi x5, vi x6, vi xs0, u8] [] (mk I L t) :=
  Eq.trans (e_istore (ls1 := [vr 11 i0, vr 3 i1, vr 4 i2, vi x3, vi x4, vi x5, vi x6, vi xs0, u8]) D117_19 rfl (show 7 < 9 by decide) rfl) <| Eq.trans (e_iload D117_21 rfl rfl) <| Eq.trans (e_iload_n D117_23 rfl rfl) <| e_iceq D117_24 rfl rfl
theorem b117_27 {d : Nat} {i0 i1 i2 : Nat} {x3 x4 x5 x6 x7 : Int} {u8 : MV} {I L : Nat → Nat → Nat → Int} {t : Nat → Nat} : Res d 117 27 [vr 11 i0, vr 3 i1, vr 4 i2, vi x3, vi x4, vi x5, vi x6, vi x7, u8] [] (mk I L t) = if x7 = -1 then Res d 117 67 [vr 11 i0, vr 3 i1, vr 4 i2, vi x3, vi x4, vi x5, vi x6, vi x7, u8] [] (mk I L t) else Res d 117 33 [vr 11 i0, vr 3 i1, vr 4 i2, vi x3, vi x4, vi x5, vi x6, vi x7, u8] [] (mk I L t) :=
  Eq.trans (e_iload D117_27 rfl rfl) <| Eq.trans (e_iconst (x := -1) D117_29 rfl rfl) <| e_iceq D117_30 rfl rfl
theorem b117_33 {d : Nat} {i0 i1 i2 : Nat} {x3 x4 x5 x6 x7 : Int} {u8 : MV} {I L : Nat → Nat → Nat → Int} {t : Nat → Nat} (g1 : 0 ≤ x7 ∧ x7 < 120) : Res (d + 1) 117 33 [vr 11 i0, vr 3 i1, vr 4 i2, vi x3, vi x4, vi x5, vi x6, vi x7, u8] [] (mk I L t) = (Cal d 115 [vr 11 i0, vr 3 i1, vr 1 x7.toNat] (mk I L t)).bind fun v => Res (d + 1) 117 45 [vr 11 i0, vr 3 i1, vr 4 i2, vi x3, vi x4, vi x5, vi x6, vi x7, u8] (psh 115 v.1 []) v.2 :=
  Eq.trans (e_aload_n D117_33 rfl rfl) <| Eq.trans (e_aload_n D117_34 rfl rfl) <| Eq.trans (e_aload_n D117_35 rfl rfl) <| Eq.trans (e_getP (p := (40, i0)) D117_36 rfl o_117 f_11_11 (sh_11 _) (by decide) (pp_11_0 _ _)) <| Eq.trans (e_iload D117_39 rfl rfl) <| Eq.trans (e_aald (p := (1, x7.toNat)) D117_41 rfl (ae_40 _) (aq_40 _) (pa_40 _ _ _) g1) <| e_callV D117_42 rfl o_117 m_11_172 (by decide) rfl rfl
theorem b117_45 {d : Nat} {i0 i1 i2 : Nat} {x3 x4 x5 x6 x7 xs0 : Int} {u8 : MV} {I L : Nat → Nat → Nat → Int} {t : Nat → Nat} : Res d 117 45 [vr 11 i0, vr 3 i1, vr 4 i2, vi x3, vi x4, vi x5, vi x6, vi x7, u8] [vi xs0] (mk I L t) = if ¬ x5 = -1 then Res d 117 58 [vr 11 i0, vr 3 i1, vr 4 i2, vi x3, vi x4, vi x5, vi x6, vi x7, vi xs0] [] (mk I L t) else Res d 117 53 [vr 11 i0, vr 3 i1, vr 4 i2, vi x3, vi x4, vi x5, vi x6, vi x7, vi xs0] [] (mk I L t) :=
  Eq.trans (e_istore (ls1 := [vr 11 i0, vr 3 i1, vr 4 i2, vi x3, vi x4, vi x5, vi x6, vi x7, vi xs0]) D117_45 rfl (show 8 < 9 by decide) rfl) <| Eq.trans (e_iload D117_47 rfl rfl) <| Eq.trans (e_iconst (x := -1) D117_49 rfl rfl) <| e_icne D117_50 rfl rfl
theorem b117_53 {d : Nat} {i0 i1 i2 : Nat} {x3 x4 x5 x6 x7 x8 : Int} {I L : Nat → Nat → Nat → Int} {t : Nat → Nat} : Res d 117 53 [vr 11 i0, vr 3 i1, vr 4 i2, vi x3, vi x4, vi x5, vi x6, vi x7, vi x8] [] (mk I L t) = Res d 117 65 [vr 11 i0, vr 3 i1, vr 4 i2, vi x3, vi x4, vi x5, vi x6, vi x7, vi x8] [vi x8] (mk I L t) :=
  Eq.trans (e_iload D117_53 rfl rfl) <| e_goto (q1 := 65) D117_55 rfl
theorem b117_58 {d : Nat} {i0 i1 i2 : Nat} {x3 x4 x5 x6 x7 x8 : Int} {I L : Nat → Nat → Nat → Int} {t : Nat → Nat} : Res (d + 1) 117 58 [vr 11 i0, vr 3 i1, vr 4 i2, vi x3, vi x4, vi x5, vi x6, vi x7, vi x8] [] (mk I L t) = Res (d + 1) 117 65 [vr 11 i0, vr 3 i1, vr 4 i2, vi x3, vi x4, vi x5, vi x6, vi x7, vi x8] [vi ((if x8 < x5 then x8 else x5))] (mk I L t) :=
  Eq.trans (e_iload D117_58 rfl rfl) <| Eq.trans (e_iload D117_60 rfl rfl) <| e_min (by omega) D117_62 rfl o_117 m_11_253 (by simp [cw])
theorem b117_65 {d : Nat} {i0 i1 i2 : Nat} {x3 x4 x5 x6 x7 x8 xs0 : Int} {I L : Nat → Nat → Nat → Int} {t : Nat → Nat} : Res d 117 65 [vr 11 i0, vr 3 i1, vr 4 i2, vi x3, vi x4, vi x5, vi x6, vi x7, vi x8] [vi xs0] (mk I L t) = Res d 117 67 [vr 11 i0, vr 3 i1, vr 4 i2, vi x3, vi x4, vi xs0, vi x6, vi x7, vi x8] [] (mk I L t) :=
  e_istore (ls1 := [vr 11 i0, vr 3 i1, vr 4 i2, vi x3, vi x4, vi xs0, vi x6, vi x7, vi x8]) D117_65 rfl (show 5 < 9 by decide) rfl
theorem b117_67 {d : Nat} {i0 i1 i2 : Nat} {x3 x4 x5 x6 x7 : Int} {u8 : MV} {I L : Nat → Nat → Nat → Int} {t : Nat → Nat} : Res d 117 67 [vr 11 i0, vr 3 i1, vr 4 i2, vi x3, vi x4, vi x5, vi x6, vi x7, u8] [] (mk I L t) = Res d 117 6 [vr 11 i0, vr 3 i1, vr 4 i2, vi x3, vi x4, vi x5, vi (w32 (x6 + 1)), vi x7, u8] [] (mk I L t) :=
  Eq.trans (e_iinc (ls1 := [vr 11 i0, vr 3 i1, vr 4 i2, vi x3, vi x4, vi x5, vi (w32 (x6 + 1)), vi x7, u8]) D117_67 rfl rfl rfl) <| e_goto (q1 := 6) D117_70 rfl
theorem b117_73 {d : Nat} {i0 i1 i2 : Nat} {x3 x4 x5 x6 : Int} {u7 u8 : MV} {I L : Nat → Nat → Nat → Int} {t : Nat → Nat} : Res d 117 73 [vr 11 i0, vr 3 i1, vr 4 i2, vi x3, vi x4, vi x5, vi x6, u7, u8] [] (mk I L t) = if ¬ x5 = -1 then Res d 117 83 [vr 11 i0, vr 3 i1, vr 4 i2, vi x3, vi x4, vi x5, vi x6, u7, u8] [] (mk I L t) else Res d 117 79 [vr 11 i0, vr 3 i1, vr 4 i2, vi x3, vi x4, vi x5, vi x6, u7, u8] [] (mk I L t) :=
  Eq.trans (e_iload D117_73 rfl rfl) <| Eq.trans (e_iconst (x := -1) D117_75 rfl rfl) <| e_icne D117_76 rfl rfl
theorem b117_79 {d : Nat} {i0 i1 i2 : Nat} {x3 x4 x5 x6 : Int} {u7 u8 : MV} {I L : Nat → Nat → Nat → Int} {t : Nat → Nat} : Res d 117 79 [vr 11 i0, vr 3 i1, vr 4 i2, vi x3, vi x4, vi x5, vi x6, u7, u8] [] (mk I L t) = Res d 117 92 [vr 11 i0, vr 3 i1, vr 4 i2, vi x3, vi x4, vi x5, vi x6, u7, u8] [vi 0] (mk I L t) :=
  Eq.trans (e_iconst (x := 0) D117_79 rfl rfl) <| e_goto (q1 := 92) D117_80 rfl
theorem b117_83 {d : Nat} {i0 i1 i2 : Nat} {x3 x4 x5 x6 : Int} {u7 u8 : MV} {I L : Nat → Nat → Nat → Int} {t : Nat → Nat} : Res (d + 1) 117 83 [vr 11 i0, vr 3 i1, vr 4 i2, vi x3, vi x4, vi x5, vi x6, u7, u8] [] (mk I L t) = Res (d + 1) 117 92 [vr 11 i0, vr 3 i1, vr 4 i2, vi x3, vi x4, vi x5, vi x6, u7, u8] [vi ((if 0 < w32 (x5 - x4) then w32 (x5 - x4) else 0))] (mk I L t) :=
  Eq.trans (e_iconst (x := 0) D117_83 rfl rfl) <| Eq.trans (e_iload D117_84 rfl rfl) <| Eq.trans (e_iload D117_86 rfl rfl) <| Eq.trans (e_isub D117_88 rfl) <| e_max (by omega) D117_89 rfl o_117 m_11_318 (by simp [cw])
theorem b117_92 {d : Nat} {i0 i1 i2 : Nat} {x3 x4 x5 x6 xs0 : Int} {u7 u8 : MV} {I L : Nat → Nat → Nat → Int} {t : Nat → Nat} : Res d 117 92 [vr 11 i0, vr 3 i1, vr 4 i2, vi x3, vi x4, vi x5, vi x6, u7, u8] [vi xs0] (mk I L t) = some (vi xs0, (mk I L t)) :=
  e_iret D117_92 rfl
/-! x_typeOfSeen -/
theorem cc_118 : cod 118 = cX11_typeOfSeen := rfl
theorem D118_0 : decode (cod 118) 0 = .ok (.aload_n 0, 1) := by rw [cc_118]; decide +kernel
theorem D118_1 : decode (cod 118) 1 = .ok (.getfield 17, 3) := by rw [cc_118]; decide +kernel
theorem D118_4 : decode (cod 118) 4 = .ok (.aload_n 0, 1) := by rw [cc_118]; decide +kernel
theorem D118_5 : decode (cod 118) 5 = .ok (.getfield 11, 3) := by rw [cc_118]; decide +kernel
theorem D118_8 : decode (cod 118) 8 = .ok (.aload_n 1, 1) := by rw [cc_118]; decide +kernel
theorem D118_9 : decode (cod 118) 9 = .ok (.getfield 266, 3) := by rw [cc_118]; decide +kernel
theorem D118_12 : decode (cod 118) 12 = .ok (.aaload, 1) := by rw [cc_118]; decide +kernel
theorem D118_13 : decode (cod 118) 13 = .ok (.getfield 84, 3) := by rw [cc_118]; decide +kernel
theorem D118_16 : decode (cod 118) 16 = .ok (.aaload, 1) := by rw [cc_118]; decide +kernel
theorem D118_17 : decode (cod 118) 17 = .ok (.areturn, 1) := by rw [cc_118]; decide +kernel
theorem b118_0 {d : Nat} {i0 i1 : Nat} {I L : Nat → Nat → Nat → Int} {t : Nat → Nat} (g1 : 0 ≤ I 3 i1 4 ∧ I 3 i1 4 < 120) (g2 : 0 ≤ I 1 ((I 3 i1 4).toNat) 1 ∧ I 1 ((I 3 i1 4).toNat) 1 < 6) : Res d 118 0 [vr 11 i0, vr 3 i1] [] (mk I L t) = some (vr 115 ((I 1 ((I 3 i1 4).toNat) 1).toNat), (mk I L t)) :=
  Eq.trans (e_aload_n D118_0 rfl rfl) <| Eq.trans (e_getP (p := (41, i0)) D118_1 rfl o_118 f_11_17 (sh_11 _) (by decide) (pp_11_1 _ _)) <| Eq.trans (e_aload_n D118_4 rfl rfl) <| Eq.trans (e_getP (p := (40, i0)) D118_5 rfl o_118 f_11_11 (sh_11 _) (by decide) (pp_11_0 _ _)) <| Eq.trans (e_aload_n D118_8 rfl rfl) <| Eq.trans (e_getI D118_9 rfl o_118 f_11_266 (sh_3 _) (by decide)) <| Eq.trans (e_aald (p := (1, (I 3 i1 4).toNat)) D118_12 rfl (ae_40 _) (aq_40 _) (pa_40 _ _ _) g1) <| Eq.trans (e_getI D118_13 rfl o_118 f_11_84 (sh_1 _) (by decide)) <| Eq.trans (e_aald (p := (115, (I 1 ((I 3 i1 4).toNat) 1).toNat)) D118_16 rfl (ae_41 _) (aq_41 _) (pa_41 _ _ _) g2) <| e_aretA D118_17 rfl
/-! x_see -/
theorem cc_119 : cod 119 = cX11_see := rfl
theorem D119_0 : decode (cod 119) 0 = .ok (.aload_n 2, 1) := by rw [cc_119]; decide +kernel
theorem D119_1 : decode (cod 119) 1 = .ok (.iconst 0, 1) := by rw [cc_119]; decide +kernel
theorem D119_2 : decode (cod 119) 2 = .ok (.aload_n 1, 1) := by rw [cc_119]; decide +kernel
theorem D119_3 : decode (cod 119) 3 = .ok (.getfield 447, 3) := by rw [cc_119]; decide +kernel
theorem D119_6 : decode (cod 119) 6 = .ok (.iconst 0, 1) := by rw [cc_119]; decide +kernel
theorem D119_7 : decode (cod 119) 7 = .ok (.bipush 16, 2) := by rw [cc_119]; decide +kernel
theorem D119_9 : decode (cod 119) 9 = .ok (.invokestatic 101, 3) := by rw [cc_119]; decide +kernel
theorem D119_12 : decode (cod 119) 12 = .ok (.aload_n 1, 1) := by rw [cc_119]; decide +kernel
theorem D119_13 : decode (cod 119) 13 = .ok (.iconst 0, 1) := by rw [cc_119]; decide +kernel
theorem D119_14 : decode (cod 119) 14 = .ok (.putfield 414, 3) := by rw [cc_119]; decide +kernel
theorem D119_17 : decode (cod 119) 17 = .ok (.aload_n 0, 1) := by rw [cc_119]; decide +kernel
theorem D119_18 : decode (cod 119) 18 = .ok (.aload_n 1, 1) := by rw [cc_119]; decide +kernel
theorem D119_19 : decode (cod 119) 19 = .ok (.iconst 1, 1) := by rw [cc_119]; decide +kernel
theorem D119_20 : decode (cod 119) 20 = .ok (.invokevirtual 272, 3) := by rw [cc_119]; decide +kernel
theorem D119_23 : decode (cod 119) 23 = .ok (.istore_n 3, 1) := by rw [cc_119]; decide +kernel
theorem D119_24 : decode (cod 119) 24 = .ok (.aload_n 0, 1) := by rw [cc_119]; decide +kernel
theorem D119_25 : decode (cod 119) 25 = .ok (.getfield 11, 3) := by rw [cc_119]; decide +kernel
theorem D119_28 : decode (cod 119) 28 = .ok (.aload_n 1, 1) := by rw [cc_119]; decide +kernel
theorem D119_29 : decode (cod 119) 29 = .ok (.getfield 266, 3) := by rw [cc_119]; decide +kernel
theorem D119_32 : decode (cod 119) 32 = .ok (.aaload, 1) := by rw [cc_119]; decide +kernel
theorem D119_33 : decode (cod 119) 33 = .ok (.getfield 98, 3) := by rw [cc_119]; decide +kernel
theorem D119_36 : decode (cod 119) 36 = .ok (.astore 4, 2) := by rw [cc_119]; decide +kernel
theorem D119_38 : decode (cod 119) 38 = .ok (.iconst 0, 1) := by rw [cc_119]; decide +kernel
theorem D119_39 : decode (cod 119) 39 = .ok (.istore 5, 2) := by rw [cc_119]; decide +kernel
theorem D119_41 : decode (cod 119) 41 = .ok (.iload 5, 2) := by rw [cc_119]; decide +kernel
theorem D119_43 : decode (cod 119) 43 = .ok (.bipush 16, 2) := by rw [cc_119]; decide +kernel
theorem D119_45 : decode (cod 119) 45 = .ok (.if_icmp .ge 25, 3) := by rw [cc_119]; decide +kernel
theorem D119_48 : decode (cod 119) 48 = .ok (.aload_n 1, 1) := by rw [cc_119]; decide +kernel
theorem D119_49 : decode (cod 119) 49 = .ok (.getfield 169, 3) := by rw [cc_119]; decide +kernel
theorem D119_52 : decode (cod 119) 52 = .ok (.iload 5, 2) := by rw [cc_119]; decide +kernel
theorem D119_54 : decode (cod 119) 54 = .ok (.aload 4, 2) := by rw [cc_119]; decide +kernel
theorem D119_56 : decode (cod 119) 56 = .ok (.iload 5, 2) := by rw [cc_119]; decide +kernel
theorem D119_58 : decode (cod 119) 58 = .ok (.iaload, 1) := by rw [cc_119]; decide +kernel
theorem D119_59 : decode (cod 119) 59 = .ok (.iload_n 3, 1) := by rw [cc_119]; decide +kernel
theorem D119_60 : decode (cod 119) 60 = .ok (.invokestatic 450, 3) := by rw [cc_119]; decide +kernel
theorem D119_63 : decode (cod 119) 63 = .ok (.iastore, 1) := by rw [cc_119]; decide +kernel
theorem D119_64 : decode (cod 119) 64 = .ok (.iinc 5 1, 3) := by rw [cc_119]; decide +kernel
theorem D119_67 : decode (cod 119) 67 = .ok (.goto (-26), 3) := by rw [cc_119]; decide +kernel
theorem D119_70 : decode (cod 119) 70 = .ok (.return_, 1) := by rw [cc_119]; decide +kernel
theorem b119_0 {d : Nat} {i0 i1 i2 r2 : Nat} {I L : Nat → Nat → Nat → Int} {t : Nat → Nat} : Res d 119 0 [vr 11 i0, vr 3 i1, vr r2 i2, vx, vx, vx] [] (mk I L t) = Res d 119 9 [vr 11 i0, vr 3 i1, vr r2 i2, vx, vx, vx] [vi 16, vi 0, vr 29 i1, vi 0, vr r2 i2] (mk I L t) :=
  Eq.trans (e_aload_n D119_0 rfl rfl) <| Eq.trans (e_iconst (x := 0) D119_1 rfl rfl) <| Eq.trans (e_aload_n D119_2 rfl rfl) <| Eq.trans (e_getP (p := (29, i1)) D119_3 rfl o_119 f_11_447 (sh_3 _) (by decide) (pp_3_1 _ _)) <| Eq.trans (e_iconst (x := 0) D119_6 rfl rfl) <| e_bipush (x := 16) D119_7 rfl rfl -- stops at 9: arraycopy
/-! x_waitDays -/
theorem cc_120 : cod 120 = cX11_waitDays := rfl
theorem D120_0 : decode (cod 120) 0 = .ok (.iconst 0, 1) := by rw [cc_120]; decide +kernel
theorem D120_1 : decode (cod 120) 1 = .ok (.istore_n 3, 1) := by rw [cc_120]; decide +kernel
theorem D120_2 : decode (cod 120) 2 = .ok (.iload_n 3, 1) := by rw [cc_120]; decide +kernel
theorem D120_3 : decode (cod 120) 3 = .ok (.iload_n 2, 1) := by rw [cc_120]; decide +kernel
theorem D120_4 : decode (cod 120) 4 = .ok (.if_icmp .ge 33, 3) := by rw [cc_120]; decide +kernel
theorem D120_7 : decode (cod 120) 7 = .ok (.aload_n 1, 1) := by rw [cc_120]; decide +kernel
theorem D120_8 : decode (cod 120) 8 = .ok (.aload_n 1, 1) := by rw [cc_120]; decide +kernel
theorem D120_9 : decode (cod 120) 9 = .ok (.getfield 447, 3) := by rw [cc_120]; decide +kernel
theorem D120_12 : decode (cod 120) 12 = .ok (.aload_n 0, 1) := by rw [cc_120]; decide +kernel
theorem D120_13 : decode (cod 120) 13 = .ok (.aload_n 1, 1) := by rw [cc_120]; decide +kernel
theorem D120_14 : decode (cod 120) 14 = .ok (.iconst 2, 1) := by rw [cc_120]; decide +kernel
theorem D120_15 : decode (cod 120) 15 = .ok (.invokevirtual 272, 3) := by rw [cc_120]; decide +kernel
theorem D120_18 : decode (cod 120) 18 = .ok (.invokevirtual 276, 3) := by rw [cc_120]; decide +kernel
theorem D120_21 : decode (cod 120) 21 = .ok (.aload_n 1, 1) := by rw [cc_120]; decide +kernel
theorem D120_22 : decode (cod 120) 22 = .ok (.dup, 1) := by rw [cc_120]; decide +kernel
theorem D120_23 : decode (cod 120) 23 = .ok (.getfield 414, 3) := by rw [cc_120]; decide +kernel
theorem D120_26 : decode (cod 120) 26 = .ok (.iconst 1, 1) := by rw [cc_120]; decide +kernel
theorem D120_27 : decode (cod 120) 27 = .ok (.iadd, 1) := by rw [cc_120]; decide +kernel
theorem D120_28 : decode (cod 120) 28 = .ok (.putfield 414, 3) := by rw [cc_120]; decide +kernel
theorem D120_31 : decode (cod 120) 31 = .ok (.iinc 3 1, 3) := by rw [cc_120]; decide +kernel
theorem D120_34 : decode (cod 120) 34 = .ok (.goto (-32), 3) := by rw [cc_120]; decide +kernel
theorem D120_37 : decode (cod 120) 37 = .ok (.return_, 1) := by rw [cc_120]; decide +kernel
theorem b120_0 {d : Nat} {i0 i1 : Nat} {x2 : Int} {I L : Nat → Nat → Nat → Int} {t : Nat → Nat} : Res d 120 0 [vr 11 i0, vr 3 i1, vi x2, vx] [] (mk I L t) = Res d 120 2 [vr 11 i0, vr 3 i1, vi x2, vi 0] [] (mk I L t) :=
  Eq.trans (e_iconst (x := 0) D120_0 rfl rfl) <| e_istore_n (ls1 := [vr 11 i0, vr 3 i1, vi x2, vi 0]) D120_1 rfl (show 3 < 4 by decide) rfl
theorem b120_2 {d : Nat} {i0 i1 : Nat} {x2 x3 : Int} {I L : Nat → Nat → Nat → Int} {t : Nat → Nat} : Res d 120 2 [vr 11 i0, vr 3 i1, vi x2, vi x3] [] (mk I L t) = if x2 ≤ x3 then Res d 120 37 [vr 11 i0, vr 3 i1, vi x2, vi x3] [] (mk I L t) else Res d 120 7 [vr 11 i0, vr 3 i1, vi x2, vi x3] [] (mk I L t) :=
  Eq.trans (e_iload_n D120_2 rfl rfl) <| Eq.trans (e_iload_n D120_3 rfl rfl) <| e_icge D120_4 rfl rfl
theorem b120_7 {d : Nat} {i0 i1 : Nat} {x2 x3 : Int} {I L : Nat → Nat → Nat → Int} {t : Nat → Nat} : Res (d + 1) 120 7 [vr 11 i0, vr 3 i1, vi x2, vi x3] [] (mk I L t) = (Cal d 114 [vr 11 i0, vr 3 i1, vi 2] (mk I L t)).bind fun v => Res (d + 1) 120 18 [vr 11 i0, vr 3 i1, vi x2, vi x3] (psh 114 v.1 [vr 29 i1, vr 3 i1]) v.2 :=
  Eq.trans (e_aload_n D120_7 rfl rfl) <| Eq.trans (e_aload_n D120_8 rfl rfl) <| Eq.trans (e_getP (p := (29, i1)) D120_9 rfl o_120 f_11_447 (sh_3 _) (by decide) (pp_3_1 _ _)) <| Eq.trans (e_aload_n D120_12 rfl rfl) <| Eq.trans (e_aload_n D120_13 rfl rfl) <| Eq.trans (e_iconst (x := 2) D120_14 rfl rfl) <| e_callV D120_15 rfl o_120 m_11_272 (by decide) rfl rfl
theorem b120_18 {d : Nat} {i0 i1 is1 is0 : Nat} {x2 x3 xs2 : Int} {I L : Nat → Nat → Nat → Int} {t : Nat → Nat} : Res (d + 1) 120 18 [vr 11 i0, vr 3 i1, vi x2, vi x3] [vi xs2, vr 29 is1, vr 3 is0] (mk I L t) = (Cal d 23 [vr 3 is0, vr 29 is1, vi xs2] (mk I L t)).bind fun v => Res (d + 1) 120 21 [vr 11 i0, vr 3 i1, vi x2, vi x3] (psh 23 v.1 []) v.2 :=
  e_callV D120_18 rfl o_120 m_11_276 (by decide) rfl rfl
theorem b120_21 {d : Nat} {i0 i1 : Nat} {x2 x3 : Int} {I L : Nat → Nat → Nat → Int} {t : Nat → Nat} : Res d 120 21 [vr 11 i0, vr 3 i1, vi x2, vi x3] [] (mk I L t) = Res d 120 2 [vr 11 i0, vr 3 i1, vi x2, vi (w32 (x3 + 1))] [] (mk (up3 I 3 i1 10 (w32 ((I 3 i1 10) + 1))) L t) :=
  Eq.trans (e_aload_n D120_21 rfl rfl) <| Eq.trans (e_dup D120_22 rfl) <| Eq.trans (e_getI D120_23 rfl o_120 f_11_414 (sh_3 _) (by decide)) <| Eq.trans (e_iconst (x := 1) D120_26 rfl rfl) <| Eq.trans (e_iadd D120_27 rfl) <| Eq.trans (e_putI D120_28 rfl o_120 f_11_414 (sh_3 _) rfl (by decide) (Or.inl (by decide))) <| Eq.trans (e_iinc (ls1 := [vr 11 i0, vr 3 i1, vi x2, vi (w32 (x3 + 1))]) D120_31 rfl rfl rfl) <| e_goto (q1 := 2) D120_34 rfl
theorem b120_37 {d : Nat} {i0 i1 : Nat} {x2 x3 : Int} {I L : Nat → Nat → Nat → Int} {t : Nat → Nat} : Res d 120 37 [vr 11 i0, vr 3 i1, vi x2, vi x3] [] (mk I L t) = some (vx, (mk I L t)) :=
  e_vret D120_37 rfl
/-! x_pullByShowing -/
theorem cc_121 : cod 121 = cX11_pullByShowing := rfl
theorem D121_0 : decode (cod 121) 0 = .ok (.aload_n 0, 1) := by rw [cc_121]; decide +kernel
theorem D121_1 : decode (cod 121) 1 = .ok (.aload_n 1, 1) := by rw [cc_121]; decide +kernel
theorem D121_2 : decode (cod 121) 2 = .ok (.iconst 3, 1) := by rw [cc_121]; decide +kernel
theorem D121_3 : decode (cod 121) 3 = .ok (.invokevirtual 272, 3) := by rw [cc_121]; decide +kernel
theorem D121_6 : decode (cod 121) 6 = .ok (.istore_n 3, 1) := by rw [cc_121]; decide +kernel
theorem D121_7 : decode (cod 121) 7 = .ok (.iconst 0, 1) := by rw [cc_121]; decide +kernel
theorem D121_8 : decode (cod 121) 8 = .ok (.istore 4, 2) := by rw [cc_121]; decide +kernel
theorem D121_10 : decode (cod 121) 10 = .ok (.iload 4, 2) := by rw [cc_121]; decide +kernel
theorem D121_12 : decode (cod 121) 12 = .ok (.bipush 9, 2) := by rw [cc_121]; decide +kernel
theorem D121_14 : decode (cod 121) 14 = .ok (.if_icmp .ge 43, 3) := by rw [cc_121]; decide +kernel
theorem D121_17 : decode (cod 121) 17 = .ok (.aload_n 2, 1) := by rw [cc_121]; decide +kernel
theorem D121_18 : decode (cod 121) 18 = .ok (.getfield 206, 3) := by rw [cc_121]; decide +kernel
theorem D121_21 : decode (cod 121) 21 = .ok (.iload 4, 2) := by rw [cc_121]; decide +kernel
theorem D121_23 : decode (cod 121) 23 = .ok (.invokevirtual 247, 3) := by rw [cc_121]; decide +kernel
theorem D121_26 : decode (cod 121) 26 = .ok (.istore 5, 2) := by rw [cc_121]; decide +kernel
theorem D121_28 : decode (cod 121) 28 = .ok (.iload 5, 2) := by rw [cc_121]; decide +kernel
theorem D121_30 : decode (cod 121) 30 = .ok (.iconst (-1), 1) := by rw [cc_121]; decide +kernel
theorem D121_31 : decode (cod 121) 31 = .ok (.if_icmp .eq 20, 3) := by rw [cc_121]; decide +kernel
theorem D121_34 : decode (cod 121) 34 = .ok (.aload_n 1, 1) := by rw [cc_121]; decide +kernel
theorem D121_35 : decode (cod 121) 35 = .ok (.aload_n 0, 1) := by rw [cc_121]; decide +kernel
theorem D121_36 : decode (cod 121) 36 = .ok (.getfield 11, 3) := by rw [cc_121]; decide +kernel
theorem D121_39 : decode (cod 121) 39 = .ok (.iload 5, 2) := by rw [cc_121]; decide +kernel
theorem D121_41 : decode (cod 121) 41 = .ok (.aaload, 1) := by rw [cc_121]; decide +kernel
theorem D121_42 : decode (cod 121) 42 = .ok (.getfield 98, 3) := by rw [cc_121]; decide +kernel
theorem D121_45 : decode (cod 121) 45 = .ok (.iload_n 3, 1) := by rw [cc_121]; decide +kernel
theorem D121_46 : decode (cod 121) 46 = .ok (.iconst 2, 1) := by rw [cc_121]; decide +kernel
theorem D121_47 : decode (cod 121) 47 = .ok (.idiv, 1) := by rw [cc_121]; decide +kernel
theorem D121_48 : decode (cod 121) 48 = .ok (.invokevirtual 276, 3) := by rw [cc_121]; decide +kernel
theorem D121_51 : decode (cod 121) 51 = .ok (.iinc 4 1, 3) := by rw [cc_121]; decide +kernel
theorem D121_54 : decode (cod 121) 54 = .ok (.goto (-44), 3) := by rw [cc_121]; decide +kernel
theorem D121_57 : decode (cod 121) 57 = .ok (.aload_n 2, 1) := by rw [cc_121]; decide +kernel
theorem D121_58 : decode (cod 121) 58 = .ok (.getfield 206, 3) := by rw [cc_121]; decide +kernel
theorem D121_61 : decode (cod 121) 61 = .ok (.aload_n 2, 1) := by rw [cc_121]; decide +kernel
theorem D121_62 : decode (cod 121) 62 = .ok (.getfield 220, 3) := by rw [cc_121]; decide +kernel
theorem D121_65 : decode (cod 121) 65 = .ok (.invokevirtual 247, 3) := by rw [cc_121]; decide +kernel
theorem D121_68 : decode (cod 121) 68 = .ok (.istore 4, 2) := by rw [cc_121]; decide +kernel
theorem D121_70 : decode (cod 121) 70 = .ok (.iload 4, 2) := by rw [cc_121]; decide +kernel
theorem D121_72 : decode (cod 121) 72 = .ok (.iconst (-1), 1) := by rw [cc_121]; decide +kernel
theorem D121_73 : decode (cod 121) 73 = .ok (.if_icmp .eq 18, 3) := by rw [cc_121]; decide +kernel
theorem D121_76 : decode (cod 121) 76 = .ok (.aload_n 1, 1) := by rw [cc_121]; decide +kernel
theorem D121_77 : decode (cod 121) 77 = .ok (.aload_n 0, 1) := by rw [cc_121]; decide +kernel
theorem D121_78 : decode (cod 121) 78 = .ok (.getfield 11, 3) := by rw [cc_121]; decide +kernel
theorem D121_81 : decode (cod 121) 81 = .ok (.iload 4, 2) := by rw [cc_121]; decide +kernel
theorem D121_83 : decode (cod 121) 83 = .ok (.aaload, 1) := by rw [cc_121]; decide +kernel
theorem D121_84 : decode (cod 121) 84 = .ok (.getfield 98, 3) := by rw [cc_121]; decide +kernel
theorem D121_87 : decode (cod 121) 87 = .ok (.iload_n 3, 1) := by rw [cc_121]; decide +kernel
theorem D121_88 : decode (cod 121) 88 = .ok (.invokevirtual 276, 3) := by rw [cc_121]; decide +kernel
theorem D121_91 : decode (cod 121) 91 = .ok (.return_, 1) := by rw [cc_121]; decide +kernel
theorem b121_0 {d : Nat} {i0 i1 i2 : Nat} {I L : Nat → Nat → Nat → Int} {t : Nat → Nat} : Res (d + 1) 121 0 [vr 11 i0, vr 3 i1, vr 6 i2, vx, vx, vx] [] (mk I L t) = (Cal d 114 [vr 11 i0, vr 3 i1, vi 3] (mk I L t)).bind fun v => Res (d + 1) 121 6 [vr 11 i0, vr 3 i1, vr 6 i2, vx, vx, vx] (psh 114 v.1 []) v.2 :=
  Eq.trans (e_aload_n D121_0 rfl rfl) <| Eq.trans (e_aload_n D121_1 rfl rfl) <| Eq.trans (e_iconst (x := 3) D121_2 rfl rfl) <| e_callV D121_3 rfl o_121 m_11_272 (by decide) rfl rfl
theorem b121_6 {d : Nat} {i0 i1 i2 : Nat} {xs0 : Int} {I L : Nat → Nat → Nat → Int} {t : Nat → Nat} : Res d 121 6 [vr 11 i0, vr 3 i1, vr 6 i2, vx, vx, vx] [vi xs0] (mk I L t) = Res d 121 10 [vr 11 i0, vr 3 i1, vr 6 i2, vi xs0, vi 0, vx] [] (mk I L t) :=
  Eq.trans (e_istore_n (ls1 := [vr 11 i0, vr 3 i1, vr 6 i2, vi xs0, vx, vx]) D121_6 rfl (show 3 < 6 by decide) rfl) <| Eq.trans (e_iconst (x := 0) D121_7 rfl rfl) <| e_istore (ls1 := [vr 11 i0, vr 3 i1, vr 6 i2, vi xs0, vi 0, vx]) D121_8 rfl (show 4 < 6 by decide) rfl
theorem b121_10 {d : Nat} {i0 i1 i2 : Nat} {x3 x4 : Int} {u5 : MV} {I L : Nat → Nat → Nat → Int} {t : Nat → Nat} : Res d 121 10 [vr 11 i0, vr 3 i1, vr 6 i2, vi x3, vi x4, u5] [] (mk I L t) = if 9 ≤ x4 then Res d 121 57 [vr 11 i0, vr 3 i1, vr 6 i2, vi x3, vi x4, u5] [] (mk I L t) else Res d 121 17 [vr 11 i0, vr 3 i1, vr 6 i2, vi x3, vi x4, u5] [] (mk I L t) :=
  Eq.trans (e_iload D121_10 rfl rfl) <| Eq.trans (e_bipush (x := 9) D121_12 rfl rfl) <| e_icge D121_14 rfl rfl
theorem b121_17 {d : Nat} {i0 i1 i2 : Nat} {x3 x4 : Int} {u5 : MV} {I L : Nat → Nat → Nat → Int} {t : Nat → Nat} : Res (d + 1) 121 17 [vr 11 i0, vr 3 i1, vr 6 i2, vi x3, vi x4, u5] [] (mk I L t) = (Cal d 26 [vr 4 (6 + i2), vi x4] (mk I L t)).bind fun v => Res (d + 1) 121 26 [vr 11 i0, vr 3 i1, vr 6 i2, vi x3, vi x4, u5] (psh 26 v.1 []) v.2 :=
  Eq.trans (e_aload_n D121_17 rfl rfl) <| Eq.trans (e_getP (p := (4, 6 + i2)) D121_18 rfl o_121 f_11_206 (sh_6 _) (by decide) (pp_6_0 _ _)) <| Eq.trans (e_iload D121_21 rfl rfl) <| e_callV D121_23 rfl o_121 m_11_247 (by decide) rfl rfl
theorem b121_26 {d : Nat} {i0 i1 i2 : Nat} {x3 x4 xs0 : Int} {u5 : MV} {I L : Nat → Nat → Nat → Int} {t : Nat → Nat} : Res d 121 26 [vr 11 i0, vr 3 i1, vr 6 i2, vi x3, vi x4, u5] [vi xs0] (mk I L t) = if xs0 = -1 then Res d 121 51 [vr 11 i0, vr 3 i1, vr 6 i2, vi x3, vi x4, vi xs0] [] (mk I L t) else Res d 121 34 [vr 11 i0, vr 3 i1, vr 6 i2, vi x3, vi x4, vi xs0] [] (mk I L t) :=
  Eq.trans (e_istore (ls1 := [vr 11 i0, vr 3 i1, vr 6 i2, vi x3, vi x4, vi xs0]) D121_26 rfl (show 5 < 6 by decide) rfl) <| Eq.trans (e_iload D121_28 rfl rfl) <| Eq.trans (e_iconst (x := -1) D121_30 rfl rfl) <| e_iceq D121_31 rfl rfl
theorem b121_34 {d : Nat} {i0 i1 i2 : Nat} {x3 x4 x5 : Int} {I L : Nat → Nat → Nat → Int} {t : Nat → Nat} (g1 : 0 ≤ x5 ∧ x5 < 120) : Res (d + 1) 121 34 [vr 11 i0, vr 3 i1, vr 6 i2, vi x3, vi x4, vi x5] [] (mk I L t) = (Cal d 23 [vr 3 i1, vr 22 x5.toNat, vi (vIdiv x3 2)] (mk I L t)).bind fun v => Res (d + 1) 121 51 [vr 11 i0, vr 3 i1, vr 6 i2, vi x3, vi x4, vi x5] (psh 23 v.1 []) v.2 :=
  Eq.trans (e_aload_n D121_34 rfl rfl) <| Eq.trans (e_aload_n D121_35 rfl rfl) <| Eq.trans (e_getP (p := (40, i0)) D121_36 rfl o_121 f_11_11 (sh_11 _) (by decide) (pp_11_0 _ _)) <| Eq.trans (e_iload D121_39 rfl rfl) <| Eq.trans (e_aald (p := (1, x5.toNat)) D121_41 rfl (ae_40 _) (aq_40 _) (pa_40 _ _ _) g1) <| Eq.trans (e_getP (p := (22, x5.toNat)) D121_42 rfl o_121 f_11_98 (sh_1 _) (by decide) (pp_1_0 _ _)) <| Eq.trans (e_iload_n D121_45 rfl rfl) <| Eq.trans (e_iconst (x := 2) D121_46 rfl rfl) <| Eq.trans (e_idiv D121_47 rfl (by decide)) <| e_callV D121_48 rfl o_121 m_11_276 (by decide) rfl rfl
theorem b121_51 {d : Nat} {i0 i1 i2 : Nat} {x3 x4 x5 : Int} {I L : Nat → Nat → Nat → Int} {t : Nat → Nat} : Res d 121 51 [vr 11 i0, vr 3 i1, vr 6 i2, vi x3, vi x4, vi x5] [] (mk I L t) = Res d 121 10 [vr 11 i0, vr 3 i1, vr 6 i2, vi x3, vi (w32 (x4 + 1)), vi x5] [] (mk I L t) :=
  Eq.trans (e_iinc (ls1 := [vr 11 i0, vr 3 i1, vr 6 i2, vi x3, vi (w32 (x4 + 1)), vi x5]) D121_51 rfl rfl rfl) <| e_goto (q1 := 10) D121_54 rfl
theorem b121_57 {d : Nat} {i0 i1 i2 : Nat} {x3 x4 : Int} {u5 : MV} {I L : Nat → Nat → Nat → Int} {t : Nat → Nat} : Res (d + 1) 121 57 [vr 11 i0, vr 3 i1, vr 6 i2, vi x3, vi x4, u5] [] (mk I L t) = (Cal d 26 [vr 4 (6 + i2), vi (I 6 i2 6)] (mk I L t)).bind fun v => Res (d + 1) 121 68 [vr 11 i0, vr 3 i1, vr 6 i2, vi x3, vi x4, u5] (psh 26 v.1 []) v.2 :=
  Eq.trans (e_aload_n D121_57 rfl rfl) <| Eq.trans (e_getP (p := (4, 6 + i2)) D121_58 rfl o_121 f_11_206 (sh_6 _) (by decide) (pp_6_0 _ _)) <| Eq.trans (e_aload_n D121_61 rfl rfl) <| Eq.trans (e_getI D121_62 rfl o_121 f_11_220 (sh_6 _) (by decide)) <| e_callV D121_65 rfl o_121 m_11_247 (by decide) rfl rfl
theorem b121_68 {d : Nat} {i0 i1 i2 : Nat} {x3 x4 xs0 : Int} {u5 : MV} {I L : Nat → Nat → Nat → Int} {t : Nat → Nat} : Res d 121 68 [vr 11 i0, vr 3 i1, vr 6 i2, vi x3, vi x4, u5] [vi xs0] (mk I L t) = if xs0 = -1 then Res d 121 91 [vr 11 i0, vr 3 i1, vr 6 i2, vi x3, vi xs0, u5] [] (mk I L t) else Res d 121 76 [vr 11 i0, vr 3 i1, vr 6 i2, vi x3, vi xs0, u5] [] (mk I L t) :=
  Eq.trans (e_istore (ls1 := [vr 11 i0, vr 3 i1, vr 6 i2, vi x3, vi xs0, u5]) D121_68 rfl (show 4 < 6 by decide) rfl) <| Eq.trans (e_iload D121_70 rfl rfl) <| Eq.trans (e_iconst (x := -1) D121_72 rfl rfl) <| e_iceq D121_73 rfl rfl
theorem b121_76 {d : Nat} {i0 i1 i2 : Nat} {x3 x4 : Int} {u5 : MV} {I L : Nat → Nat → Nat → Int} {t : Nat → Nat} (g1 : 0 ≤ x4 ∧ x4 < 120) : Res (d + 1) 121 76 [vr 11 i0, vr 3 i1, vr 6 i2, vi x3, vi x4, u5] [] (mk I L t) = (Cal d 23 [vr 3 i1, vr 22 x4.toNat, vi x3] (mk I L t)).bind fun v => Res (d + 1) 121 91 [vr 11 i0, vr 3 i1, vr 6 i2, vi x3, vi x4, u5] (psh 23 v.1 []) v.2 :=
  Eq.trans (e_aload_n D121_76 rfl rfl) <| Eq.trans (e_aload_n D121_77 rfl rfl) <| Eq.trans (e_getP (p := (40, i0)) D121_78 rfl o_121 f_11_11 (sh_11 _) (by decide) (pp_11_0 _ _)) <| Eq.trans (e_iload D121_81 rfl rfl) <| Eq.trans (e_aald (p := (1, x4.toNat)) D121_83 rfl (ae_40 _) (aq_40 _) (pa_40 _ _ _) g1) <| Eq.trans (e_getP (p := (22, x4.toNat)) D121_84 rfl o_121 f_11_98 (sh_1 _) (by decide) (pp_1_0 _ _)) <| Eq.trans (e_iload_n D121_87 rfl rfl) <| e_callV D121_88 rfl o_121 m_11_276 (by decide) rfl rfl
theorem b121_91 {d : Nat} {i0 i1 i2 : Nat} {x3 x4 : Int} {u5 : MV} {I L : Nat → Nat → Nat → Int} {t : Nat → Nat} : Res d 121 91 [vr 11 i0, vr 3 i1, vr 6 i2, vi x3, vi x4, u5] [] (mk I L t) = some (vx, (mk I L t)) :=
  e_vret D121_91 rfl
/-! x_compose -/
theorem cc_122 : cod 122 = cX11_compose := rfl
theorem D122_0 : decode (cod 122) 0 = .ok (.aload_n 0, 1) := by rw [cc_122]; decide +kernel
theorem D122_1 : decode (cod 122) 1 = .ok (.aload_n 1, 1) := by rw [cc_122]; decide +kernel
theorem D122_2 : decode (cod 122) 2 = .ok (.bipush 7, 2) := by rw [cc_122]; decide +kernel
theorem D122_4 : decode (cod 122) 4 = .ok (.invokevirtual 272, 3) := by rw [cc_122]; decide +kernel
theorem D122_7 : decode (cod 122) 7 = .ok (.istore_n 3, 1) := by rw [cc_122]; decide +kernel
theorem D122_8 : decode (cod 122) 8 = .ok (.aload_n 0, 1) := by rw [cc_122]; decide +kernel
theorem D122_9 : decode (cod 122) 9 = .ok (.getfield 61, 3) := by rw [cc_122]; decide +kernel
theorem D122_12 : decode (cod 122) 12 = .ok (.getfield 269, 3) := by rw [cc_122]; decide +kernel
theorem D122_15 : decode (cod 122) 15 = .ok (.astore 4, 2) := by rw [cc_122]; decide +kernel
theorem D122_17 : decode (cod 122) 17 = .ok (.aload 4, 2) := by rw [cc_122]; decide +kernel
theorem D122_19 : decode (cod 122) 19 = .ok (.iconst 0, 1) := by rw [cc_122]; decide +kernel
theorem D122_20 : decode (cod 122) 20 = .ok (.invokestatic 66, 3) := by rw [cc_122]; decide +kernel
theorem D122_23 : decode (cod 122) 23 = .ok (.iconst 0, 1) := by rw [cc_122]; decide +kernel
theorem D122_24 : decode (cod 122) 24 = .ok (.istore 5, 2) := by rw [cc_122]; decide +kernel
theorem D122_26 : decode (cod 122) 26 = .ok (.iload 5, 2) := by rw [cc_122]; decide +kernel
theorem D122_28 : decode (cod 122) 28 = .ok (.bipush 6, 2) := by rw [cc_122]; decide +kernel
theorem D122_30 : decode (cod 122) 30 = .ok (.if_icmp .ge 102, 3) := by rw [cc_122]; decide +kernel
theorem D122_33 : decode (cod 122) 33 = .ok (.aload_n 0, 1) := by rw [cc_122]; decide +kernel
theorem D122_34 : decode (cod 122) 34 = .ok (.aload_n 1, 1) := by rw [cc_122]; decide +kernel
theorem D122_35 : decode (cod 122) 35 = .ok (.aload_n 2, 1) := by rw [cc_122]; decide +kernel
theorem D122_36 : decode (cod 122) 36 = .ok (.iconst 2, 1) := by rw [cc_122]; decide +kernel
theorem D122_37 : decode (cod 122) 37 = .ok (.iload 5, 2) := by rw [cc_122]; decide +kernel
theorem D122_39 : decode (cod 122) 39 = .ok (.imul, 1) := by rw [cc_122]; decide +kernel
theorem D122_40 : decode (cod 122) 40 = .ok (.iload_n 3, 1) := by rw [cc_122]; decide +kernel
theorem D122_41 : decode (cod 122) 41 = .ok (.invokevirtual 453, 3) := by rw [cc_122]; decide +kernel
theorem D122_44 : decode (cod 122) 44 = .ok (.istore 6, 2) := by rw [cc_122]; decide +kernel
theorem D122_46 : decode (cod 122) 46 = .ok (.iload 6, 2) := by rw [cc_122]; decide +kernel
theorem D122_48 : decode (cod 122) 48 = .ok (.iconst (-1), 1) := by rw [cc_122]; decide +kernel
theorem D122_49 : decode (cod 122) 49 = .ok (.if_icmp .eq 77, 3) := by rw [cc_122]; decide +kernel
theorem D122_52 : decode (cod 122) 52 = .ok (.aload_n 0, 1) := by rw [cc_122]; decide +kernel
theorem D122_53 : decode (cod 122) 53 = .ok (.getfield 11, 3) := by rw [cc_122]; decide +kernel
theorem D122_56 : decode (cod 122) 56 = .ok (.iload 6, 2) := by rw [cc_122]; decide +kernel
theorem D122_58 : decode (cod 122) 58 = .ok (.aaload, 1) := by rw [cc_122]; decide +kernel
theorem D122_59 : decode (cod 122) 59 = .ok (.getfield 98, 3) := by rw [cc_122]; decide +kernel
theorem D122_62 : decode (cod 122) 62 = .ok (.astore 7, 2) := by rw [cc_122]; decide +kernel
theorem D122_64 : decode (cod 122) 64 = .ok (.aload 4, 2) := by rw [cc_122]; decide +kernel
theorem D122_66 : decode (cod 122) 66 = .ok (.iconst 2, 1) := by rw [cc_122]; decide +kernel
theorem D122_67 : decode (cod 122) 67 = .ok (.iload 5, 2) := by rw [cc_122]; decide +kernel
theorem D122_69 : decode (cod 122) 69 = .ok (.imul, 1) := by rw [cc_122]; decide +kernel
theorem D122_70 : decode (cod 122) 70 = .ok (.aload 7, 2) := by rw [cc_122]; decide +kernel
theorem D122_72 : decode (cod 122) 72 = .ok (.iconst 2, 1) := by rw [cc_122]; decide +kernel
theorem D122_73 : decode (cod 122) 73 = .ok (.iload 5, 2) := by rw [cc_122]; decide +kernel
theorem D122_75 : decode (cod 122) 75 = .ok (.imul, 1) := by rw [cc_122]; decide +kernel
theorem D122_76 : decode (cod 122) 76 = .ok (.iaload, 1) := by rw [cc_122]; decide +kernel
theorem D122_77 : decode (cod 122) 77 = .ok (.iastore, 1) := by rw [cc_122]; decide +kernel
theorem D122_78 : decode (cod 122) 78 = .ok (.aload 4, 2) := by rw [cc_122]; decide +kernel
theorem D122_80 : decode (cod 122) 80 = .ok (.iconst 2, 1) := by rw [cc_122]; decide +kernel
theorem D122_81 : decode (cod 122) 81 = .ok (.iload 5, 2) := by rw [cc_122]; decide +kernel
theorem D122_83 : decode (cod 122) 83 = .ok (.imul, 1) := by rw [cc_122]; decide +kernel
theorem D122_84 : decode (cod 122) 84 = .ok (.iconst 1, 1) := by rw [cc_122]; decide +kernel
theorem D122_85 : decode (cod 122) 85 = .ok (.iadd, 1) := by rw [cc_122]; decide +kernel
theorem D122_86 : decode (cod 122) 86 = .ok (.aload 7, 2) := by rw [cc_122]; decide +kernel
theorem D122_88 : decode (cod 122) 88 = .ok (.iconst 2, 1) := by rw [cc_122]; decide +kernel
theorem D122_89 : decode (cod 122) 89 = .ok (.iload 5, 2) := by rw [cc_122]; decide +kernel
theorem D122_91 : decode (cod 122) 91 = .ok (.imul, 1) := by rw [cc_122]; decide +kernel
theorem D122_92 : decode (cod 122) 92 = .ok (.iconst 1, 1) := by rw [cc_122]; decide +kernel
theorem D122_93 : decode (cod 122) 93 = .ok (.iadd, 1) := by rw [cc_122]; decide +kernel
theorem D122_94 : decode (cod 122) 94 = .ok (.iaload, 1) := by rw [cc_122]; decide +kernel
theorem D122_95 : decode (cod 122) 95 = .ok (.iastore, 1) := by rw [cc_122]; decide +kernel
theorem D122_96 : decode (cod 122) 96 = .ok (.bipush 12, 2) := by rw [cc_122]; decide +kernel
theorem D122_98 : decode (cod 122) 98 = .ok (.istore 8, 2) := by rw [cc_122]; decide +kernel
theorem D122_100 : decode (cod 122) 100 = .ok (.iload 8, 2) := by rw [cc_122]; decide +kernel
theorem D122_102 : decode (cod 122) 102 = .ok (.bipush 16, 2) := by rw [cc_122]; decide +kernel
theorem D122_104 : decode (cod 122) 104 = .ok (.if_icmp .ge 22, 3) := by rw [cc_122]; decide +kernel
theorem D122_107 : decode (cod 122) 107 = .ok (.aload 4, 2) := by rw [cc_122]; decide +kernel
theorem D122_109 : decode (cod 122) 109 = .ok (.iload 8, 2) := by rw [cc_122]; decide +kernel
theorem D122_111 : decode (cod 122) 111 = .ok (.dup2, 1) := by rw [cc_122]; decide +kernel
theorem D122_112 : decode (cod 122) 112 = .ok (.iaload, 1) := by rw [cc_122]; decide +kernel
theorem D122_113 : decode (cod 122) 113 = .ok (.aload 7, 2) := by rw [cc_122]; decide +kernel
theorem D122_115 : decode (cod 122) 115 = .ok (.iload 8, 2) := by rw [cc_122]; decide +kernel
theorem D122_117 : decode (cod 122) 117 = .ok (.iaload, 1) := by rw [cc_122]; decide +kernel
theorem D122_118 : decode (cod 122) 118 = .ok (.iadd, 1) := by rw [cc_122]; decide +kernel
theorem D122_119 : decode (cod 122) 119 = .ok (.iastore, 1) := by rw [cc_122]; decide +kernel
theorem D122_120 : decode (cod 122) 120 = .ok (.iinc 8 1, 3) := by rw [cc_122]; decide +kernel
theorem D122_123 : decode (cod 122) 123 = .ok (.goto (-23), 3) := by rw [cc_122]; decide +kernel
theorem D122_126 : decode (cod 122) 126 = .ok (.iinc 5 1, 3) := by rw [cc_122]; decide +kernel
theorem D122_129 : decode (cod 122) 129 = .ok (.goto (-103), 3) := by rw [cc_122]; decide +kernel
theorem D122_132 : decode (cod 122) 132 = .ok (.bipush 12, 2) := by rw [cc_122]; decide +kernel
theorem D122_134 : decode (cod 122) 134 = .ok (.istore 5, 2) := by rw [cc_122]; decide +kernel
theorem D122_136 : decode (cod 122) 136 = .ok (.iload 5, 2) := by rw [cc_122]; decide +kernel
theorem D122_138 : decode (cod 122) 138 = .ok (.bipush 16, 2) := by rw [cc_122]; decide +kernel
theorem D122_140 : decode (cod 122) 140 = .ok (.if_icmp .ge 19, 3) := by rw [cc_122]; decide +kernel
theorem D122_143 : decode (cod 122) 143 = .ok (.aload 4, 2) := by rw [cc_122]; decide +kernel
theorem D122_145 : decode (cod 122) 145 = .ok (.iload 5, 2) := by rw [cc_122]; decide +kernel
theorem D122_147 : decode (cod 122) 147 = .ok (.dup2, 1) := by rw [cc_122]; decide +kernel
theorem D122_148 : decode (cod 122) 148 = .ok (.iaload, 1) := by rw [cc_122]; decide +kernel
theorem D122_149 : decode (cod 122) 149 = .ok (.bipush 6, 2) := by rw [cc_122]; decide +kernel
theorem D122_151 : decode (cod 122) 151 = .ok (.idiv, 1) := by rw [cc_122]; decide +kernel
theorem D122_152 : decode (cod 122) 152 = .ok (.iastore, 1) := by rw [cc_122]; decide +kernel
theorem D122_153 : decode (cod 122) 153 = .ok (.iinc 5 1, 3) := by rw [cc_122]; decide +kernel
theorem D122_156 : decode (cod 122) 156 = .ok (.goto (-20), 3) := by rw [cc_122]; decide +kernel
theorem D122_159 : decode (cod 122) 159 = .ok (.return_, 1) := by rw [cc_122]; decide +kernel
theorem b122_0 {d : Nat} {i0 i1 i2 : Nat} {I L : Nat → Nat → Nat → Int} {t : Nat → Nat} : Res (d + 1) 122 0 [vr 11 i0, vr 3 i1, vr 4 i2, vx, vx, vx, vx, vx, vx] [] (mk I L t) = (Cal d 114 [vr 11 i0, vr 3 i1, vi 7] (mk I L t)).bind fun v => Res (d + 1) 122 7 [vr 11 i0, vr 3 i1, vr 4 i2, vx, vx, vx, vx, vx, vx] (psh 114 v.1 []) v.2 :=
  Eq.trans (e_aload_n D122_0 rfl rfl) <| Eq.trans (e_aload_n D122_1 rfl rfl) <| Eq.trans (e_bipush (x := 7) D122_2 rfl rfl) <| e_callV D122_4 rfl o_122 m_11_272 (by decide) rfl rfl
theorem b122_7 {d : Nat} {i0 i1 i2 : Nat} {xs0 : Int} {I L : Nat → Nat → Nat → Int} {t : Nat → Nat} : Res (d + 1) 122 7 [vr 11 i0, vr 3 i1, vr 4 i2, vx, vx, vx, vx, vx, vx] [vi xs0] (mk I L t) = (Cal d 249 [vr 16 0, vi 0] (mk I L t)).bind fun v => Res (d + 1) 122 23 [vr 11 i0, vr 3 i1, vr 4 i2, vi xs0, vr 16 0, vx, vx, vx, vx] (psh 249 v.1 []) v.2 :=
  Eq.trans (e_istore_n (ls1 := [vr 11 i0, vr 3 i1, vr 4 i2, vi xs0, vx, vx, vx, vx, vx]) D122_7 rfl (show 3 < 9 by decide) rfl) <| Eq.trans (e_aload_n D122_8 rfl rfl) <| Eq.trans (e_getP (p := (0, 0)) D122_9 rfl o_122 f_11_61 (sh_11 _) (by decide) (pp_11_9 _ _)) <| Eq.trans (e_getP (p := (16, 0)) D122_12 rfl o_122 f_11_269 (sh_0 _) (by decide) (pp_0_3 _ _)) <| Eq.trans (e_astore (ls1 := [vr 11 i0, vr 3 i1, vr 4 i2, vi xs0, vr 16 0, vx, vx, vx, vx]) D122_15 rfl (show 4 < 9 by decide) rfl) <| Eq.trans (e_aload D122_17 rfl rfl) <| Eq.trans (e_iconst (x := 0) D122_19 rfl rfl) <| e_callS D122_20 rfl o_122 m_11_66 (by decide) rfl rfl
theorem b122_23 {d : Nat} {i0 i1 i2 i4 : Nat} {x3 : Int} {I L : Nat → Nat → Nat → Int} {t : Nat → Nat} : Res d 122 23 [vr 11 i0, vr 3 i1, vr 4 i2, vi x3, vr 16 i4, vx, vx, vx, vx] [] (mk I L t) = Res d 122 26 [vr 11 i0, vr 3 i1, vr 4 i2, vi x3, vr 16 i4, vi 0, vx, vx, vx] [] (mk I L t) :=
  Eq.trans (e_iconst (x := 0) D122_23 rfl rfl) <| e_istore (ls1 := [vr 11 i0, vr 3 i1, vr 4 i2, vi x3, vr 16 i4, vi 0, vx, vx, vx]) D122_24 rfl (show 5 < 9 by decide) rfl
theorem b122_26 {d : Nat} {i0 i1 i2 i4 : Nat} {x3 x5 : Int} {u6 u7 u8 : MV} {I L : Nat → Nat → Nat → Int} {t : Nat → Nat} : Res d 122 26 [vr 11 i0, vr 3 i1, vr 4 i2, vi x3, vr 16 i4, vi x5, u6, u7, u8] [] (mk I L t) = if 6 ≤ x5 then Res d 122 132 [vr 11 i0, vr 3 i1, vr 4 i2, vi x3, vr 16 i4, vi x5, u6, u7, u8] [] (mk I L t) else Res d 122 33 [vr 11 i0, vr 3 i1, vr 4 i2, vi x3, vr 16 i4, vi x5, u6, u7, u8] [] (mk I L t) :=
  Eq.trans (e_iload D122_26 rfl rfl) <| Eq.trans (e_bipush (x := 6) D122_28 rfl rfl) <| e_icge D122_30 rfl rfl
theorem b122_33 {d : Nat} {i0 i1 i2 i4 : Nat} {x3 x5 : Int} {u6 u7 u8 : MV} {I L : Nat → Nat → Nat → Int} {t : Nat → Nat} : Res (d + 1) 122 33 [vr 11 i0, vr 3 i1, vr 4 i2, vi x3, vr 16 i4, vi x5, u6, u7, u8] [] (mk I L t) = (Cal d 123 [vr 11 i0, vr 3 i1, vr 4 i2, vi (w32 (2 * x5)), vi x3] (mk I L t)).bind fun v => Res (d + 1) 122 44 [vr 11 i0, vr 3 i1, vr 4 i2, vi x3, vr 16 i4, vi x5, u6, u7, u8] (psh 123 v.1 []) v.2 :=
  Eq.trans (e_aload_n D122_33 rfl rfl) <| Eq.trans (e_aload_n D122_34 rfl rfl) <| Eq.trans (e_aload_n D122_35 rfl rfl) <| Eq.trans (e_iconst (x := 2) D122_36 rfl rfl) <| Eq.trans (e_iload D122_37 rfl rfl) <| Eq.trans (e_imul D122_39 rfl) <| Eq.trans (e_iload_n D122_40 rfl rfl) <| e_callV D122_41 rfl o_122 m_11_453 (by decide) rfl rfl
theorem b122_44 {d : Nat} {i0 i1 i2 i4 : Nat} {x3 x5 xs0 : Int} {u6 u7 u8 : MV} {I L : Nat → Nat → Nat → Int} {t : Nat → Nat} : Res d 122 44 [vr 11 i0, vr 3 i1, vr 4 i2, vi x3, vr 16 i4, vi x5, u6, u7, u8] [vi xs0] (mk I L t) = if xs0 = -1 then Res d 122 126 [vr 11 i0, vr 3 i1, vr 4 i2, vi x3, vr 16 i4, vi x5, vi xs0, u7, u8] [] (mk I L t) else Res d 122 52 [vr 11 i0, vr 3 i1, vr 4 i2, vi x3, vr 16 i4, vi x5, vi xs0, u7, u8] [] (mk I L t) :=
  Eq.trans (e_istore (ls1 := [vr 11 i0, vr 3 i1, vr 4 i2, vi x3, vr 16 i4, vi x5, vi xs0, u7, u8]) D122_44 rfl (show 6 < 9 by decide) rfl) <| Eq.trans (e_iload D122_46 rfl rfl) <| Eq.trans (e_iconst (x := -1) D122_48 rfl rfl) <| e_iceq D122_49 rfl rfl
theorem b122_52 {d : Nat} {i0 i1 i2 i4 : Nat} {x3 x5 x6 : Int} {u7 u8 : MV} {I L : Nat → Nat → Nat → Int} {t : Nat → Nat} (g1 : 0 ≤ x6 ∧ x6 < 120) (g2 : 0 ≤ w32 (2 * x5) ∧ w32 (2 * x5) < 16) (g3 : 0 ≤ w32 ((w32 (2 * x5)) + 1) ∧ w32 ((w32 (2 * x5)) + 1) < 16) : Res d 122 52 [vr 11 i0, vr 3 i1, vr 4 i2, vi x3, vr 16 i4, vi x5, vi x6, u7, u8] [] (mk I L t) = Res d 122 100 [vr 11 i0, vr 3 i1, vr 4 i2, vi x3, vr 16 i4, vi x5, vi x6, vr 22 x6.toNat, vi 12] [] (mk (up3 (up3 I 16 i4 (w32 (2 * x5)).toNat (I 22 x6.toNat (w32 (2 * x5)).toNat)) 16 i4 (w32 ((w32 (2 * x5)) + 1)).toNat ((up3 I 16 i4 (w32 (2 * x5)).toNat (I 22 x6.toNat (w32 (2 * x5)).toNat)) 22 x6.toNat (w32 ((w32 (2 * x5)) + 1)).toNat)) L t) :=
  Eq.trans (e_aload_n D122_52 rfl rfl) <| Eq.trans (e_getP (p := (40, i0)) D122_53 rfl o_122 f_11_11 (sh_11 _) (by decide) (pp_11_0 _ _)) <| Eq.trans (e_iload D122_56 rfl rfl) <| Eq.trans (e_aald (p := (1, x6.toNat)) D122_58 rfl (ae_40 _) (aq_40 _) (pa_40 _ _ _) g1) <| Eq.trans (e_getP (p := (22, x6.toNat)) D122_59 rfl o_122 f_11_98 (sh_1 _) (by decide) (pp_1_0 _ _)) <| Eq.trans (e_astore (ls1 := [vr 11 i0, vr 3 i1, vr 4 i2, vi x3, vr 16 i4, vi x5, vi x6, vr 22 x6.toNat, u8]) D122_62 rfl (show 7 < 9 by decide) rfl) <| Eq.trans (e_aload D122_64 rfl rfl) <| Eq.trans (e_iconst (x := 2) D122_66 rfl rfl) <| Eq.trans (e_iload D122_67 rfl rfl) <| Eq.trans (e_imul D122_69 rfl) <| Eq.trans (e_aload D122_70 rfl rfl) <| Eq.trans (e_iconst (x := 2) D122_72 rfl rfl) <| Eq.trans (e_iload D122_73 rfl rfl) <| Eq.trans (e_imul D122_75 rfl) <| Eq.trans (e_iald D122_76 rfl (al_22 _) g2) <| Eq.trans (e_iast D122_77 rfl (al_16 _) rfl g2) <| Eq.trans (e_aload D122_78 rfl rfl) <| Eq.trans (e_iconst (x := 2) D122_80 rfl rfl) <| Eq.trans (e_iload D122_81 rfl rfl) <| Eq.trans (e_imul D122_83 rfl) <| Eq.trans (e_iconst (x := 1) D122_84 rfl rfl) <| Eq.trans (e_iadd D122_85 rfl) <| Eq.trans (e_aload D122_86 rfl rfl) <| Eq.trans (e_iconst (x := 2) D122_88 rfl rfl) <| Eq.trans (e_iload D122_89 rfl rfl) <| Eq.trans (e_imul D122_91 rfl) <| Eq.trans (e_iconst (x := 1) D122_92 rfl rfl) <| Eq.trans (e_iadd D122_93 rfl) <| Eq.trans (e_iald D122_94 rfl (al_22 _) g3) <| Eq.trans (e_iast D122_95 rfl (al_16 _) rfl g3) <| Eq.trans (e_bipush (x := 12) D122_96 rfl rfl) <| e_istore (ls1 := [vr 11 i0, vr 3 i1, vr 4 i2, vi x3, vr 16 i4, vi x5, vi x6, vr 22 x6.toNat, vi 12]) D122_98 rfl (show 8 < 9 by decide) rfl
theorem b122_100 {d : Nat} {i0 i1 i2 i4 i7 : Nat} {x3 x5 x6 x8 : Int} {I L : Nat → Nat → Nat → Int} {t : Nat → Nat} : Res d 122 100 [vr 11 i0, vr 3 i1, vr 4 i2, vi x3, vr 16 i4, vi x5, vi x6, vr 22 i7, vi x8] [] (mk I L t) = if 16 ≤ x8 then Res d 122 126 [vr 11 i0, vr 3 i1, vr 4 i2, vi x3, vr 16 i4, vi x5, vi x6, vr 22 i7, vi x8] [] (mk I L t) else Res d 122 107 [vr 11 i0, vr 3 i1, vr 4 i2, vi x3, vr 16 i4, vi x5, vi x6, vr 22 i7, vi x8] [] (mk I L t) :=
  Eq.trans (e_iload D122_100 rfl rfl) <| Eq.trans (e_bipush (x := 16) D122_102 rfl rfl) <| e_icge D122_104 rfl rfl
theorem b122_107 {d : Nat} {i0 i1 i2 i4 i7 : Nat} {x3 x5 x6 x8 : Int} {I L : Nat → Nat → Nat → Int} {t : Nat → Nat} (g1 : 0 ≤ x8 ∧ x8 < 16) : Res d 122 107 [vr 11 i0, vr 3 i1, vr 4 i2, vi x3, vr 16 i4, vi x5, vi x6, vr 22 i7, vi x8] [] (mk I L t) = Res d 122 100 [vr 11 i0, vr 3 i1, vr 4 i2, vi x3, vr 16 i4, vi x5, vi x6, vr 22 i7, vi (w32 (x8 + 1))] [] (mk (up3 I 16 i4 x8.toNat (w32 ((I 16 i4 x8.toNat) + (I 22 i7 x8.toNat)))) L t) :=
  Eq.trans (e_aload D122_107 rfl rfl) <| Eq.trans (e_iload D122_109 rfl rfl) <| Eq.trans (e_dup2 D122_111 rfl) <| Eq.trans (e_iald D122_112 rfl (al_16 _) g1) <| Eq.trans (e_aload D122_113 rfl rfl) <| Eq.trans (e_iload D122_115 rfl rfl) <| Eq.trans (e_iald D122_117 rfl (al_22 _) g1) <| Eq.trans (e_iadd D122_118 rfl) <| Eq.trans (e_iast D122_119 rfl (al_16 _) rfl g1) <| Eq.trans (e_iinc (ls1 := [vr 11 i0, vr 3 i1, vr 4 i2, vi x3, vr 16 i4, vi x5, vi x6, vr 22 i7, vi (w32 (x8 + 1))]) D122_120 rfl rfl rfl) <| e_goto (q1 := 100) D122_123 rfl
theorem b122_126 {d : Nat} {i0 i1 i2 i4 : Nat} {x3 x5 x6 : Int} {u7 u8 : MV} {I L : Nat → Nat → Nat → Int} {t : Nat → Nat} : Res d 122 126 [vr 11 i0, vr 3 i1, vr 4 i2, vi x3, vr 16 i4, vi x5, vi x6, u7, u8] [] (mk I L t) = Res d 122 26 [vr 11 i0, vr 3 i1, vr 4 i2, vi x3, vr 16 i4, vi (w32 (x5 + 1)), vi x6, u7, u8] [] (mk I L t) :=
  Eq.trans (e_iinc (ls1 := [vr 11 i0, vr 3 i1, vr 4 i2, vi x3, vr 16 i4, vi (w32 (x5 + 1)), vi x6, u7, u8]) D122_126 rfl rfl rfl) <| e_goto (q1 := 26) D122_129 rfl
theorem b122_132 {d : Nat} {i0 i1 i2 i4 : Nat} {x3 x5 : Int} {u6 u7 u8 : MV} {I L : Nat → Nat → Nat → Int} {t : Nat → Nat} : Res d 122 132 [vr 11 i0, vr 3 i1, vr 4 i2, vi x3, vr 16 i4, vi x5, u6, u7, u8] [] (mk I L t) = Res d 122 136 [vr 11 i0, vr 3 i1, vr 4 i2, vi x3, vr 16 i4, vi 12, u6, u7, u8] [] (mk I L t) :=
  Eq.trans (e_bipush (x := 12) D122_132 rfl rfl) <| e_istore (ls1 := [vr 11 i0, vr 3 i1, vr 4 i2, vi x3, vr 16 i4, vi 12, u6, u7, u8]) D122_134 rfl (show 5 < 9 by decide) rfl
theorem b122_136 {d : Nat} {i0 i1 i2 i4 : Nat} {x3 x5 : Int} {u6 u7 u8 : MV} {I L : Nat → Nat → Nat → Int} {t : Nat → Nat} : Res d 122 136 [vr 11 i0, vr 3 i1, vr 4 i2, vi x3, vr 16 i4, vi x5, u6, u7, u8] [] (mk I L t) = if 16 ≤ x5 then Res d 122 159 [vr 11 i0, vr 3 i1, vr 4 i2, vi x3, vr 16 i4, vi x5, u6, u7, u8] [] (mk I L t) else Res d 122 143 [vr 11 i0, vr 3 i1, vr 4 i2, vi x3, vr 16 i4, vi x5, u6, u7, u8] [] (mk I L t) :=
  Eq.trans (e_iload D122_136 rfl rfl) <| Eq.trans (e_bipush (x := 16) D122_138 rfl rfl) <| e_icge D122_140 rfl rfl
theorem b122_143 {d : Nat} {i0 i1 i2 i4 : Nat} {x3 x5 : Int} {u6 u7 u8 : MV} {I L : Nat → Nat → Nat → Int} {t : Nat → Nat} (g1 : 0 ≤ x5 ∧ x5 < 16) : Res d 122 143 [vr 11 i0, vr 3 i1, vr 4 i2, vi x3, vr 16 i4, vi x5, u6, u7, u8] [] (mk I L t) = Res d 122 136 [vr 11 i0, vr 3 i1, vr 4 i2, vi x3, vr 16 i4, vi (w32 (x5 + 1)), u6, u7, u8] [] (mk (up3 I 16 i4 x5.toNat (vIdiv (I 16 i4 x5.toNat) 6)) L t) :=
  Eq.trans (e_aload D122_143 rfl rfl) <| Eq.trans (e_iload D122_145 rfl rfl) <| Eq.trans (e_dup2 D122_147 rfl) <| Eq.trans (e_iald D122_148 rfl (al_16 _) g1) <| Eq.trans (e_bipush (x := 6) D122_149 rfl rfl) <| Eq.trans (e_idiv D122_151 rfl (by decide)) <| Eq.trans (e_iast D122_152 rfl (al_16 _) rfl g1) <| Eq.trans (e_iinc (ls1 := [vr 11 i0, vr 3 i1, vr 4 i2, vi x3, vr 16 i4, vi (w32 (x5 + 1)), u6, u7, u8]) D122_153 rfl rfl rfl) <| e_goto (q1 := 136) D122_156 rfl
theorem b122_159 {d : Nat} {i0 i1 i2 i4 : Nat} {x3 x5 : Int} {u6 u7 u8 : MV} {I L : Nat → Nat → Nat → Int} {t : Nat → Nat} : Res d 122 159 [vr 11 i0, vr 3 i1, vr 4 i2, vi x3, vr 16 i4, vi x5, u6, u7, u8] [] (mk I L t) = some (vx, (mk I L t)) :=
  e_vret D122_159 rfl
/-! x_nearestByPart -/
theorem cc_123 : cod 123 = cX11_nearestByPart := rfl
theorem D123_0 : decode (cod 123) 0 = .ok (.aload_n 1, 1) := by rw [cc_123]; decide +kernel
theorem D123_1 : decode (cod 123) 1 = .ok (.getfield 169, 3) := by rw [cc_123]; decide +kernel
theorem D123_4 : decode (cod 123) 4 = .ok (.iload_n 3, 1) := by rw [cc_123]; decide +kernel
theorem D123_5 : decode (cod 123) 5 = .ok (.iaload, 1) := by rw [cc_123]; decide +kernel
theorem D123_6 : decode (cod 123) 6 = .ok (.iload 4, 2) := by rw [cc_123]; decide +kernel
theorem D123_8 : decode (cod 123) 8 = .ok (.invokestatic 450, 3) := by rw [cc_123]; decide +kernel
theorem D123_11 : decode (cod 123) 11 = .ok (.istore 5, 2) := by rw [cc_123]; decide +kernel
theorem D123_13 : decode (cod 123) 13 = .ok (.aload_n 1, 1) := by rw [cc_123]; decide +kernel
theorem D123_14 : decode (cod 123) 14 = .ok (.getfield 169, 3) := by rw [cc_123]; decide +kernel
theorem D123_17 : decode (cod 123) 17 = .ok (.iload_n 3, 1) := by rw [cc_123]; decide +kernel
theorem D123_18 : decode (cod 123) 18 = .ok (.iconst 1, 1) := by rw [cc_123]; decide +kernel
theorem D123_19 : decode (cod 123) 19 = .ok (.iadd, 1) := by rw [cc_123]; decide +kernel
theorem D123_20 : decode (cod 123) 20 = .ok (.iaload, 1) := by rw [cc_123]; decide +kernel
theorem D123_21 : decode (cod 123) 21 = .ok (.iload 4, 2) := by rw [cc_123]; decide +kernel
theorem D123_23 : decode (cod 123) 23 = .ok (.invokestatic 450, 3) := by rw [cc_123]; decide +kernel
theorem D123_26 : decode (cod 123) 26 = .ok (.istore 6, 2) := by rw [cc_123]; decide +kernel
theorem D123_28 : decode (cod 123) 28 = .ok (.iconst (-1), 1) := by rw [cc_123]; decide +kernel
theorem D123_29 : decode (cod 123) 29 = .ok (.istore 7, 2) := by rw [cc_123]; decide +kernel
theorem D123_31 : decode (cod 123) 31 = .ok (.iconst 0, 1) := by rw [cc_123]; decide +kernel
theorem D123_32 : decode (cod 123) 32 = .ok (.istore 8, 2) := by rw [cc_123]; decide +kernel
theorem D123_34 : decode (cod 123) 34 = .ok (.iconst 0, 1) := by rw [cc_123]; decide +kernel
theorem D123_35 : decode (cod 123) 35 = .ok (.istore 9, 2) := by rw [cc_123]; decide +kernel
theorem D123_37 : decode (cod 123) 37 = .ok (.iload 9, 2) := by rw [cc_123]; decide +kernel
theorem D123_39 : decode (cod 123) 39 = .ok (.bipush 9, 2) := by rw [cc_123]; decide +kernel
theorem D123_41 : decode (cod 123) 41 = .ok (.if_icmp .ge 81, 3) := by rw [cc_123]; decide +kernel
theorem D123_44 : decode (cod 123) 44 = .ok (.aload_n 2, 1) := by rw [cc_123]; decide +kernel
theorem D123_45 : decode (cod 123) 45 = .ok (.iload 9, 2) := by rw [cc_123]; decide +kernel
theorem D123_47 : decode (cod 123) 47 = .ok (.invokevirtual 247, 3) := by rw [cc_123]; decide +kernel
theorem D123_50 : decode (cod 123) 50 = .ok (.istore 10, 2) := by rw [cc_123]; decide +kernel
theorem D123_52 : decode (cod 123) 52 = .ok (.iload 10, 2) := by rw [cc_123]; decide +kernel
theorem D123_54 : decode (cod 123) 54 = .ok (.iconst (-1), 1) := by rw [cc_123]; decide +kernel
theorem D123_55 : decode (cod 123) 55 = .ok (.if_icmp .eq 61, 3) := by rw [cc_123]; decide +kernel
theorem D123_58 : decode (cod 123) 58 = .ok (.aload_n 0, 1) := by rw [cc_123]; decide +kernel
theorem D123_59 : decode (cod 123) 59 = .ok (.getfield 11, 3) := by rw [cc_123]; decide +kernel
theorem D123_62 : decode (cod 123) 62 = .ok (.iload 10, 2) := by rw [cc_123]; decide +kernel
theorem D123_64 : decode (cod 123) 64 = .ok (.aaload, 1) := by rw [cc_123]; decide +kernel
theorem D123_65 : decode (cod 123) 65 = .ok (.getfield 98, 3) := by rw [cc_123]; decide +kernel
theorem D123_68 : decode (cod 123) 68 = .ok (.astore 11, 2) := by rw [cc_123]; decide +kernel
theorem D123_70 : decode (cod 123) 70 = .ok (.aload 11, 2) := by rw [cc_123]; decide +kernel
theorem D123_72 : decode (cod 123) 72 = .ok (.iload_n 3, 1) := by rw [cc_123]; decide +kernel
theorem D123_73 : decode (cod 123) 73 = .ok (.iaload, 1) := by rw [cc_123]; decide +kernel
theorem D123_74 : decode (cod 123) 74 = .ok (.iload 5, 2) := by rw [cc_123]; decide +kernel
theorem D123_76 : decode (cod 123) 76 = .ok (.isub, 1) := by rw [cc_123]; decide +kernel
theorem D123_77 : decode (cod 123) 77 = .ok (.invokestatic 391, 3) := by rw [cc_123]; decide +kernel
theorem D123_80 : decode (cod 123) 80 = .ok (.aload 11, 2) := by rw [cc_123]; decide +kernel
theorem D123_82 : decode (cod 123) 82 = .ok (.iload_n 3, 1) := by rw [cc_123]; decide +kernel
theorem D123_83 : decode (cod 123) 83 = .ok (.iconst 1, 1) := by rw [cc_123]; decide +kernel
theorem D123_84 : decode (cod 123) 84 = .ok (.iadd, 1) := by rw [cc_123]; decide +kernel
theorem D123_85 : decode (cod 123) 85 = .ok (.iaload, 1) := by rw [cc_123]; decide +kernel
theorem D123_86 : decode (cod 123) 86 = .ok (.iload 6, 2) := by rw [cc_123]; decide +kernel
theorem D123_88 : decode (cod 123) 88 = .ok (.isub, 1) := by rw [cc_123]; decide +kernel
theorem D123_89 : decode (cod 123) 89 = .ok (.invokestatic 391, 3) := by rw [cc_123]; decide +kernel
theorem D123_92 : decode (cod 123) 92 = .ok (.iadd, 1) := by rw [cc_123]; decide +kernel
theorem D123_93 : decode (cod 123) 93 = .ok (.istore 12, 2) := by rw [cc_123]; decide +kernel
theorem D123_95 : decode (cod 123) 95 = .ok (.iload 7, 2) := by rw [cc_123]; decide +kernel
theorem D123_97 : decode (cod 123) 97 = .ok (.iconst (-1), 1) := by rw [cc_123]; decide +kernel
theorem D123_98 : decode (cod 123) 98 = .ok (.if_icmp .eq 10, 3) := by rw [cc_123]; decide +kernel
theorem D123_101 : decode (cod 123) 101 = .ok (.iload 12, 2) := by rw [cc_123]; decide +kernel
theorem D123_103 : decode (cod 123) 103 = .ok (.iload 8, 2) := by rw [cc_123]; decide +kernel
theorem D123_105 : decode (cod 123) 105 = .ok (.if_icmp .ge 11, 3) := by rw [cc_123]; decide +kernel
theorem D123_108 : decode (cod 123) 108 = .ok (.iload 10, 2) := by rw [cc_123]; decide +kernel
theorem D123_110 : decode (cod 123) 110 = .ok (.istore 7, 2) := by rw [cc_123]; decide +kernel
theorem D123_112 : decode (cod 123) 112 = .ok (.iload 12, 2) := by rw [cc_123]; decide +kernel
theorem D123_114 : decode (cod 123) 114 = .ok (.istore 8, 2) := by rw [cc_123]; decide +kernel
theorem D123_116 : decode (cod 123) 116 = .ok (.iinc 9 1, 3) := by rw [cc_123]; decide +kernel
theorem D123_119 : decode (cod 123) 119 = .ok (.goto (-82), 3) := by rw [cc_123]; decide +kernel
theorem D123_122 : decode (cod 123) 122 = .ok (.iload 7, 2) := by rw [cc_123]; decide +kernel
theorem D123_124 : decode (cod 123) 124 = .ok (.ireturn, 1) := by rw [cc_123]; decide +kernel
theorem b123_0 {d : Nat} {i0 i1 i2 : Nat} {x3 x4 : Int} {I L : Nat → Nat → Nat → Int} {t : Nat → Nat} (g1 : 0 ≤ x3 ∧ x3 < 16) : Res (d + 1) 123 0 [vr 11 i0, vr 3 i1, vr 4 i2, vi x3, vi x4, vx, vx, vx, vx, vx, vx, vx, vx] [] (mk I L t) = (Cal d 124 [vi (I 28 i1 x3.toNat), vi x4] (mk I L t)).bind fun v => Res (d + 1) 123 11 [vr 11 i0, vr 3 i1, vr 4 i2, vi x3, vi x4, vx, vx, vx, vx, vx, vx, vx, vx] (psh 124 v.1 []) v.2 :=
  Eq.trans (e_aload_n D123_0 rfl rfl) <| Eq.trans (e_getP (p := (28, i1)) D123_1 rfl o_123 f_11_169 (sh_3 _) (by decide) (pp_3_0 _ _)) <| Eq.trans (e_iload_n D123_4 rfl rfl) <| Eq.trans (e_iald D123_5 rfl (al_28 _) g1) <| Eq.trans (e_iload D123_6 rfl rfl) <| e_callS D123_8 rfl o_123 m_11_450 (by decide) rfl rfl
theorem b123_11 {d : Nat} {i0 i1 i2 : Nat} {x3 x4 xs0 : Int} {I L : Nat → Nat → Nat → Int} {t : Nat → Nat} (g1 : 0 ≤ w32 (x3 + 1) ∧ w32 (x3 + 1) < 16) : Res (d + 1) 123 11 [vr 11 i0, vr 3 i1, vr 4 i2, vi x3, vi x4, vx, vx, vx, vx, vx, vx, vx, vx] [vi xs0] (mk I L t) = (Cal d 124 [vi (I 28 i1 (w32 (x3 + 1)).toNat), vi x4] (mk I L t)).bind fun v => Res (d + 1) 123 26 [vr 11 i0, vr 3 i1, vr 4 i2, vi x3, vi x4, vi xs0, vx, vx, vx, vx, vx, vx, vx] (psh 124 v.1 []) v.2 :=
  Eq.trans (e_istore (ls1 := [vr 11 i0, vr 3 i1, vr 4 i2, vi x3, vi x4, vi xs0, vx, vx, vx, vx, vx, vx, vx]) D123_11 rfl (show 5 < 13 by decide) rfl) <| Eq.trans (e_aload_n D123_13 rfl rfl) <| Eq.trans (e_getP (p := (28, i1)) D123_14 rfl o_123 f_11_169 (sh_3 _) (by decide) (pp_3_0 _ _)) <| Eq.trans (e_iload_n D123_17 rfl rfl) <| Eq.trans (e_iconst (x := 1) D123_18 rfl rfl) <| Eq.trans (e_iadd D123_19 rfl) <| Eq.trans (e_iald D123_20 rfl (al_28 _) g1) <| Eq.trans (e_iload D123_21 rfl rfl) <| e_callS D123_23 rfl o_123 m_11_450 (by decide) rfl rfl
theorem b123_26 {d : Nat} {i0 i1 i2 : Nat} {x3 x4 x5 xs0 : Int} {I L : Nat → Nat → Nat → Int} {t : Nat → Nat} : Res d 123 26 [vr 11 i0, vr 3 i1, vr 4 i2, vi x3, vi x4, vi x5, vx, vx, vx, vx, vx, vx, vx] [vi xs0] (mk I L t) = Res d 123 37 [vr 11 i0, vr 3 i1, vr 4 i2, vi x3, vi x4, vi x5, vi xs0, vi (-1), vi 0, vi 0, vx, vx, vx] [] (mk I L t) :=
  Eq.trans (e_istore (ls1 := [vr 11 i0, vr 3 i1, vr 4 i2, vi x3, vi x4, vi x5, vi xs0, vx, vx, vx, vx, vx, vx]) D123_26 rfl (show 6 < 13 by decide) rfl) <| Eq.trans (e_iconst (x := -1) D123_28 rfl rfl) <| Eq.trans (e_istore (ls1 := [vr 11 i0, vr 3 i1, vr 4 i2, vi x3, vi x4, vi x5, vi xs0, vi (-1), vx, vx, vx, vx, vx]) D123_29 rfl (show 7 < 13 by decide) rfl) <| Eq.trans (e_iconst (x := 0) D123_31 rfl rfl) <| Eq.trans (e_istore (ls1 := [vr 11 i0, vr 3 i1, vr 4 i2, vi x3, vi x4, vi x5, vi xs0, vi (-1), vi 0, vx, vx, vx, vx]) D123_32 rfl (show 8 < 13 by decide) rfl) <| Eq.trans (e_iconst (x := 0) D123_34 rfl rfl) <| e_istore (ls1 := [vr 11 i0, vr 3 i1, vr 4 i2, vi x3, vi x4, vi x5, vi xs0, vi (-1), vi 0, vi 0, vx, vx, vx]) D123_35 rfl (show 9 < 13 by decide) rfl
theorem b123_37 {d : Nat} {i0 i1 i2 : Nat} {x3 x4 x5 x6 x7 x8 x9 : Int} {u10 u11 u12 : MV} {I L : Nat → Nat → Nat → Int} {t : Nat → Nat} : Res d 123 37 [vr 11 i0, vr 3 i1, vr 4 i2, vi x3, vi x4, vi x5, vi x6, vi x7, vi x8, vi x9, u10, u11, u12] [] (mk I L t) = if 9 ≤ x9 then Res d 123 122 [vr 11 i0, vr 3 i1, vr 4 i2, vi x3, vi x4, vi x5, vi x6, vi x7, vi x8, vi x9, u10, u11, u12] [] (mk I L t) else Res d 123 44 [vr 11 i0, vr 3 i1, vr 4 i2, vi x3, vi x4, vi x5, vi x6, vi x7, vi x8, vi x9, u10, u11, u12] [] (mk I L t) :=
  Eq.trans (e_iload D123_37 rfl rfl) <| Eq.trans (e_bipush (x := 9) D123_39 rfl rfl) <| e_icge D123_41 rfl rfl
theorem b123_44 {d : Nat} {i0 i1 i2 : Nat} {x3 x4 x5 x6 x7 x8 x9 : Int} {u10 u11 u12 : MV} {I L : Nat → Nat → Nat → Int} {t : Nat → Nat} : Res (d + 1) 123 44 [vr 11 i0, vr 3 i1, vr 4 i2, vi x3, vi x4, vi x5, vi x6, vi x7, vi x8, vi x9, u10, u11, u12] [] (mk I L t) = (Cal d 26 [vr 4 i2, vi x9] (mk I L t)).bind fun v => Res (d + 1) 123 50 [vr 11 i0, vr 3 i1, vr 4 i2, vi x3, vi x4, vi x5, vi x6, vi x7, vi x8, vi x9, u10, u11, u12] (psh 26 v.1 []) v.2 :=
  Eq.trans (e_aload_n D123_44 rfl rfl) <| Eq.trans (e_iload D123_45 rfl rfl) <| e_callV D123_47 rfl o_123 m_11_247 (by decide) rfl rfl
theorem b123_50 {d : Nat} {i0 i1 i2 : Nat} {x3 x4 x5 x6 x7 x8 x9 xs0 : Int} {u10 u11 u12 : MV} {I L : Nat → Nat → Nat → Int} {t : Nat → Nat} : Res d 123 50 [vr 11 i0, vr 3 i1, vr 4 i2, vi x3, vi x4, vi x5, vi x6, vi x7, vi x8, vi x9, u10, u11, u12] [vi xs0] (mk I L t) = if xs0 = -1 then Res d 123 116 [vr 11 i0, vr 3 i1, vr 4 i2, vi x3, vi x4, vi x5, vi x6, vi x7, vi x8, vi x9, vi xs0, u11, u12] [] (mk I L t) else Res d 123 58 [vr 11 i0, vr 3 i1, vr 4 i2, vi x3, vi x4, vi x5, vi x6, vi x7, vi x8, vi x9, vi xs0, u11, u12] [] (mk I L t) :=
  Eq.trans (e_istore (ls1 := [vr 11 i0, vr 3 i1, vr 4 i2, vi x3, vi x4, vi x5, vi x6, vi x7, vi x8, vi x9, vi xs0, u11, u12]) D123_50 rfl (show 10 < 13 by decide) rfl) <| Eq.trans (e_iload D123_52 rfl rfl) <| Eq.trans (e_iconst (x := -1) D123_54 rfl rfl) <| e_iceq D123_55 rfl rfl
theorem b123_58 {d : Nat} {i0 i1 i2 : Nat} {x3 x4 x5 x6 x7 x8 x9 x10 : Int} {u11 u12 : MV} {I L : Nat → Nat → Nat → Int} {t : Nat → Nat} (g1 : 0 ≤ x10 ∧ x10 < 120) (g2 : 0 ≤ x3 ∧ x3 < 16) (g3 : 0 ≤ w32 (x3 + 1) ∧ w32 (x3 + 1) < 16) : Res (d + 1) 123 58 [vr 11 i0, vr 3 i1, vr 4 i2, vi x3, vi x4, vi x5, vi x6, vi x7, vi x8, vi x9, vi x10, u11, u12] [] (mk I L t) = if x7 = -1 then Res (d + 1) 123 108 [vr 11 i0, vr 3 i1, vr 4 i2, vi x3, vi x4, vi x5, vi x6, vi x7, vi x8, vi x9, vi x10, vr 22 x10.toNat, vi (w32 (((if 0 ≤ w32 ((I 22 x10.toNat x3.toNat) - x5) then w32 ((I 22 x10.toNat x3.toNat) - x5) else w32 (-(w32 ((I 22 x10.toNat x3.toNat) - x5))))) + ((if 0 ≤ w32 ((I 22 x10.toNat (w32 (x3 + 1)).toNat) - x6) then w32 ((I 22 x10.toNat (w32 (x3 + 1)).toNat) - x6) else w32 (-(w32 ((I 22 x10.toNat (w32 (x3 + 1)).toNat) - x6)))))))] [] (mk I L t) else Res (d + 1) 123 101 [vr 11 i0, vr 3 i1, vr 4 i2, vi x3, vi x4, vi x5, vi x6, vi x7, vi x8, vi x9, vi x10, vr 22 x10.toNat, vi (w32 (((if 0 ≤ w32 ((I 22 x10.toNat x3.toNat) - x5) then w32 ((I 22 x10.toNat x3.toNat) - x5) else w32 (-(w32 ((I 22 x10.toNat x3.toNat) - x5))))) + ((if 0 ≤ w32 ((I 22 x10.toNat (w32 (x3 + 1)).toNat) - x6) then w32 ((I 22 x10.toNat (w32 (x3 + 1)).toNat) - x6) else w32 (-(w32 ((I 22 x10.toNat (w32 (x3 + 1)).toNat) - x6)))))))] [] (mk I L t) :=
  Eq.trans (e_aload_n D123_58 rfl rfl) <| Eq.trans (e_getP (p := (40, i0)) D123_59 rfl o_123 f_11_11 (sh_11 _) (by decide) (pp_11_0 _ _)) <| Eq.trans (e_iload D123_62 rfl rfl) <| Eq.trans (e_aald (p := (1, x10.toNat)) D123_64 rfl (ae_40 _) (aq_40 _) (pa_40 _ _ _) g1) <| Eq.trans (e_getP (p := (22, x10.toNat)) D123_65 rfl o_123 f_11_98 (sh_1 _) (by decide) (pp_1_0 _ _)) <| Eq.trans (e_astore (ls1 := [vr 11 i0, vr 3 i1, vr 4 i2, vi x3, vi x4, vi x5, vi x6, vi x7, vi x8, vi x9, vi x10, vr 22 x10.toNat, u12]) D123_68 rfl (show 11 < 13 by decide) rfl) <| Eq.trans (e_aload D123_70 rfl rfl) <| Eq.trans (e_iload_n D123_72 rfl rfl) <| Eq.trans (e_iald D123_73 rfl (al_22 _) g2) <| Eq.trans (e_iload D123_74 rfl rfl) <| Eq.trans (e_isub D123_76 rfl) <| Eq.trans (e_abs (by omega) D123_77 rfl o_123 m_11_391 (by simp [cw])) <| Eq.trans (e_aload D123_80 rfl rfl) <| Eq.trans (e_iload_n D123_82 rfl rfl) <| Eq.trans (e_iconst (x := 1) D123_83 rfl rfl) <| Eq.trans (e_iadd D123_84 rfl) <| Eq.trans (e_iald D123_85 rfl (al_22 _) g3) <| Eq.trans (e_iload D123_86 rfl rfl) <| Eq.trans (e_isub D123_88 rfl) <| Eq.trans (e_abs (by omega) D123_89 rfl o_123 m_11_391 (by simp [cw])) <| Eq.trans (e_iadd D123_92 rfl) <| Eq.trans (e_istore (ls1 := [vr 11 i0, vr 3 i1, vr 4 i2, vi x3, vi x4, vi x5, vi x6, vi x7, vi x8, vi x9, vi x10, vr 22 x10.toNat, vi (w32 (((if 0 ≤ w32 ((I 22 x10.toNat x3.toNat) - x5) then w32 ((I 22 x10.toNat x3.toNat) - x5) else w32 (-(w32 ((I 22 x10.toNat x3.toNat) - x5))))) + ((if 0 ≤ w32 ((I 22 x10.toNat (w32 (x3 + 1)).toNat) - x6) then w32 ((I 22 x10.toNat (w32 (x3 + 1)).toNat) - x6) else w32 (-(w32 ((I 22 x10.toNat (w32 (x3 + 1)).toNat) - x6)))))))]) D123_93 rfl (show 12 < 13 by decide) rfl) <| Eq.trans (e_iload D123_95 rfl rfl) <| Eq.trans (e_iconst (x := -1) D123_97 rfl rfl) <| e_iceq D123_98 rfl rfl
theorem b123_101 {d : Nat} {i0 i1 i2 i11 : Nat} {x3 x4 x5 x6 x7 x8 x9 x10 x12 : Int} {I L : Nat → Nat → Nat → Int} {t : Nat → Nat} : Res d 123 101 [vr 11 i0, vr 3 i1, vr 4 i2, vi x3, vi x4, vi x5, vi x6, vi x7, vi x8, vi x9, vi x10, vr 22 i11, vi x12] [] (mk I L t) = if x8 ≤ x12 then Res d 123 116 [vr 11 i0, vr 3 i1, vr 4 i2, vi x3, vi x4, vi x5, vi x6, vi x7, vi x8, vi x9, vi x10, vr 22 i11, vi x12] [] (mk I L t) else Res d 123 108 [vr 11 i0, vr 3 i1, vr 4 i2, vi x3, vi x4, vi x5, vi x6, vi x7, vi x8, vi x9, vi x10, vr 22 i11, vi x12] [] (mk I L t) :=
  Eq.trans (e_iload D123_101 rfl rfl) <| Eq.trans (e_iload D123_103 rfl rfl) <| e_icge D123_105 rfl rfl
theorem b123_108 {d : Nat} {i0 i1 i2 i11 : Nat} {x3 x4 x5 x6 x7 x8 x9 x10 x12 : Int} {I L : Nat → Nat → Nat → Int} {t : Nat → Nat} : Res d 123 108 [vr 11 i0, vr 3 i1, vr 4 i2, vi x3, vi x4, vi x5, vi x6, vi x7, vi x8, vi x9, vi x10, vr 22 i11, vi x12] [] (mk I L t) = Res d 123 116 [vr 11 i0, vr 3 i1, vr 4 i2, vi x3, vi x4, vi x5, vi x6, vi x10, vi x12, vi x9, vi x10, vr 22 i11, vi x12] [] (mk I L t) :=
  Eq.trans (e_iload D123_108 rfl rfl) <| Eq.trans (e_istore (ls1 := [vr 11 i0, vr 3 i1, vr 4 i2, vi x3, vi x4, vi x5, vi x6, vi x10, vi x8, vi x9, vi x10, vr 22 i11, vi x12]) D123_110 rfl (show 7 < 13 by decide) rfl) <| Eq.trans (e_iload D123_112 rfl rfl) <| e_istore (ls1 := [vr 11 i0, vr 3 i1, vr 4 i2, vi x3, vi x4, vi x5, vi x6, vi x10, vi x12, vi x9, vi x10, vr 22 i11, vi x12]) D123_114 rfl (show 8 < 13 by decide) rfl
theorem b123_116 {d : Nat} {i0 i1 i2 : Nat} {x3 x4 x5 x6 x7 x8 x9 x10 : Int} {u11 u12 : MV} {I L : Nat → Nat → Nat → Int} {t : Nat → Nat} : Res d 123 116 [vr 11 i0, vr 3 i1, vr 4 i2, vi x3, vi x4, vi x5, vi x6, vi x7, vi x8, vi x9, vi x10, u11, u12] [] (mk I L t) = Res d 123 37 [vr 11 i0, vr 3 i1, vr 4 i2, vi x3, vi x4, vi x5, vi x6, vi x7, vi x8, vi (w32 (x9 + 1)), vi x10, u11, u12] [] (mk I L t) :=
  Eq.trans (e_iinc (ls1 := [vr 11 i0, vr 3 i1, vr 4 i2, vi x3, vi x4, vi x5, vi x6, vi x7, vi x8, vi (w32 (x9 + 1)), vi x10, u11, u12]) D123_116 rfl rfl rfl) <| e_goto (q1 := 37) D123_119 rfl
theorem b123_122 {d : Nat} {i0 i1 i2 : Nat} {x3 x4 x5 x6 x7 x8 x9 : Int} {u10 u11 u12 : MV} {I L : Nat → Nat → Nat → Int} {t : Nat → Nat} : Res d 123 122 [vr 11 i0, vr 3 i1, vr 4 i2, vi x3, vi x4, vi x5, vi x6, vi x7, vi x8, vi x9, u10, u11, u12] [] (mk I L t) = some (vi x7, (mk I L t)) :=
  Eq.trans (e_iload D123_122 rfl rfl) <| e_iret D123_124 rfl
/-! x_blurred -/
theorem cc_124 : cod 124 = cX11_blurred := rfl
theorem D124_0 : decode (cod 124) 0 = .ok (.iload_n 1, 1) := by rw [cc_124]; decide +kernel
theorem D124_1 : decode (cod 124) 1 = .ok (.iconst 1, 1) := by rw [cc_124]; decide +kernel
theorem D124_2 : decode (cod 124) 2 = .ok (.iadd, 1) := by rw [cc_124]; decide +kernel
theorem D124_3 : decode (cod 124) 3 = .ok (.istore_n 2, 1) := by rw [cc_124]; decide +kernel
theorem D124_4 : decode (cod 124) 4 = .ok (.iload_n 2, 1) := by rw [cc_124]; decide +kernel
theorem D124_5 : decode (cod 124) 5 = .ok (.ifCond .gt 7, 3) := by rw [cc_124]; decide +kernel
theorem D124_8 : decode (cod 124) 8 = .ok (.iload_n 0, 1) := by rw [cc_124]; decide +kernel
theorem D124_9 : decode (cod 124) 9 = .ok (.goto 17, 3) := by rw [cc_124]; decide +kernel
theorem D124_12 : decode (cod 124) 12 = .ok (.bipush 31, 2) := by rw [cc_124]; decide +kernel
theorem D124_14 : decode (cod 124) 14 = .ok (.iload_n 0, 1) := by rw [cc_124]; decide +kernel
theorem D124_15 : decode (cod 124) 15 = .ok (.iload_n 2, 1) := by rw [cc_124]; decide +kernel
theorem D124_16 : decode (cod 124) 16 = .ok (.idiv, 1) := by rw [cc_124]; decide +kernel
theorem D124_17 : decode (cod 124) 17 = .ok (.iload_n 2, 1) := by rw [cc_124]; decide +kernel
theorem D124_18 : decode (cod 124) 18 = .ok (.imul, 1) := by rw [cc_124]; decide +kernel
theorem D124_19 : decode (cod 124) 19 = .ok (.iload_n 1, 1) := by rw [cc_124]; decide +kernel
theorem D124_20 : decode (cod 124) 20 = .ok (.iconst 2, 1) := by rw [cc_124]; decide +kernel
theorem D124_21 : decode (cod 124) 21 = .ok (.idiv, 1) := by rw [cc_124]; decide +kernel
theorem D124_22 : decode (cod 124) 22 = .ok (.iadd, 1) := by rw [cc_124]; decide +kernel
theorem D124_23 : decode (cod 124) 23 = .ok (.invokestatic 253, 3) := by rw [cc_124]; decide +kernel
theorem D124_26 : decode (cod 124) 26 = .ok (.ireturn, 1) := by rw [cc_124]; decide +kernel
theorem b124_0 {d : Nat} {x0 x1 : Int} {I L : Nat → Nat → Nat → Int} {t : Nat → Nat} : Res d 124 0 [vi x0, vi x1, vx] [] (mk I L t) = if 0 < w32 (x1 + 1) then Res d 124 12 [vi x0, vi x1, vi (w32 (x1 + 1))] [] (mk I L t) else Res d 124 8 [vi x0, vi x1, vi (w32 (x1 + 1))] [] (mk I L t) :=
  Eq.trans (e_iload_n D124_0 rfl rfl) <| Eq.trans (e_iconst (x := 1) D124_1 rfl rfl) <| Eq.trans (e_iadd D124_2 rfl) <| Eq.trans (e_istore_n (ls1 := [vi x0, vi x1, vi (w32 (x1 + 1))]) D124_3 rfl (show 2 < 3 by decide) rfl) <| Eq.trans (e_iload_n D124_4 rfl rfl) <| e_ifgt D124_5 rfl rfl
theorem b124_8 {d : Nat} {x0 x1 x2 : Int} {I L : Nat → Nat → Nat → Int} {t : Nat → Nat} : Res d 124 8 [vi x0, vi x1, vi x2] [] (mk I L t) = Res d 124 26 [vi x0, vi x1, vi x2] [vi x0] (mk I L t) :=
  Eq.trans (e_iload_n D124_8 rfl rfl) <| e_goto (q1 := 26) D124_9 rfl
theorem b124_12 {d : Nat} {x0 x1 x2 : Int} {I L : Nat → Nat → Nat → Int} {t : Nat → Nat} (g1 : x2 ≠ 0) : Res (d + 1) 124 12 [vi x0, vi x1, vi x2] [] (mk I L t) = Res (d + 1) 124 26 [vi x0, vi x1, vi x2] [vi ((if w32 ((w32 ((vIdiv x0 x2) * x2)) + (vIdiv x1 2)) < 31 then w32 ((w32 ((vIdiv x0 x2) * x2)) + (vIdiv x1 2)) else 31))] (mk I L t) :=
  Eq.trans (e_bipush (x := 31) D124_12 rfl rfl) <| Eq.trans (e_iload_n D124_14 rfl rfl) <| Eq.trans (e_iload_n D124_15 rfl rfl) <| Eq.trans (e_idiv D124_16 rfl g1) <| Eq.trans (e_iload_n D124_17 rfl rfl) <| Eq.trans (e_imul D124_18 rfl) <| Eq.trans (e_iload_n D124_19 rfl rfl) <| Eq.trans (e_iconst (x := 2) D124_20 rfl rfl) <| Eq.trans (e_idiv D124_21 rfl (by decide)) <| Eq.trans (e_iadd D124_22 rfl) <| e_min (by omega) D124_23 rfl o_124 m_11_253 (by simp [cw])
theorem b124_26 {d : Nat} {x0 x1 x2 xs0 : Int} {I L : Nat → Nat → Nat → Int} {t : Nat → Nat} : Res d 124 26 [vi x0, vi x1, vi x2] [vi xs0] (mk I L t) = some (vi xs0, (mk I L t)) :=
  e_iret D124_26 rfl
/-! x_differences -/
theorem cc_125 : cod 125 = cX11_differences := rfl
theorem D125_0 : decode (cod 125) 0 = .ok (.iconst 0, 1) := by rw [cc_125]; decide +kernel
theorem D125_1 : decode (cod 125) 1 = .ok (.istore 4, 2) := by rw [cc_125]; decide +kernel
theorem D125_3 : decode (cod 125) 3 = .ok (.iload_n 2, 1) := by rw [cc_125]; decide +kernel
theorem D125_4 : decode (cod 125) 4 = .ok (.istore 5, 2) := by rw [cc_125]; decide +kernel
theorem D125_6 : decode (cod 125) 6 = .ok (.iload 5, 2) := by rw [cc_125]; decide +kernel
theorem D125_8 : decode (cod 125) 8 = .ok (.iload_n 3, 1) := by rw [cc_125]; decide +kernel
theorem D125_9 : decode (cod 125) 9 = .ok (.if_icmp .ge 38, 3) := by rw [cc_125]; decide +kernel
theorem D125_12 : decode (cod 125) 12 = .ok (.aload_n 0, 1) := by rw [cc_125]; decide +kernel
theorem D125_13 : decode (cod 125) 13 = .ok (.iload 5, 2) := by rw [cc_125]; decide +kernel
theorem D125_15 : decode (cod 125) 15 = .ok (.iaload, 1) := by rw [cc_125]; decide +kernel
theorem D125_16 : decode (cod 125) 16 = .ok (.aload_n 1, 1) := by rw [cc_125]; decide +kernel
theorem D125_17 : decode (cod 125) 17 = .ok (.iload 5, 2) := by rw [cc_125]; decide +kernel
theorem D125_19 : decode (cod 125) 19 = .ok (.iaload, 1) := by rw [cc_125]; decide +kernel
theorem D125_20 : decode (cod 125) 20 = .ok (.isub, 1) := by rw [cc_125]; decide +kernel
theorem D125_21 : decode (cod 125) 21 = .ok (.istore 6, 2) := by rw [cc_125]; decide +kernel
theorem D125_23 : decode (cod 125) 23 = .ok (.iload 4, 2) := by rw [cc_125]; decide +kernel
theorem D125_25 : decode (cod 125) 25 = .ok (.iload 6, 2) := by rw [cc_125]; decide +kernel
theorem D125_27 : decode (cod 125) 27 = .ok (.ifCond .ge 9, 3) := by rw [cc_125]; decide +kernel
theorem D125_30 : decode (cod 125) 30 = .ok (.iload 6, 2) := by rw [cc_125]; decide +kernel
theorem D125_32 : decode (cod 125) 32 = .ok (.ineg, 1) := by rw [cc_125]; decide +kernel
theorem D125_33 : decode (cod 125) 33 = .ok (.goto 5, 3) := by rw [cc_125]; decide +kernel
theorem D125_36 : decode (cod 125) 36 = .ok (.iload 6, 2) := by rw [cc_125]; decide +kernel
theorem D125_38 : decode (cod 125) 38 = .ok (.iadd, 1) := by rw [cc_125]; decide +kernel
theorem D125_39 : decode (cod 125) 39 = .ok (.istore 4, 2) := by rw [cc_125]; decide +kernel
theorem D125_41 : decode (cod 125) 41 = .ok (.iinc 5 1, 3) := by rw [cc_125]; decide +kernel
theorem D125_44 : decode (cod 125) 44 = .ok (.goto (-38), 3) := by rw [cc_125]; decide +kernel
theorem D125_47 : decode (cod 125) 47 = .ok (.iload 4, 2) := by rw [cc_125]; decide +kernel
theorem D125_49 : decode (cod 125) 49 = .ok (.ireturn, 1) := by rw [cc_125]; decide +kernel
theorem b125_0 {d : Nat} {i0 r0 i1 r1 : Nat} {x2 x3 : Int} {I L : Nat → Nat → Nat → Int} {t : Nat → Nat} : Res d 125 0 [vr r0 i0, vr r1 i1, vi x2, vi x3, vx, vx, vx] [] (mk I L t) = Res d 125 6 [vr r0 i0, vr r1 i1, vi x2, vi x3, vi 0, vi x2, vx] [] (mk I L t) :=
  Eq.trans (e_iconst (x := 0) D125_0 rfl rfl) <| Eq.trans (e_istore (ls1 := [vr r0 i0, vr r1 i1, vi x2, vi x3, vi 0, vx, vx]) D125_1 rfl (show 4 < 7 by decide) rfl) <| Eq.trans (e_iload_n D125_3 rfl rfl) <| e_istore (ls1 := [vr r0 i0, vr r1 i1, vi x2, vi x3, vi 0, vi x2, vx]) D125_4 rfl (show 5 < 7 by decide) rfl
theorem b125_6 {d : Nat} {i0 r0 i1 r1 : Nat} {x2 x3 x4 x5 : Int} {u6 : MV} {I L : Nat → Nat → Nat → Int} {t : Nat → Nat} : Res d 125 6 [vr r0 i0, vr r1 i1, vi x2, vi x3, vi x4, vi x5, u6] [] (mk I L t) = if x3 ≤ x5 then Res d 125 47 [vr r0 i0, vr r1 i1, vi x2, vi x3, vi x4, vi x5, u6] [] (mk I L t) else Res d 125 12 [vr r0 i0, vr r1 i1, vi x2, vi x3, vi x4, vi x5, u6] [] (mk I L t) :=
  Eq.trans (e_iload D125_6 rfl rfl) <| Eq.trans (e_iload_n D125_8 rfl rfl) <| e_icge D125_9 rfl rfl
theorem b125_12 {d : Nat} {i0 r0 i1 r1 : Nat} {x2 x3 x4 x5 n0 n2 : Int} {u6 : MV} {I L : Nat → Nat → Nat → Int} {t : Nat → Nat} (g1 : alen 0 r0 i0 = n0) (g2 : (0 : Int) ≤ x5 ∧ x5 < n0) (g3 : alen 0 r1 i1 = n2) (g4 : (0 : Int) ≤ x5 ∧ x5 < n2) : Res d 125 12 [vr r0 i0, vr r1 i1, vi x2, vi x3, vi x4, vi x5, u6] [] (mk I L t) = if 0 ≤ w32 ((ldI (mk I L t) r0 i0 x5.toNat) - (ldI (mk I L t) r1 i1 x5.toNat)) then Res d 125 36 [vr r0 i0, vr r1 i1, vi x2, vi x3, vi x4, vi x5, vi (w32 ((ldI (mk I L t) r0 i0 x5.toNat) - (ldI (mk I L t) r1 i1 x5.toNat)))] [vi x4] (mk I L t) else Res d 125 30 [vr r0 i0, vr r1 i1, vi x2, vi x3, vi x4, vi x5, vi (w32 ((ldI (mk I L t) r0 i0 x5.toNat) - (ldI (mk I L t) r1 i1 x5.toNat)))] [vi x4] (mk I L t) :=
  Eq.trans (e_aload_n D125_12 rfl rfl) <| Eq.trans (e_iload D125_13 rfl rfl) <| Eq.trans (e_iald D125_15 rfl g1 g2) <| Eq.trans (e_aload_n D125_16 rfl rfl) <| Eq.trans (e_iload D125_17 rfl rfl) <| Eq.trans (e_iald D125_19 rfl g3 g4) <| Eq.trans (e_isub D125_20 rfl) <| Eq.trans (e_istore (ls1 := [vr r0 i0, vr r1 i1, vi x2, vi x3, vi x4, vi x5, vi (w32 ((ldI (mk I L t) r0 i0 x5.toNat) - (ldI (mk I L t) r1 i1 x5.toNat)))]) D125_21 rfl (show 6 < 7 by decide) rfl) <| Eq.trans (e_iload D125_23 rfl rfl) <| Eq.trans (e_iload D125_25 rfl rfl) <| e_ifge D125_27 rfl rfl
theorem b125_30 {d : Nat} {i0 r0 i1 r1 : Nat} {x2 x3 x4 x5 x6 xs0 : Int} {I L : Nat → Nat → Nat → Int} {t : Nat → Nat} : Res d 125 30 [vr r0 i0, vr r1 i1, vi x2, vi x3, vi x4, vi x5, vi x6] [vi xs0] (mk I L t) = Res d 125 38 [vr r0 i0, vr r1 i1, vi x2, vi x3, vi x4, vi x5, vi x6] [vi (w32 (-x6)), vi xs0] (mk I L t) :=
  Eq.trans (e_iload D125_30 rfl rfl) <| Eq.trans (e_ineg D125_32 rfl) <| e_goto (q1 := 38) D125_33 rfl
theorem b125_36 {d : Nat} {i0 r0 i1 r1 : Nat} {x2 x3 x4 x5 x6 xs0 : Int} {I L : Nat → Nat → Nat → Int} {t : Nat → Nat} : Res d 125 36 [vr r0 i0, vr r1 i1, vi x2, vi x3, vi x4, vi x5, vi x6] [vi xs0] (mk I L t) = Res d 125 38 [vr r0 i0, vr r1 i1, vi x2, vi x3, vi x4, vi x5, vi x6] [vi x6, vi xs0] (mk I L t) :=
  e_iload D125_36 rfl rfl
theorem b125_38 {d : Nat} {i0 r0 i1 r1 : Nat} {x2 x3 x4 x5 x6 xs1 xs0 : Int} {I L : Nat → Nat → Nat → Int} {t : Nat → Nat} : Res d 125 38 [vr r0 i0, vr r1 i1, vi x2, vi x3, vi x4, vi x5, vi x6] [vi xs1, vi xs0] (mk I L t) = Res d 125 6 [vr r0 i0, vr r1 i1, vi x2, vi x3, vi (w32 (xs0 + xs1)), vi (w32 (x5 + 1)), vi x6] [] (mk I L t) :=
  Eq.trans (e_iadd D125_38 rfl) <| Eq.trans (e_istore (ls1 := [vr r0 i0, vr r1 i1, vi x2, vi x3, vi (w32 (xs0 + xs1)), vi x5, vi x6]) D125_39 rfl (show 4 < 7 by decide) rfl) <| Eq.trans (e_iinc (ls1 := [vr r0 i0, vr r1 i1, vi x2, vi x3, vi (w32 (xs0 + xs1)), vi (w32 (x5 + 1)), vi x6]) D125_41 rfl rfl rfl) <| e_goto (q1 := 6) D125_44 rfl
theorem b125_47 {d : Nat} {i0 r0 i1 r1 : Nat} {x2 x3 x4 x5 : Int} {u6 : MV} {I L : Nat → Nat → Nat → Int} {t : Nat → Nat} : Res d 125 47 [vr r0 i0, vr r1 i1, vi x2, vi x3, vi x4, vi x5, u6] [] (mk I L t) = some (vi x4, (mk I L t)) :=
  Eq.trans (e_iload D125_47 rfl rfl) <| e_iret D125_49 rfl
/-! x_countNearer -/
theorem cc_126 : cod 126 = cX11_countNearer := rfl
theorem D126_0 : decode (cod 126) 0 = .ok (.iconst 0, 1) := by rw [cc_126]; decide +kernel
theorem D126_1 : decode (cod 126) 1 = .ok (.istore_n 3, 1) := by rw [cc_126]; decide +kernel
theorem D126_2 : decode (cod 126) 2 = .ok (.iconst 0, 1) := by rw [cc_126]; decide +kernel
theorem D126_3 : decode (cod 126) 3 = .ok (.istore 4, 2) := by rw [cc_126]; decide +kernel
theorem D126_5 : decode (cod 126) 5 = .ok (.iload 4, 2) := by rw [cc_126]; decide +kernel
theorem D126_7 : decode (cod 126) 7 = .ok (.aload_n 0, 1) := by rw [cc_126]; decide +kernel
theorem D126_8 : decode (cod 126) 8 = .ok (.getfield 80, 3) := by rw [cc_126]; decide +kernel
theorem D126_11 : decode (cod 126) 11 = .ok (.if_icmp .ge 41, 3) := by rw [cc_126]; decide +kernel
theorem D126_14 : decode (cod 126) 14 = .ok (.iload 4, 2) := by rw [cc_126]; decide +kernel
theorem D126_16 : decode (cod 126) 16 = .ok (.iload_n 1, 1) := by rw [cc_126]; decide +kernel
theorem D126_17 : decode (cod 126) 17 = .ok (.if_icmp .eq 29, 3) := by rw [cc_126]; decide +kernel
theorem D126_20 : decode (cod 126) 20 = .ok (.aload_n 0, 1) := by rw [cc_126]; decide +kernel
theorem D126_21 : decode (cod 126) 21 = .ok (.getfield 11, 3) := by rw [cc_126]; decide +kernel
theorem D126_24 : decode (cod 126) 24 = .ok (.iload 4, 2) := by rw [cc_126]; decide +kernel
theorem D126_26 : decode (cod 126) 26 = .ok (.aaload, 1) := by rw [cc_126]; decide +kernel
theorem D126_27 : decode (cod 126) 27 = .ok (.aload_n 0, 1) := by rw [cc_126]; decide +kernel
theorem D126_28 : decode (cod 126) 28 = .ok (.getfield 11, 3) := by rw [cc_126]; decide +kernel
theorem D126_31 : decode (cod 126) 31 = .ok (.iload_n 1, 1) := by rw [cc_126]; decide +kernel
theorem D126_32 : decode (cod 126) 32 = .ok (.aaload, 1) := by rw [cc_126]; decide +kernel
theorem D126_33 : decode (cod 126) 33 = .ok (.getfield 98, 3) := by rw [cc_126]; decide +kernel
theorem D126_36 : decode (cod 126) 36 = .ok (.invokevirtual 282, 3) := by rw [cc_126]; decide +kernel
theorem D126_39 : decode (cod 126) 39 = .ok (.iload_n 2, 1) := by rw [cc_126]; decide +kernel
theorem D126_40 : decode (cod 126) 40 = .ok (.if_icmp .ge 6, 3) := by rw [cc_126]; decide +kernel
theorem D126_43 : decode (cod 126) 43 = .ok (.iinc 3 1, 3) := by rw [cc_126]; decide +kernel
theorem D126_46 : decode (cod 126) 46 = .ok (.iinc 4 1, 3) := by rw [cc_126]; decide +kernel
theorem D126_49 : decode (cod 126) 49 = .ok (.goto (-44), 3) := by rw [cc_126]; decide +kernel
theorem D126_52 : decode (cod 126) 52 = .ok (.iload_n 3, 1) := by rw [cc_126]; decide +kernel
theorem D126_53 : decode (cod 126) 53 = .ok (.ireturn, 1) := by rw [cc_126]; decide +kernel
theorem b126_0 {d : Nat} {i0 : Nat} {x1 x2 : Int} {I L : Nat → Nat → Nat → Int} {t : Nat → Nat} : Res d 126 0 [vr 11 i0, vi x1, vi x2, vx, vx] [] (mk I L t) = Res d 126 5 [vr 11 i0, vi x1, vi x2, vi 0, vi 0] [] (mk I L t) :=
  Eq.trans (e_iconst (x := 0) D126_0 rfl rfl) <| Eq.trans (e_istore_n (ls1 := [vr 11 i0, vi x1, vi x2, vi 0, vx]) D126_1 rfl (show 3 < 5 by decide) rfl) <| Eq.trans (e_iconst (x := 0) D126_2 rfl rfl) <| e_istore (ls1 := [vr 11 i0, vi x1, vi x2, vi 0, vi 0]) D126_3 rfl (show 4 < 5 by decide) rfl
theorem b126_5 {d : Nat} {i0 : Nat} {x1 x2 x3 x4 : Int} {I L : Nat → Nat → Nat → Int} {t : Nat → Nat} : Res d 126 5 [vr 11 i0, vi x1, vi x2, vi x3, vi x4] [] (mk I L t) = if I 11 i0 10 ≤ x4 then Res d 126 52 [vr 11 i0, vi x1, vi x2, vi x3, vi x4] [] (mk I L t) else Res d 126 14 [vr 11 i0, vi x1, vi x2, vi x3, vi x4] [] (mk I L t) :=
  Eq.trans (e_iload D126_5 rfl rfl) <| Eq.trans (e_aload_n D126_7 rfl rfl) <| Eq.trans (e_getI D126_8 rfl o_126 f_11_80 (sh_11 _) (by decide)) <| e_icge D126_11 rfl rfl
theorem b126_14 {d : Nat} {i0 : Nat} {x1 x2 x3 x4 : Int} {I L : Nat → Nat → Nat → Int} {t : Nat → Nat} : Res d 126 14 [vr 11 i0, vi x1, vi x2, vi x3, vi x4] [] (mk I L t) = if x4 = x1 then Res d 126 46 [vr 11 i0, vi x1, vi x2, vi x3, vi x4] [] (mk I L t) else Res d 126 20 [vr 11 i0, vi x1, vi x2, vi x3, vi x4] [] (mk I L t) :=
  Eq.trans (e_iload D126_14 rfl rfl) <| Eq.trans (e_iload_n D126_16 rfl rfl) <| e_iceq D126_17 rfl rfl
theorem b126_20 {d : Nat} {i0 : Nat} {x1 x2 x3 x4 : Int} {I L : Nat → Nat → Nat → Int} {t : Nat → Nat} (g1 : 0 ≤ x4 ∧ x4 < 120) (g2 : 0 ≤ x1 ∧ x1 < 120) : Res (d + 1) 126 20 [vr 11 i0, vi x1, vi x2, vi x3, vi x4] [] (mk I L t) = (Cal d 11 [vr 1 x4.toNat, vr 22 x1.toNat] (mk I L t)).bind fun v => Res (d + 1) 126 39 [vr 11 i0, vi x1, vi x2, vi x3, vi x4] (psh 11 v.1 []) v.2 :=
  Eq.trans (e_aload_n D126_20 rfl rfl) <| Eq.trans (e_getP (p := (40, i0)) D126_21 rfl o_126 f_11_11 (sh_11 _) (by decide) (pp_11_0 _ _)) <| Eq.trans (e_iload D126_24 rfl rfl) <| Eq.trans (e_aald (p := (1, x4.toNat)) D126_26 rfl (ae_40 _) (aq_40 _) (pa_40 _ _ _) g1) <| Eq.trans (e_aload_n D126_27 rfl rfl) <| Eq.trans (e_getP (p := (40, i0)) D126_28 rfl o_126 f_11_11 (sh_11 _) (by decide) (pp_11_0 _ _)) <| Eq.trans (e_iload_n D126_31 rfl rfl) <| Eq.trans (e_aald (p := (1, x1.toNat)) D126_32 rfl (ae_40 _) (aq_40 _) (pa_40 _ _ _) g2) <| Eq.trans (e_getP (p := (22, x1.toNat)) D126_33 rfl o_126 f_11_98 (sh_1 _) (by decide) (pp_1_0 _ _)) <| e_callV D126_36 rfl o_126 m_11_282 (by decide) rfl rfl
theorem b126_39 {d : Nat} {i0 : Nat} {x1 x2 x3 x4 xs0 : Int} {I L : Nat → Nat → Nat → Int} {t : Nat → Nat} : Res d 126 39 [vr 11 i0, vi x1, vi x2, vi x3, vi x4] [vi xs0] (mk I L t) = if x2 ≤ xs0 then Res d 126 46 [vr 11 i0, vi x1, vi x2, vi x3, vi x4] [] (mk I L t) else Res d 126 43 [vr 11 i0, vi x1, vi x2, vi x3, vi x4] [] (mk I L t) :=
  Eq.trans (e_iload_n D126_39 rfl rfl) <| e_icge D126_40 rfl rfl
theorem b126_43 {d : Nat} {i0 : Nat} {x1 x2 x3 x4 : Int} {I L : Nat → Nat → Nat → Int} {t : Nat → Nat} : Res d 126 43 [vr 11 i0, vi x1, vi x2, vi x3, vi x4] [] (mk I L t) = Res d 126 46 [vr 11 i0, vi x1, vi x2, vi (w32 (x3 + 1)), vi x4] [] (mk I L t) :=
  e_iinc (ls1 := [vr 11 i0, vi x1, vi x2, vi (w32 (x3 + 1)), vi x4]) D126_43 rfl rfl rfl
theorem b126_46 {d : Nat} {i0 : Nat} {x1 x2 x3 x4 : Int} {I L : Nat → Nat → Nat → Int} {t : Nat → Nat} : Res d 126 46 [vr 11 i0, vi x1, vi x2, vi x3, vi x4] [] (mk I L t) = Res d 126 5 [vr 11 i0, vi x1, vi x2, vi x3, vi (w32 (x4 + 1))] [] (mk I L t) :=
  Eq.trans (e_iinc (ls1 := [vr 11 i0, vi x1, vi x2, vi x3, vi (w32 (x4 + 1))]) D126_46 rfl rfl rfl) <| e_goto (q1 := 5) D126_49 rfl
theorem b126_52 {d : Nat} {i0 : Nat} {x1 x2 x3 x4 : Int} {I L : Nat → Nat → Nat → Int} {t : Nat → Nat} : Res d 126 52 [vr 11 i0, vi x1, vi x2, vi x3, vi x4] [] (mk I L t) = some (vi x3, (mk I L t)) :=
  Eq.trans (e_iload_n D126_52 rfl rfl) <| e_iret D126_53 rfl
/-! x_weigh -/
theorem cc_127 : cod 127 = cX11_weigh := rfl
theorem D127_0 : decode (cod 127) 0 = .ok (.aload_n 0, 1) := by rw [cc_127]; decide +kernel
theorem D127_1 : decode (cod 127) 1 = .ok (.aload_n 1, 1) := by rw [cc_127]; decide +kernel
theorem D127_2 : decode (cod 127) 2 = .ok (.iconst 4, 1) := by rw [cc_127]; decide +kernel
theorem D127_3 : decode (cod 127) 3 = .ok (.invokevirtual 272, 3) := by rw [cc_127]; decide +kernel
theorem D127_6 : decode (cod 127) 6 = .ok (.istore 6, 2) := by rw [cc_127]; decide +kernel
theorem D127_8 : decode (cod 127) 8 = .ok (.aload_n 0, 1) := by rw [cc_127]; decide +kernel
theorem D127_9 : decode (cod 127) 9 = .ok (.aload_n 1, 1) := by rw [cc_127]; decide +kernel
theorem D127_10 : decode (cod 127) 10 = .ok (.iconst 5, 1) := by rw [cc_127]; decide +kernel
theorem D127_11 : decode (cod 127) 11 = .ok (.invokevirtual 272, 3) := by rw [cc_127]; decide +kernel
theorem D127_14 : decode (cod 127) 14 = .ok (.istore 7, 2) := by rw [cc_127]; decide +kernel
theorem D127_16 : decode (cod 127) 16 = .ok (.iconst 0, 1) := by rw [cc_127]; decide +kernel
theorem D127_17 : decode (cod 127) 17 = .ok (.istore 8, 2) := by rw [cc_127]; decide +kernel
theorem D127_19 : decode (cod 127) 19 = .ok (.iload 8, 2) := by rw [cc_127]; decide +kernel
theorem D127_21 : decode (cod 127) 21 = .ok (.bipush 9, 2) := by rw [cc_127]; decide +kernel
theorem D127_23 : decode (cod 127) 23 = .ok (.if_icmp .ge 81, 3) := by rw [cc_127]; decide +kernel
theorem D127_26 : decode (cod 127) 26 = .ok (.aload_n 2, 1) := by rw [cc_127]; decide +kernel
theorem D127_27 : decode (cod 127) 27 = .ok (.iload 8, 2) := by rw [cc_127]; decide +kernel
theorem D127_29 : decode (cod 127) 29 = .ok (.invokevirtual 247, 3) := by rw [cc_127]; decide +kernel
theorem D127_32 : decode (cod 127) 32 = .ok (.istore 9, 2) := by rw [cc_127]; decide +kernel
theorem D127_34 : decode (cod 127) 34 = .ok (.iload 9, 2) := by rw [cc_127]; decide +kernel
theorem D127_36 : decode (cod 127) 36 = .ok (.iconst (-1), 1) := by rw [cc_127]; decide +kernel
theorem D127_37 : decode (cod 127) 37 = .ok (.if_icmp .ne 7, 3) := by rw [cc_127]; decide +kernel
theorem D127_40 : decode (cod 127) 40 = .ok (.iconst 0, 1) := by rw [cc_127]; decide +kernel
theorem D127_41 : decode (cod 127) 41 = .ok (.goto 22, 3) := by rw [cc_127]; decide +kernel
theorem D127_44 : decode (cod 127) 44 = .ok (.iconst 0, 1) := by rw [cc_127]; decide +kernel
theorem D127_45 : decode (cod 127) 45 = .ok (.iload 6, 2) := by rw [cc_127]; decide +kernel
theorem D127_47 : decode (cod 127) 47 = .ok (.aload_n 0, 1) := by rw [cc_127]; decide +kernel
theorem D127_48 : decode (cod 127) 48 = .ok (.aload_n 1, 1) := by rw [cc_127]; decide +kernel
theorem D127_49 : decode (cod 127) 49 = .ok (.aload_n 0, 1) := by rw [cc_127]; decide +kernel
theorem D127_50 : decode (cod 127) 50 = .ok (.getfield 11, 3) := by rw [cc_127]; decide +kernel
theorem D127_53 : decode (cod 127) 53 = .ok (.iload 9, 2) := by rw [cc_127]; decide +kernel
theorem D127_55 : decode (cod 127) 55 = .ok (.aaload, 1) := by rw [cc_127]; decide +kernel
theorem D127_56 : decode (cod 127) 56 = .ok (.invokevirtual 172, 3) := by rw [cc_127]; decide +kernel
theorem D127_59 : decode (cod 127) 59 = .ok (.isub, 1) := by rw [cc_127]; decide +kernel
theorem D127_60 : decode (cod 127) 60 = .ok (.invokestatic 318, 3) := by rw [cc_127]; decide +kernel
theorem D127_63 : decode (cod 127) 63 = .ok (.istore 10, 2) := by rw [cc_127]; decide +kernel
theorem D127_65 : decode (cod 127) 65 = .ok (.aload_n 0, 1) := by rw [cc_127]; decide +kernel
theorem D127_66 : decode (cod 127) 66 = .ok (.getfield 61, 3) := by rw [cc_127]; decide +kernel
theorem D127_69 : decode (cod 127) 69 = .ok (.getfield 456, 3) := by rw [cc_127]; decide +kernel
theorem D127_72 : decode (cod 127) 72 = .ok (.iload 8, 2) := by rw [cc_127]; decide +kernel
theorem D127_74 : decode (cod 127) 74 = .ok (.iload 9, 2) := by rw [cc_127]; decide +kernel
theorem D127_76 : decode (cod 127) 76 = .ok (.iconst (-1), 1) := by rw [cc_127]; decide +kernel
theorem D127_77 : decode (cod 127) 77 = .ok (.if_icmp .eq 18, 3) := by rw [cc_127]; decide +kernel
theorem D127_80 : decode (cod 127) 80 = .ok (.iload 8, 2) := by rw [cc_127]; decide +kernel
theorem D127_82 : decode (cod 127) 82 = .ok (.iload 4, 2) := by rw [cc_127]; decide +kernel
theorem D127_84 : decode (cod 127) 84 = .ok (.if_icmp .ne 11, 3) := by rw [cc_127]; decide +kernel
theorem D127_87 : decode (cod 127) 87 = .ok (.iload 10, 2) := by rw [cc_127]; decide +kernel
theorem D127_89 : decode (cod 127) 89 = .ok (.iload 5, 2) := by rw [cc_127]; decide +kernel
theorem D127_91 : decode (cod 127) 91 = .ok (.iadd, 1) := by rw [cc_127]; decide +kernel
theorem D127_92 : decode (cod 127) 92 = .ok (.goto 5, 3) := by rw [cc_127]; decide +kernel
theorem D127_95 : decode (cod 127) 95 = .ok (.iload 10, 2) := by rw [cc_127]; decide +kernel
theorem D127_97 : decode (cod 127) 97 = .ok (.iastore, 1) := by rw [cc_127]; decide +kernel
theorem D127_98 : decode (cod 127) 98 = .ok (.iinc 8 1, 3) := by rw [cc_127]; decide +kernel
theorem D127_101 : decode (cod 127) 101 = .ok (.goto (-82), 3) := by rw [cc_127]; decide +kernel
theorem D127_104 : decode (cod 127) 104 = .ok (.aload_n 0, 1) := by rw [cc_127]; decide +kernel
theorem D127_105 : decode (cod 127) 105 = .ok (.getfield 61, 3) := by rw [cc_127]; decide +kernel
theorem D127_108 : decode (cod 127) 108 = .ok (.iload_n 3, 1) := by rw [cc_127]; decide +kernel
theorem D127_109 : decode (cod 127) 109 = .ok (.iconst 1, 1) := by rw [cc_127]; decide +kernel
theorem D127_110 : decode (cod 127) 110 = .ok (.if_icmp .ne 7, 3) := by rw [cc_127]; decide +kernel
theorem D127_113 : decode (cod 127) 113 = .ok (.iconst 1, 1) := by rw [cc_127]; decide +kernel
theorem D127_114 : decode (cod 127) 114 = .ok (.goto 4, 3) := by rw [cc_127]; decide +kernel
theorem D127_117 : decode (cod 127) 117 = .ok (.iconst 0, 1) := by rw [cc_127]; decide +kernel
theorem D127_118 : decode (cod 127) 118 = .ok (.iload 7, 2) := by rw [cc_127]; decide +kernel
theorem D127_120 : decode (cod 127) 120 = .ok (.invokevirtual 459, 3) := by rw [cc_127]; decide +kernel
theorem D127_123 : decode (cod 127) 123 = .ok (.return_, 1) := by rw [cc_127]; decide +kernel
theorem b127_0 {d : Nat} {i0 i1 i2 : Nat} {x3 x4 x5 : Int} {I L : Nat → Nat → Nat → Int} {t : Nat → Nat} : Res (d + 1) 127 0 [vr 11 i0, vr 3 i1, vr 4 i2, vi x3, vi x4, vi x5, vx, vx, vx, vx, vx] [] (mk I L t) = (Cal d 114 [vr 11 i0, vr 3 i1, vi 4] (mk I L t)).bind fun v => Res (d + 1) 127 6 [vr 11 i0, vr 3 i1, vr 4 i2, vi x3, vi x4, vi x5, vx, vx, vx, vx, vx] (psh 114 v.1 []) v.2 :=
  Eq.trans (e_aload_n D127_0 rfl rfl) <| Eq.trans (e_aload_n D127_1 rfl rfl) <| Eq.trans (e_iconst (x := 4) D127_2 rfl rfl) <| e_callV D127_3 rfl o_127 m_11_272 (by decide) rfl rfl
theorem b127_6 {d : Nat} {i0 i1 i2 : Nat} {x3 x4 x5 xs0 : Int} {I L : Nat → Nat → Nat → Int} {t : Nat → Nat} : Res (d + 1) 127 6 [vr 11 i0, vr 3 i1, vr 4 i2, vi x3, vi x4, vi x5, vx, vx, vx, vx, vx] [vi xs0] (mk I L t) = (Cal d 114 [vr 11 i0, vr 3 i1, vi 5] (mk I L t)).bind fun v => Res (d + 1) 127 14 [vr 11 i0, vr 3 i1, vr 4 i2, vi x3, vi x4, vi x5, vi xs0, vx, vx, vx, vx] (psh 114 v.1 []) v.2 :=
  Eq.trans (e_istore (ls1 := [vr 11 i0, vr 3 i1, vr 4 i2, vi x3, vi x4, vi x5, vi xs0, vx, vx, vx, vx]) D127_6 rfl (show 6 < 11 by decide) rfl) <| Eq.trans (e_aload_n D127_8 rfl rfl) <| Eq.trans (e_aload_n D127_9 rfl rfl) <| Eq.trans (e_iconst (x := 5) D127_10 rfl rfl) <| e_callV D127_11 rfl o_127 m_11_272 (by decide) rfl rfl
theorem b127_14 {d : Nat} {i0 i1 i2 : Nat} {x3 x4 x5 x6 xs0 : Int} {I L : Nat → Nat → Nat → Int} {t : Nat → Nat} : Res d 127 14 [vr 11 i0, vr 3 i1, vr 4 i2, vi x3, vi x4, vi x5, vi x6, vx, vx, vx, vx] [vi xs0] (mk I L t) = Res d 127 19 [vr 11 i0, vr 3 i1, vr 4 i2, vi x3, vi x4, vi x5, vi x6, vi xs0, vi 0, vx, vx] [] (mk I L t) :=
  Eq.trans (e_istore (ls1 := [vr 11 i0, vr 3 i1, vr 4 i2, vi x3, vi x4, vi x5, vi x6, vi xs0, vx, vx, vx]) D127_14 rfl (show 7 < 11 by decide) rfl) <| Eq.trans (e_iconst (x := 0) D127_16 rfl rfl) <| e_istore (ls1 := [vr 11 i0, vr 3 i1, vr 4 i2, vi x3, vi x4, vi x5, vi x6, vi xs0, vi 0, vx, vx]) D127_17 rfl (show 8 < 11 by decide) rfl
theorem b127_19 {d : Nat} {i0 i1 i2 : Nat} {x3 x4 x5 x6 x7 x8 : Int} {u9 u10 : MV} {I L : Nat → Nat → Nat → Int} {t : Nat → Nat} : Res d 127 19 [vr 11 i0, vr 3 i1, vr 4 i2, vi x3, vi x4, vi x5, vi x6, vi x7, vi x8, u9, u10] [] (mk I L t) = if 9 ≤ x8 then Res d 127 104 [vr 11 i0, vr 3 i1, vr 4 i2, vi x3, vi x4, vi x5, vi x6, vi x7, vi x8, u9, u10] [] (mk I L t) else Res d 127 26 [vr 11 i0, vr 3 i1, vr 4 i2, vi x3, vi x4, vi x5, vi x6, vi x7, vi x8, u9, u10] [] (mk I L t) :=
  Eq.trans (e_iload D127_19 rfl rfl) <| Eq.trans (e_bipush (x := 9) D127_21 rfl rfl) <| e_icge D127_23 rfl rfl
theorem b127_26 {d : Nat} {i0 i1 i2 : Nat} {x3 x4 x5 x6 x7 x8 : Int} {u9 u10 : MV} {I L : Nat → Nat → Nat → Int} {t : Nat → Nat} : Res (d + 1) 127 26 [vr 11 i0, vr 3 i1, vr 4 i2, vi x3, vi x4, vi x5, vi x6, vi x7, vi x8, u9, u10] [] (mk I L t) = (Cal d 26 [vr 4 i2, vi x8] (mk I L t)).bind fun v => Res (d + 1) 127 32 [vr 11 i0, vr 3 i1, vr 4 i2, vi x3, vi x4, vi x5, vi x6, vi x7, vi x8, u9, u10] (psh 26 v.1 []) v.2 :=
  Eq.trans (e_aload_n D127_26 rfl rfl) <| Eq.trans (e_iload D127_27 rfl rfl) <| e_callV D127_29 rfl o_127 m_11_247 (by decide) rfl rfl
theorem b127_32 {d : Nat} {i0 i1 i2 : Nat} {x3 x4 x5 x6 x7 x8 xs0 : Int} {u9 u10 : MV} {I L : Nat → Nat → Nat → Int} {t : Nat → Nat} : Res d 127 32 [vr 11 i0, vr 3 i1, vr 4 i2, vi x3, vi x4, vi x5, vi x6, vi x7, vi x8, u9, u10] [vi xs0] (mk I L t) = if ¬ xs0 = -1 then Res d 127 44 [vr 11 i0, vr 3 i1, vr 4 i2, vi x3, vi x4, vi x5, vi x6, vi x7, vi x8, vi xs0, u10] [] (mk I L t) else Res d 127 40 [vr 11 i0, vr 3 i1, vr 4 i2, vi x3, vi x4, vi x5, vi x6, vi x7, vi x8, vi xs0, u10] [] (mk I L t) :=
  Eq.trans (e_istore (ls1 := [vr 11 i0, vr 3 i1, vr 4 i2, vi x3, vi x4, vi x5, vi x6, vi x7, vi x8, vi xs0, u10]) D127_32 rfl (show 9 < 11 by decide) rfl) <| Eq.trans (e_iload D127_34 rfl rfl) <| Eq.trans (e_iconst (x := -1) D127_36 rfl rfl) <| e_icne D127_37 rfl rfl
theorem b127_40 {d : Nat} {i0 i1 i2 : Nat} {x3 x4 x5 x6 x7 x8 x9 : Int} {u10 : MV} {I L : Nat → Nat → Nat → Int} {t : Nat → Nat} : Res d 127 40 [vr 11 i0, vr 3 i1, vr 4 i2, vi x3, vi x4, vi x5, vi x6, vi x7, vi x8, vi x9, u10] [] (mk I L t) = Res d 127 63 [vr 11 i0, vr 3 i1, vr 4 i2, vi x3, vi x4, vi x5, vi x6, vi x7, vi x8, vi x9, u10] [vi 0] (mk I L t) :=
  Eq.trans (e_iconst (x := 0) D127_40 rfl rfl) <| e_goto (q1 := 63) D127_41 rfl
theorem b127_44 {d : Nat} {i0 i1 i2 : Nat} {x3 x4 x5 x6 x7 x8 x9 : Int} {u10 : MV} {I L : Nat → Nat → Nat → Int} {t : Nat → Nat} (g1 : 0 ≤ x9 ∧ x9 < 120) : Res (d + 1) 127 44 [vr 11 i0, vr 3 i1, vr 4 i2, vi x3, vi x4, vi x5, vi x6, vi x7, vi x8, vi x9, u10] [] (mk I L t) = (Cal d 115 [vr 11 i0, vr 3 i1, vr 1 x9.toNat] (mk I L t)).bind fun v => Res (d + 1) 127 59 [vr 11 i0, vr 3 i1, vr 4 i2, vi x3, vi x4, vi x5, vi x6, vi x7, vi x8, vi x9, u10] (psh 115 v.1 [vi x6, vi 0]) v.2 :=
  Eq.trans (e_iconst (x := 0) D127_44 rfl rfl) <| Eq.trans (e_iload D127_45 rfl rfl) <| Eq.trans (e_aload_n D127_47 rfl rfl) <| Eq.trans (e_aload_n D127_48 rfl rfl) <| Eq.trans (e_aload_n D127_49 rfl rfl) <| Eq.trans (e_getP (p := (40, i0)) D127_50 rfl o_127 f_11_11 (sh_11 _) (by decide) (pp_11_0 _ _)) <| Eq.trans (e_iload D127_53 rfl rfl) <| Eq.trans (e_aald (p := (1, x9.toNat)) D127_55 rfl (ae_40 _) (aq_40 _) (pa_40 _ _ _) g1) <| e_callV D127_56 rfl o_127 m_11_172 (by decide) rfl rfl
theorem b127_59 {d : Nat} {i0 i1 i2 : Nat} {x3 x4 x5 x6 x7 x8 x9 xs2 xs1 xs0 : Int} {u10 : MV} {I L : Nat → Nat → Nat → Int} {t : Nat → Nat} : Res (d + 1) 127 59 [vr 11 i0, vr 3 i1, vr 4 i2, vi x3, vi x4, vi x5, vi x6, vi x7, vi x8, vi x9, u10] [vi xs2, vi xs1, vi xs0] (mk I L t) = Res (d + 1) 127 63 [vr 11 i0, vr 3 i1, vr 4 i2, vi x3, vi x4, vi x5, vi x6, vi x7, vi x8, vi x9, u10] [vi ((if xs0 < w32 (xs1 - xs2) then w32 (xs1 - xs2) else xs0))] (mk I L t) :=
  Eq.trans (e_isub D127_59 rfl) <| e_max (by omega) D127_60 rfl o_127 m_11_318 (by simp [cw])
theorem b127_63 {d : Nat} {i0 i1 i2 : Nat} {x3 x4 x5 x6 x7 x8 x9 xs0 : Int} {u10 : MV} {I L : Nat → Nat → Nat → Int} {t : Nat → Nat} : Res d 127 63 [vr 11 i0, vr 3 i1, vr 4 i2, vi x3, vi x4, vi x5, vi x6, vi x7, vi x8, vi x9, u10] [vi xs0] (mk I L t) = if x9 = -1 then Res d 127 95 [vr 11 i0, vr 3 i1, vr 4 i2, vi x3, vi x4, vi x5, vi x6, vi x7, vi x8, vi x9, vi xs0] [vi x8, vr 14 0] (mk I L t) else Res d 127 80 [vr 11 i0, vr 3 i1, vr 4 i2, vi x3, vi x4, vi x5, vi x6, vi x7, vi x8, vi x9, vi xs0] [vi x8, vr 14 0] (mk I L t) :=
  Eq.trans (e_istore (ls1 := [vr 11 i0, vr 3 i1, vr 4 i2, vi x3, vi x4, vi x5, vi x6, vi x7, vi x8, vi x9, vi xs0]) D127_63 rfl (show 10 < 11 by decide) rfl) <| Eq.trans (e_aload_n D127_65 rfl rfl) <| Eq.trans (e_getP (p := (0, 0)) D127_66 rfl o_127 f_11_61 (sh_11 _) (by decide) (pp_11_9 _ _)) <| Eq.trans (e_getP (p := (14, 0)) D127_69 rfl o_127 f_11_456 (sh_0 _) (by decide) (pp_0_1 _ _)) <| Eq.trans (e_iload D127_72 rfl rfl) <| Eq.trans (e_iload D127_74 rfl rfl) <| Eq.trans (e_iconst (x := -1) D127_76 rfl rfl) <| e_iceq D127_77 rfl rfl
theorem b127_80 {d : Nat} {i0 i1 i2 is0 : Nat} {x3 x4 x5 x6 x7 x8 x9 x10 xs1 : Int} {I L : Nat → Nat → Nat → Int} {t : Nat → Nat} : Res d 127 80 [vr 11 i0, vr 3 i1, vr 4 i2, vi x3, vi x4, vi x5, vi x6, vi x7, vi x8, vi x9, vi x10] [vi xs1, vr 14 is0] (mk I L t) = if ¬ x8 = x4 then Res d 127 95 [vr 11 i0, vr 3 i1, vr 4 i2, vi x3, vi x4, vi x5, vi x6, vi x7, vi x8, vi x9, vi x10] [vi xs1, vr 14 is0] (mk I L t) else Res d 127 87 [vr 11 i0, vr 3 i1, vr 4 i2, vi x3, vi x4, vi x5, vi x6, vi x7, vi x8, vi x9, vi x10] [vi xs1, vr 14 is0] (mk I L t) :=
  Eq.trans (e_iload D127_80 rfl rfl) <| Eq.trans (e_iload D127_82 rfl rfl) <| e_icne D127_84 rfl rfl
theorem b127_87 {d : Nat} {i0 i1 i2 is0 : Nat} {x3 x4 x5 x6 x7 x8 x9 x10 xs1 : Int} {I L : Nat → Nat → Nat → Int} {t : Nat → Nat} : Res d 127 87 [vr 11 i0, vr 3 i1, vr 4 i2, vi x3, vi x4, vi x5, vi x6, vi x7, vi x8, vi x9, vi x10] [vi xs1, vr 14 is0] (mk I L t) = Res d 127 97 [vr 11 i0, vr 3 i1, vr 4 i2, vi x3, vi x4, vi x5, vi x6, vi x7, vi x8, vi x9, vi x10] [vi (w32 (x10 + x5)), vi xs1, vr 14 is0] (mk I L t) :=
  Eq.trans (e_iload D127_87 rfl rfl) <| Eq.trans (e_iload D127_89 rfl rfl) <| Eq.trans (e_iadd D127_91 rfl) <| e_goto (q1 := 97) D127_92 rfl
theorem b127_95 {d : Nat} {i0 i1 i2 is0 : Nat} {x3 x4 x5 x6 x7 x8 x9 x10 xs1 : Int} {I L : Nat → Nat → Nat → Int} {t : Nat → Nat} : Res d 127 95 [vr 11 i0, vr 3 i1, vr 4 i2, vi x3, vi x4, vi x5, vi x6, vi x7, vi x8, vi x9, vi x10] [vi xs1, vr 14 is0] (mk I L t) = Res d 127 97 [vr 11 i0, vr 3 i1, vr 4 i2, vi x3, vi x4, vi x5, vi x6, vi x7, vi x8, vi x9, vi x10] [vi x10, vi xs1, vr 14 is0] (mk I L t) :=
  e_iload D127_95 rfl rfl
theorem b127_97 {d : Nat} {i0 i1 i2 is0 : Nat} {x3 x4 x5 x6 x7 x8 x9 x10 xs2 xs1 : Int} {I L : Nat → Nat → Nat → Int} {t : Nat → Nat} (g1 : 0 ≤ xs1 ∧ xs1 < 9) : Res d 127 97 [vr 11 i0, vr 3 i1, vr 4 i2, vi x3, vi x4, vi x5, vi x6, vi x7, vi x8, vi x9, vi x10] [vi xs2, vi xs1, vr 14 is0] (mk I L t) = Res d 127 19 [vr 11 i0, vr 3 i1, vr 4 i2, vi x3, vi x4, vi x5, vi x6, vi x7, vi (w32 (x8 + 1)), vi x9, vi x10] [] (mk (up3 I 14 is0 xs1.toNat xs2) L t) :=
  Eq.trans (e_iast D127_97 rfl (al_14 _) rfl g1) <| Eq.trans (e_iinc (ls1 := [vr 11 i0, vr 3 i1, vr 4 i2, vi x3, vi x4, vi x5, vi x6, vi x7, vi (w32 (x8 + 1)), vi x9, vi x10]) D127_98 rfl rfl rfl) <| e_goto (q1 := 19) D127_101 rfl
theorem b127_104 {d : Nat} {i0 i1 i2 : Nat} {x3 x4 x5 x6 x7 x8 : Int} {u9 u10 : MV} {I L : Nat → Nat → Nat → Int} {t : Nat → Nat} : Res d 127 104 [vr 11 i0, vr 3 i1, vr 4 i2, vi x3, vi x4, vi x5, vi x6, vi x7, vi x8, u9, u10] [] (mk I L t) = if ¬ x3 = 1 then Res d 127 117 [vr 11 i0, vr 3 i1, vr 4 i2, vi x3, vi x4, vi x5, vi x6, vi x7, vi x8, u9, u10] [vr 0 0] (mk I L t) else Res d 127 113 [vr 11 i0, vr 3 i1, vr 4 i2, vi x3, vi x4, vi x5, vi x6, vi x7, vi x8, u9, u10] [vr 0 0] (mk I L t) :=
  Eq.trans (e_aload_n D127_104 rfl rfl) <| Eq.trans (e_getP (p := (0, 0)) D127_105 rfl o_127 f_11_61 (sh_11 _) (by decide) (pp_11_9 _ _)) <| Eq.trans (e_iload_n D127_108 rfl rfl) <| Eq.trans (e_iconst (x := 1) D127_109 rfl rfl) <| e_icne D127_110 rfl rfl
theorem b127_113 {d : Nat} {i0 i1 i2 is0 : Nat} {x3 x4 x5 x6 x7 x8 : Int} {u9 u10 : MV} {I L : Nat → Nat → Nat → Int} {t : Nat → Nat} : Res d 127 113 [vr 11 i0, vr 3 i1, vr 4 i2, vi x3, vi x4, vi x5, vi x6, vi x7, vi x8, u9, u10] [vr 0 is0] (mk I L t) = Res d 127 118 [vr 11 i0, vr 3 i1, vr 4 i2, vi x3, vi x4, vi x5, vi x6, vi x7, vi x8, u9, u10] [vi 1, vr 0 is0] (mk I L t) :=
  Eq.trans (e_iconst (x := 1) D127_113 rfl rfl) <| e_goto (q1 := 118) D127_114 rfl
theorem b127_117 {d : Nat} {i0 i1 i2 is0 : Nat} {x3 x4 x5 x6 x7 x8 : Int} {u9 u10 : MV} {I L : Nat → Nat → Nat → Int} {t : Nat → Nat} : Res d 127 117 [vr 11 i0, vr 3 i1, vr 4 i2, vi x3, vi x4, vi x5, vi x6, vi x7, vi x8, u9, u10] [vr 0 is0] (mk I L t) = Res d 127 118 [vr 11 i0, vr 3 i1, vr 4 i2, vi x3, vi x4, vi x5, vi x6, vi x7, vi x8, u9, u10] [vi 0, vr 0 is0] (mk I L t) :=
  e_iconst (x := 0) D127_117 rfl rfl
theorem b127_118 {d : Nat} {i0 i1 i2 is0 : Nat} {x3 x4 x5 x6 x7 x8 xs1 : Int} {u9 u10 : MV} {I L : Nat → Nat → Nat → Int} {t : Nat → Nat} : Res (d + 1) 127 118 [vr 11 i0, vr 3 i1, vr 4 i2, vi x3, vi x4, vi x5, vi x6, vi x7, vi x8, u9, u10] [vi xs1, vr 0 is0] (mk I L t) = (Cal d 2 [vr 0 is0, vi xs1, vi x7] (mk I L t)).bind fun v => Res (d + 1) 127 123 [vr 11 i0, vr 3 i1, vr 4 i2, vi x3, vi x4, vi x5, vi x6, vi x7, vi x8, u9, u10] (psh 2 v.1 []) v.2 :=
  Eq.trans (e_iload D127_118 rfl rfl) <| e_callV D127_120 rfl o_127 m_11_459 (by decide) rfl rfl
theorem b127_123 {d : Nat} {i0 i1 i2 : Nat} {x3 x4 x5 x6 x7 x8 : Int} {u9 u10 : MV} {I L : Nat → Nat → Nat → Int} {t : Nat → Nat} : Res d 127 123 [vr 11 i0, vr 3 i1, vr 4 i2, vi x3, vi x4, vi x5, vi x6, vi x7, vi x8, u9, u10] [] (mk I L t) = some (vx, (mk I L t)) :=
  e_vret D127_123 rfl
/-! x_oddsOfPick -/
theorem cc_128 : cod 128 = cX11_oddsOfPick := rfl
theorem D128_0 : decode (cod 128) 0 = .ok (.aload_n 0, 1) := by rw [cc_128]; decide +kernel
theorem D128_1 : decode (cod 128) 1 = .ok (.aload_n 1, 1) := by rw [cc_128]; decide +kernel
theorem D128_2 : decode (cod 128) 2 = .ok (.aload_n 2, 1) := by rw [cc_128]; decide +kernel
theorem D128_3 : decode (cod 128) 3 = .ok (.getfield 206, 3) := by rw [cc_128]; decide +kernel
theorem D128_6 : decode (cod 128) 6 = .ok (.aload_n 2, 1) := by rw [cc_128]; decide +kernel
theorem D128_7 : decode (cod 128) 7 = .ok (.getfield 200, 3) := by rw [cc_128]; decide +kernel
theorem D128_10 : decode (cod 128) 10 = .ok (.aload_n 2, 1) := by rw [cc_128]; decide +kernel
theorem D128_11 : decode (cod 128) 11 = .ok (.getfield 214, 3) := by rw [cc_128]; decide +kernel
theorem D128_14 : decode (cod 128) 14 = .ok (.aload_n 2, 1) := by rw [cc_128]; decide +kernel
theorem D128_15 : decode (cod 128) 15 = .ok (.getfield 217, 3) := by rw [cc_128]; decide +kernel
theorem D128_18 : decode (cod 128) 18 = .ok (.invokevirtual 183, 3) := by rw [cc_128]; decide +kernel
theorem D128_21 : decode (cod 128) 21 = .ok (.aload_n 0, 1) := by rw [cc_128]; decide +kernel
theorem D128_22 : decode (cod 128) 22 = .ok (.getfield 61, 3) := by rw [cc_128]; decide +kernel
theorem D128_25 : decode (cod 128) 25 = .ok (.aload_n 2, 1) := by rw [cc_128]; decide +kernel
theorem D128_26 : decode (cod 128) 26 = .ok (.getfield 220, 3) := by rw [cc_128]; decide +kernel
theorem D128_29 : decode (cod 128) 29 = .ok (.invokevirtual 187, 3) := by rw [cc_128]; decide +kernel
theorem D128_32 : decode (cod 128) 32 = .ok (.ireturn, 1) := by rw [cc_128]; decide +kernel
theorem b128_0 {d : Nat} {i0 i1 i2 : Nat} {I L : Nat → Nat → Nat → Int} {t : Nat → Nat} : Res (d + 1) 128 0 [vr 11 i0, vr 3 i1, vr 6 i2] [] (mk I L t) = (Cal d 127 [vr 11 i0, vr 3 i1, vr 4 (6 + i2), vi (I 6 i2 2), vi (I 6 i2 4), vi (I 6 i2 5)] (mk I L t)).bind fun v => Res (d + 1) 128 21 [vr 11 i0, vr 3 i1, vr 6 i2] (psh 127 v.1 []) v.2 :=
  Eq.trans (e_aload_n D128_0 rfl rfl) <| Eq.trans (e_aload_n D128_1 rfl rfl) <| Eq.trans (e_aload_n D128_2 rfl rfl) <| Eq.trans (e_getP (p := (4, 6 + i2)) D128_3 rfl o_128 f_11_206 (sh_6 _) (by decide) (pp_6_0 _ _)) <| Eq.trans (e_aload_n D128_6 rfl rfl) <| Eq.trans (e_getI D128_7 rfl o_128 f_11_200 (sh_6 _) (by decide)) <| Eq.trans (e_aload_n D128_10 rfl rfl) <| Eq.trans (e_getI D128_11 rfl o_128 f_11_214 (sh_6 _) (by decide)) <| Eq.trans (e_aload_n D128_14 rfl rfl) <| Eq.trans (e_getI D128_15 rfl o_128 f_11_217 (sh_6 _) (by decide)) <| e_callV D128_18 rfl o_128 m_11_183 (by decide) rfl rfl
theorem b128_21 {d : Nat} {i0 i1 i2 : Nat} {I L : Nat → Nat → Nat → Int} {t : Nat → Nat} : Res (d + 1) 128 21 [vr 11 i0, vr 3 i1, vr 6 i2] [] (mk I L t) = (Cal d 1 [vr 0 0, vi (I 6 i2 6)] (mk I L t)).bind fun v => Res (d + 1) 128 32 [vr 11 i0, vr 3 i1, vr 6 i2] (psh 1 v.1 []) v.2 :=
  Eq.trans (e_aload_n D128_21 rfl rfl) <| Eq.trans (e_getP (p := (0, 0)) D128_22 rfl o_128 f_11_61 (sh_11 _) (by decide) (pp_11_9 _ _)) <| Eq.trans (e_aload_n D128_25 rfl rfl) <| Eq.trans (e_getI D128_26 rfl o_128 f_11_220 (sh_6 _) (by decide)) <| e_callV D128_29 rfl o_128 m_11_187 (by decide) rfl rfl
theorem b128_32 {d : Nat} {i0 i1 i2 : Nat} {xs0 : Int} {I L : Nat → Nat → Nat → Int} {t : Nat → Nat} : Res d 128 32 [vr 11 i0, vr 3 i1, vr 6 i2] [vi xs0] (mk I L t) = some (vi xs0, (mk I L t)) :=
  e_iret D128_32 rfl
/-! x_mockOdds -/
theorem cc_129 : cod 129 = cX11_mockOdds := rfl
theorem D129_0 : decode (cod 129) 0 = .ok (.iconst (-1), 1) := by rw [cc_129]; decide +kernel
theorem D129_1 : decode (cod 129) 1 = .ok (.istore_n 3, 1) := by rw [cc_129]; decide +kernel
theorem D129_2 : decode (cod 129) 2 = .ok (.iconst (-1), 1) := by rw [cc_129]; decide +kernel
theorem D129_3 : decode (cod 129) 3 = .ok (.istore 4, 2) := by rw [cc_129]; decide +kernel
theorem D129_5 : decode (cod 129) 5 = .ok (.iconst 0, 1) := by rw [cc_129]; decide +kernel
theorem D129_6 : decode (cod 129) 6 = .ok (.istore 5, 2) := by rw [cc_129]; decide +kernel
theorem D129_8 : decode (cod 129) 8 = .ok (.iconst 0, 1) := by rw [cc_129]; decide +kernel
theorem D129_9 : decode (cod 129) 9 = .ok (.istore 6, 2) := by rw [cc_129]; decide +kernel
theorem D129_11 : decode (cod 129) 11 = .ok (.iload 6, 2) := by rw [cc_129]; decide +kernel
theorem D129_13 : decode (cod 129) 13 = .ok (.bipush 9, 2) := by rw [cc_129]; decide +kernel
theorem D129_15 : decode (cod 129) 15 = .ok (.if_icmp .ge 92, 3) := by rw [cc_129]; decide +kernel
theorem D129_18 : decode (cod 129) 18 = .ok (.aload_n 1, 1) := by rw [cc_129]; decide +kernel
theorem D129_19 : decode (cod 129) 19 = .ok (.iload 6, 2) := by rw [cc_129]; decide +kernel
theorem D129_21 : decode (cod 129) 21 = .ok (.invokevirtual 247, 3) := by rw [cc_129]; decide +kernel
theorem D129_24 : decode (cod 129) 24 = .ok (.istore 7, 2) := by rw [cc_129]; decide +kernel
theorem D129_26 : decode (cod 129) 26 = .ok (.iload 7, 2) := by rw [cc_129]; decide +kernel
theorem D129_28 : decode (cod 129) 28 = .ok (.iconst (-1), 1) := by rw [cc_129]; decide +kernel
theorem D129_29 : decode (cod 129) 29 = .ok (.if_icmp .ne 6, 3) := by rw [cc_129]; decide +kernel
theorem D129_32 : decode (cod 129) 32 = .ok (.goto 69, 3) := by rw [cc_129]; decide +kernel
theorem D129_35 : decode (cod 129) 35 = .ok (.aload_n 0, 1) := by rw [cc_129]; decide +kernel
theorem D129_36 : decode (cod 129) 36 = .ok (.getfield 29, 3) := by rw [cc_129]; decide +kernel
theorem D129_39 : decode (cod 129) 39 = .ok (.getfield 304, 3) := by rw [cc_129]; decide +kernel
theorem D129_42 : decode (cod 129) 42 = .ok (.aload_n 0, 1) := by rw [cc_129]; decide +kernel
theorem D129_43 : decode (cod 129) 43 = .ok (.getfield 11, 3) := by rw [cc_129]; decide +kernel
theorem D129_46 : decode (cod 129) 46 = .ok (.iload 7, 2) := by rw [cc_129]; decide +kernel
theorem D129_48 : decode (cod 129) 48 = .ok (.aaload, 1) := by rw [cc_129]; decide +kernel
theorem D129_49 : decode (cod 129) 49 = .ok (.getfield 98, 3) := by rw [cc_129]; decide +kernel
theorem D129_52 : decode (cod 129) 52 = .ok (.invokevirtual 308, 3) := by rw [cc_129]; decide +kernel
theorem D129_55 : decode (cod 129) 55 = .ok (.istore 8, 2) := by rw [cc_129]; decide +kernel
theorem D129_57 : decode (cod 129) 57 = .ok (.iload 6, 2) := by rw [cc_129]; decide +kernel
theorem D129_59 : decode (cod 129) 59 = .ok (.iload_n 2, 1) := by rw [cc_129]; decide +kernel
theorem D129_60 : decode (cod 129) 60 = .ok (.if_icmp .ne 8, 3) := by rw [cc_129]; decide +kernel
theorem D129_63 : decode (cod 129) 63 = .ok (.iload 8, 2) := by rw [cc_129]; decide +kernel
theorem D129_65 : decode (cod 129) 65 = .ok (.goto 4, 3) := by rw [cc_129]; decide +kernel
theorem D129_68 : decode (cod 129) 68 = .ok (.iload_n 3, 1) := by rw [cc_129]; decide +kernel
theorem D129_69 : decode (cod 129) 69 = .ok (.istore_n 3, 1) := by rw [cc_129]; decide +kernel
theorem D129_70 : decode (cod 129) 70 = .ok (.iload 8, 2) := by rw [cc_129]; decide +kernel
theorem D129_72 : decode (cod 129) 72 = .ok (.iload 4, 2) := by rw [cc_129]; decide +kernel
theorem D129_74 : decode (cod 129) 74 = .ok (.if_icmp .le 10, 3) := by rw [cc_129]; decide +kernel
theorem D129_77 : decode (cod 129) 77 = .ok (.iload 8, 2) := by rw [cc_129]; decide +kernel
theorem D129_79 : decode (cod 129) 79 = .ok (.istore 4, 2) := by rw [cc_129]; decide +kernel
theorem D129_81 : decode (cod 129) 81 = .ok (.iconst 0, 1) := by rw [cc_129]; decide +kernel
theorem D129_82 : decode (cod 129) 82 = .ok (.istore 5, 2) := by rw [cc_129]; decide +kernel
theorem D129_84 : decode (cod 129) 84 = .ok (.iload 5, 2) := by rw [cc_129]; decide +kernel
theorem D129_86 : decode (cod 129) 86 = .ok (.iload 8, 2) := by rw [cc_129]; decide +kernel
theorem D129_88 : decode (cod 129) 88 = .ok (.iload 4, 2) := by rw [cc_129]; decide +kernel
theorem D129_90 : decode (cod 129) 90 = .ok (.if_icmp .ne 7, 3) := by rw [cc_129]; decide +kernel
theorem D129_93 : decode (cod 129) 93 = .ok (.iconst 1, 1) := by rw [cc_129]; decide +kernel
theorem D129_94 : decode (cod 129) 94 = .ok (.goto 4, 3) := by rw [cc_129]; decide +kernel
theorem D129_97 : decode (cod 129) 97 = .ok (.iconst 0, 1) := by rw [cc_129]; decide +kernel
theorem D129_98 : decode (cod 129) 98 = .ok (.iadd, 1) := by rw [cc_129]; decide +kernel
theorem D129_99 : decode (cod 129) 99 = .ok (.istore 5, 2) := by rw [cc_129]; decide +kernel
theorem D129_101 : decode (cod 129) 101 = .ok (.iinc 6 1, 3) := by rw [cc_129]; decide +kernel
theorem D129_104 : decode (cod 129) 104 = .ok (.goto (-93), 3) := by rw [cc_129]; decide +kernel
theorem D129_107 : decode (cod 129) 107 = .ok (.iload_n 3, 1) := by rw [cc_129]; decide +kernel
theorem D129_108 : decode (cod 129) 108 = .ok (.iload 4, 2) := by rw [cc_129]; decide +kernel
theorem D129_110 : decode (cod 129) 110 = .ok (.if_icmp .ne 17, 3) := by rw [cc_129]; decide +kernel
theorem D129_113 : decode (cod 129) 113 = .ok (.iload 5, 2) := by rw [cc_129]; decide +kernel
theorem D129_115 : decode (cod 129) 115 = .ok (.ifCond .le 12, 3) := by rw [cc_129]; decide +kernel
theorem D129_118 : decode (cod 129) 118 = .ok (.ldc_w 317, 3) := by rw [cc_129]; decide +kernel
theorem D129_121 : decode (cod 129) 121 = .ok (.iload 5, 2) := by rw [cc_129]; decide +kernel
theorem D129_123 : decode (cod 129) 123 = .ok (.idiv, 1) := by rw [cc_129]; decide +kernel
theorem D129_124 : decode (cod 129) 124 = .ok (.goto 4, 3) := by rw [cc_129]; decide +kernel
theorem D129_127 : decode (cod 129) 127 = .ok (.iconst 0, 1) := by rw [cc_129]; decide +kernel
theorem D129_128 : decode (cod 129) 128 = .ok (.ireturn, 1) := by rw [cc_129]; decide +kernel
theorem b129_0 {d : Nat} {i0 i1 : Nat} {x2 : Int} {I L : Nat → Nat → Nat → Int} {t : Nat → Nat} : Res d 129 0 [vr 11 i0, vr 4 i1, vi x2, vx, vx, vx, vx, vx, vx] [] (mk I L t) = Res d 129 11 [vr 11 i0, vr 4 i1, vi x2, vi (-1), vi (-1), vi 0, vi 0, vx, vx] [] (mk I L t) :=
  Eq.trans (e_iconst (x := -1) D129_0 rfl rfl) <| Eq.trans (e_istore_n (ls1 := [vr 11 i0, vr 4 i1, vi x2, vi (-1), vx, vx, vx, vx, vx]) D129_1 rfl (show 3 < 9 by decide) rfl) <| Eq.trans (e_iconst (x := -1) D129_2 rfl rfl) <| Eq.trans (e_istore (ls1 := [vr 11 i0, vr 4 i1, vi x2, vi (-1), vi (-1), vx, vx, vx, vx]) D129_3 rfl (show 4 < 9 by decide) rfl) <| Eq.trans (e_iconst (x := 0) D129_5 rfl rfl) <| Eq.trans (e_istore (ls1 := [vr 11 i0, vr 4 i1, vi x2, vi (-1), vi (-1), vi 0, vx, vx, vx]) D129_6 rfl (show 5 < 9 by decide) rfl) <| Eq.trans (e_iconst (x := 0) D129_8 rfl rfl) <| e_istore (ls1 := [vr 11 i0, vr 4 i1, vi x2, vi (-1), vi (-1), vi 0, vi 0, vx, vx]) D129_9 rfl (show 6 < 9 by decide) rfl
theorem b129_11 {d : Nat} {i0 i1 : Nat} {x2 x3 x4 x5 x6 : Int} {u7 u8 : MV} {I L : Nat → Nat → Nat → Int} {t : Nat → Nat} : Res d 129 11 [vr 11 i0, vr 4 i1, vi x2, vi x3, vi x4, vi x5, vi x6, u7, u8] [] (mk I L t) = if 9 ≤ x6 then Res d 129 107 [vr 11 i0, vr 4 i1, vi x2, vi x3, vi x4, vi x5, vi x6, u7, u8] [] (mk I L t) else Res d 129 18 [vr 11 i0, vr 4 i1, vi x2, vi x3, vi x4, vi x5, vi x6, u7, u8] [] (mk I L t) :=
  Eq.trans (e_iload D129_11 rfl rfl) <| Eq.trans (e_bipush (x := 9) D129_13 rfl rfl) <| e_icge D129_15 rfl rfl
theorem b129_18 {d : Nat} {i0 i1 : Nat} {x2 x3 x4 x5 x6 : Int} {u7 u8 : MV} {I L : Nat → Nat → Nat → Int} {t : Nat → Nat} : Res (d + 1) 129 18 [vr 11 i0, vr 4 i1, vi x2, vi x3, vi x4, vi x5, vi x6, u7, u8] [] (mk I L t) = (Cal d 26 [vr 4 i1, vi x6] (mk I L t)).bind fun v => Res (d + 1) 129 24 [vr 11 i0, vr 4 i1, vi x2, vi x3, vi x4, vi x5, vi x6, u7, u8] (psh 26 v.1 []) v.2 :=
  Eq.trans (e_aload_n D129_18 rfl rfl) <| Eq.trans (e_iload D129_19 rfl rfl) <| e_callV D129_21 rfl o_129 m_11_247 (by decide) rfl rfl
theorem b129_24 {d : Nat} {i0 i1 : Nat} {x2 x3 x4 x5 x6 xs0 : Int} {u7 u8 : MV} {I L : Nat → Nat → Nat → Int} {t : Nat → Nat} : Res d 129 24 [vr 11 i0, vr 4 i1, vi x2, vi x3, vi x4, vi x5, vi x6, u7, u8] [vi xs0] (mk I L t) = if ¬ xs0 = -1 then Res d 129 35 [vr 11 i0, vr 4 i1, vi x2, vi x3, vi x4, vi x5, vi x6, vi xs0, u8] [] (mk I L t) else Res d 129 32 [vr 11 i0, vr 4 i1, vi x2, vi x3, vi x4, vi x5, vi x6, vi xs0, u8] [] (mk I L t) :=
  Eq.trans (e_istore (ls1 := [vr 11 i0, vr 4 i1, vi x2, vi x3, vi x4, vi x5, vi x6, vi xs0, u8]) D129_24 rfl (show 7 < 9 by decide) rfl) <| Eq.trans (e_iload D129_26 rfl rfl) <| Eq.trans (e_iconst (x := -1) D129_28 rfl rfl) <| e_icne D129_29 rfl rfl
theorem b129_32 {d : Nat} {i0 i1 : Nat} {x2 x3 x4 x5 x6 x7 : Int} {u8 : MV} {I L : Nat → Nat → Nat → Int} {t : Nat → Nat} : Res d 129 32 [vr 11 i0, vr 4 i1, vi x2, vi x3, vi x4, vi x5, vi x6, vi x7, u8] [] (mk I L t) = Res d 129 101 [vr 11 i0, vr 4 i1, vi x2, vi x3, vi x4, vi x5, vi x6, vi x7, u8] [] (mk I L t) :=
  e_goto (q1 := 101) D129_32 rfl
theorem b129_35 {d : Nat} {i0 i1 : Nat} {x2 x3 x4 x5 x6 x7 : Int} {u8 : MV} {I L : Nat → Nat → Nat → Int} {t : Nat → Nat} (g1 : 0 ≤ x7 ∧ x7 < 120) : Res (d + 1) 129 35 [vr 11 i0, vr 4 i1, vi x2, vi x3, vi x4, vi x5, vi x6, vi x7, u8] [] (mk I L t) = (Cal d 31 [vr 5 (t 10), vr 22 x7.toNat] (mk I L t)).bind fun v => Res (d + 1) 129 55 [vr 11 i0, vr 4 i1, vi x2, vi x3, vi x4, vi x5, vi x6, vi x7, u8] (psh 31 v.1 []) v.2 :=
  Eq.trans (e_aload_n D129_35 rfl rfl) <| Eq.trans (e_getP (p := (8, 0)) D129_36 rfl o_129 f_11_29 (sh_11 _) (by decide) (pp_11_3 _ _)) <| Eq.trans (e_getP (p := (5, t 10)) D129_39 rfl o_129 f_11_304 (sh_8 _) (by decide) (pp_8_3 _)) <| Eq.trans (e_aload_n D129_42 rfl rfl) <| Eq.trans (e_getP (p := (40, i0)) D129_43 rfl o_129 f_11_11 (sh_11 _) (by decide) (pp_11_0 _ _)) <| Eq.trans (e_iload D129_46 rfl rfl) <| Eq.trans (e_aald (p := (1, x7.toNat)) D129_48 rfl (ae_40 _) (aq_40 _) (pa_40 _ _ _) g1) <| Eq.trans (e_getP (p := (22, x7.toNat)) D129_49 rfl o_129 f_11_98 (sh_1 _) (by decide) (pp_1_0 _ _)) <| e_callV D129_52 rfl o_129 m_11_308 (by decide) rfl rfl
theorem b129_55 {d : Nat} {i0 i1 : Nat} {x2 x3 x4 x5 x6 x7 xs0 : Int} {u8 : MV} {I L : Nat → Nat → Nat → Int} {t : Nat → Nat} : Res d 129 55 [vr 11 i0, vr 4 i1, vi x2, vi x3, vi x4, vi x5, vi x6, vi x7, u8] [vi xs0] (mk I L t) = if ¬ x6 = x2 then Res d 129 68 [vr 11 i0, vr 4 i1, vi x2, vi x3, vi x4, vi x5, vi x6, vi x7, vi xs0] [] (mk I L t) else Res d 129 63 [vr 11 i0, vr 4 i1, vi x2, vi x3, vi x4, vi x5, vi x6, vi x7, vi xs0] [] (mk I L t) :=
  Eq.trans (e_istore (ls1 := [vr 11 i0, vr 4 i1, vi x2, vi x3, vi x4, vi x5, vi x6, vi x7, vi xs0]) D129_55 rfl (show 8 < 9 by decide) rfl) <| Eq.trans (e_iload D129_57 rfl rfl) <| Eq.trans (e_iload_n D129_59 rfl rfl) <| e_icne D129_60 rfl rfl
theorem b129_63 {d : Nat} {i0 i1 : Nat} {x2 x3 x4 x5 x6 x7 x8 : Int} {I L : Nat → Nat → Nat → Int} {t : Nat → Nat} : Res d 129 63 [vr 11 i0, vr 4 i1, vi x2, vi x3, vi x4, vi x5, vi x6, vi x7, vi x8] [] (mk I L t) = Res d 129 69 [vr 11 i0, vr 4 i1, vi x2, vi x3, vi x4, vi x5, vi x6, vi x7, vi x8] [vi x8] (mk I L t) :=
  Eq.trans (e_iload D129_63 rfl rfl) <| e_goto (q1 := 69) D129_65 rfl
theorem b129_68 {d : Nat} {i0 i1 : Nat} {x2 x3 x4 x5 x6 x7 x8 : Int} {I L : Nat → Nat → Nat → Int} {t : Nat → Nat} : Res d 129 68 [vr 11 i0, vr 4 i1, vi x2, vi x3, vi x4, vi x5, vi x6, vi x7, vi x8] [] (mk I L t) = Res d 129 69 [vr 11 i0, vr 4 i1, vi x2, vi x3, vi x4, vi x5, vi x6, vi x7, vi x8] [vi x3] (mk I L t) :=
  e_iload_n D129_68 rfl rfl
theorem b129_69 {d : Nat} {i0 i1 : Nat} {x2 x3 x4 x5 x6 x7 x8 xs0 : Int} {I L : Nat → Nat → Nat → Int} {t : Nat → Nat} : Res d 129 69 [vr 11 i0, vr 4 i1, vi x2, vi x3, vi x4, vi x5, vi x6, vi x7, vi x8] [vi xs0] (mk I L t) = if x8 ≤ x4 then Res d 129 84 [vr 11 i0, vr 4 i1, vi x2, vi xs0, vi x4, vi x5, vi x6, vi x7, vi x8] [] (mk I L t) else Res d 129 77 [vr 11 i0, vr 4 i1, vi x2, vi xs0, vi x4, vi x5, vi x6, vi x7, vi x8] [] (mk I L t) :=
  Eq.trans (e_istore_n (ls1 := [vr 11 i0, vr 4 i1, vi x2, vi xs0, vi x4, vi x5, vi x6, vi x7, vi x8]) D129_69 rfl (show 3 < 9 by decide) rfl) <| Eq.trans (e_iload D129_70 rfl rfl) <| Eq.trans (e_iload D129_72 rfl rfl) <| e_icle D129_74 rfl rfl
theorem b129_77 {d : Nat} {i0 i1 : Nat} {x2 x3 x4 x5 x6 x7 x8 : Int} {I L : Nat → Nat → Nat → Int} {t : Nat → Nat} : Res d 129 77 [vr 11 i0, vr 4 i1, vi x2, vi x3, vi x4, vi x5, vi x6, vi x7, vi x8] [] (mk I L t) = Res d 129 84 [vr 11 i0, vr 4 i1, vi x2, vi x3, vi x8, vi 0, vi x6, vi x7, vi x8] [] (mk I L t) :=
  Eq.trans (e_iload D129_77 rfl rfl) <| Eq.trans (e_istore (ls1 := [vr 11 i0, vr 4 i1, vi x2, vi x3, vi x8, vi x5, vi x6, vi x7, vi x8]) D129_79 rfl (show 4 < 9 by decide) rfl) <| Eq.trans (e_iconst (x := 0) D129_81 rfl rfl) <| e_istore (ls1 := [vr 11 i0, vr 4 i1, vi x2, vi x3, vi x8, vi 0, vi x6, vi x7, vi x8]) D129_82 rfl (show 5 < 9 by decide) rfl
theorem b129_84 {d : Nat} {i0 i1 : Nat} {x2 x3 x4 x5 x6 x7 x8 : Int} {I L : Nat → Nat → Nat → Int} {t : Nat → Nat} : Res d 129 84 [vr 11 i0, vr 4 i1, vi x2, vi x3, vi x4, vi x5, vi x6, vi x7, vi x8] [] (mk I L t) = if ¬ x8 = x4 then Res d 129 97 [vr 11 i0, vr 4 i1, vi x2, vi x3, vi x4, vi x5, vi x6, vi x7, vi x8] [vi x5] (mk I L t) else Res d 129 93 [vr 11 i0, vr 4 i1, vi x2, vi x3, vi x4, vi x5, vi x6, vi x7, vi x8] [vi x5] (mk I L t) :=
  Eq.trans (e_iload D129_84 rfl rfl) <| Eq.trans (e_iload D129_86 rfl rfl) <| Eq.trans (e_iload D129_88 rfl rfl) <| e_icne D129_90 rfl rfl
theorem b129_93 {d : Nat} {i0 i1 : Nat} {x2 x3 x4 x5 x6 x7 x8 xs0 : Int} {I L : Nat → Nat → Nat → Int} {t : Nat → Nat} : Res d 129 93 [vr 11 i0, vr 4 i1, vi x2, vi x3, vi x4, vi x5, vi x6, vi x7, vi x8] [vi xs0] (mk I L t) = Res d 129 98 [vr 11 i0, vr 4 i1, vi x2, vi x3, vi x4, vi x5, vi x6, vi x7, vi x8] [vi 1, vi xs0] (mk I L t) :=
  Eq.trans (e_iconst (x := 1) D129_93 rfl rfl) <| e_goto (q1 := 98) D129_94 rfl
theorem b129_97 {d : Nat} {i0 i1 : Nat} {x2 x3 x4 x5 x6 x7 x8 xs0 : Int} {I L : Nat → Nat → Nat → Int} {t : Nat → Nat} : Res d 129 97 [vr 11 i0, vr 4 i1, vi x2, vi x3, vi x4, vi x5, vi x6, vi x7, vi x8] [vi xs0] (mk I L t) = Res d 129 98 [vr 11 i0, vr 4 i1, vi x2, vi x3, vi x4, vi x5, vi x6, vi x7, vi x8] [vi 0, vi xs0] (mk I L t) :=
  e_iconst (x := 0) D129_97 rfl rfl
theorem b129_98 {d : Nat} {i0 i1 : Nat} {x2 x3 x4 x5 x6 x7 x8 xs1 xs0 : Int} {I L : Nat → Nat → Nat → Int} {t : Nat → Nat} : Res d 129 98 [vr 11 i0, vr 4 i1, vi x2, vi x3, vi x4, vi x5, vi x6, vi x7, vi x8] [vi xs1, vi xs0] (mk I L t) = Res d 129 101 [vr 11 i0, vr 4 i1, vi x2, vi x3, vi x4, vi (w32 (xs0 + xs1)), vi x6, vi x7, vi x8] [] (mk I L t) :=
  Eq.trans (e_iadd D129_98 rfl) <| e_istore (ls1 := [vr 11 i0, vr 4 i1, vi x2, vi x3, vi x4, vi (w32 (xs0 + xs1)), vi x6, vi x7, vi x8]) D129_99 rfl (show 5 < 9 by decide) rfl
theorem b129_101 {d : Nat} {i0 i1 : Nat} {x2 x3 x4 x5 x6 x7 : Int} {u8 : MV} {I L : Nat → Nat → Nat → Int} {t : Nat → Nat} : Res d 129 101 [vr 11 i0, vr 4 i1, vi x2, vi x3, vi x4, vi x5, vi x6, vi x7, u8] [] (mk I L t) = Res d 129 11 [vr 11 i0, vr 4 i1, vi x2, vi x3, vi x4, vi x5, vi (w32 (x6 + 1)), vi x7, u8] [] (mk I L t) :=
  Eq.trans (e_iinc (ls1 := [vr 11 i0, vr 4 i1, vi x2, vi x3, vi x4, vi x5, vi (w32 (x6 + 1)), vi x7, u8]) D129_101 rfl rfl rfl) <| e_goto (q1 := 11) D129_104 rfl
theorem b129_107 {d : Nat} {i0 i1 : Nat} {x2 x3 x4 x5 x6 : Int} {u7 u8 : MV} {I L : Nat → Nat → Nat → Int} {t : Nat → Nat} : Res d 129 107 [vr 11 i0, vr 4 i1, vi x2, vi x3, vi x4, vi x5, vi x6, u7, u8] [] (mk I L t) = if ¬ x3 = x4 then Res d 129 127 [vr 11 i0, vr 4 i1, vi x2, vi x3, vi x4, vi x5, vi x6, u7, u8] [] (mk I L t) else Res d 129 113 [vr 11 i0, vr 4 i1, vi x2, vi x3, vi x4, vi x5, vi x6, u7, u8] [] (mk I L t) :=
  Eq.trans (e_iload_n D129_107 rfl rfl) <| Eq.trans (e_iload D129_108 rfl rfl) <| e_icne D129_110 rfl rfl
theorem b129_113 {d : Nat} {i0 i1 : Nat} {x2 x3 x4 x5 x6 : Int} {u7 u8 : MV} {I L : Nat → Nat → Nat → Int} {t : Nat → Nat} : Res d 129 113 [vr 11 i0, vr 4 i1, vi x2, vi x3, vi x4, vi x5, vi x6, u7, u8] [] (mk I L t) = if x5 ≤ 0 then Res d 129 127 [vr 11 i0, vr 4 i1, vi x2, vi x3, vi x4, vi x5, vi x6, u7, u8] [] (mk I L t) else Res d 129 118 [vr 11 i0, vr 4 i1, vi x2, vi x3, vi x4, vi x5, vi x6, u7, u8] [] (mk I L t) :=
  Eq.trans (e_iload D129_113 rfl rfl) <| e_ifle D129_115 rfl rfl
theorem b129_118 {d : Nat} {i0 i1 : Nat} {x2 x3 x4 x5 x6 : Int} {u7 u8 : MV} {I L : Nat → Nat → Nat → Int} {t : Nat → Nat} (g1 : x5 ≠ 0) : Res d 129 118 [vr 11 i0, vr 4 i1, vi x2, vi x3, vi x4, vi x5, vi x6, u7, u8] [] (mk I L t) = Res d 129 128 [vr 11 i0, vr 4 i1, vi x2, vi x3, vi x4, vi x5, vi x6, u7, u8] [vi (vIdiv 1000000 x5)] (mk I L t) :=
  Eq.trans (e_ldc_w (x := 1000000) D129_118 rfl o_129 i_11_317 rfl) <| Eq.trans (e_iload D129_121 rfl rfl) <| Eq.trans (e_idiv D129_123 rfl g1) <| e_goto (q1 := 128) D129_124 rfl
theorem b129_127 {d : Nat} {i0 i1 : Nat} {x2 x3 x4 x5 x6 : Int} {u7 u8 : MV} {I L : Nat → Nat → Nat → Int} {t : Nat → Nat} : Res d 129 127 [vr 11 i0, vr 4 i1, vi x2, vi x3, vi x4, vi x5, vi x6, u7, u8] [] (mk I L t) = Res d 129 128 [vr 11 i0, vr 4 i1, vi x2, vi x3, vi x4, vi x5, vi x6, u7, u8] [vi 0] (mk I L t) :=
  e_iconst (x := 0) D129_127 rfl rfl
theorem b129_128 {d : Nat} {i0 i1 : Nat} {x2 x3 x4 x5 x6 xs0 : Int} {u7 u8 : MV} {I L : Nat → Nat → Nat → Int} {t : Nat → Nat} : Res d 129 128 [vr 11 i0, vr 4 i1, vi x2, vi x3, vi x4, vi x5, vi x6, u7, u8] [vi xs0] (mk I L t) = some (vi xs0, (mk I L t)) :=
  e_iret D129_128 rfl
/-! x_startFillers -/
theorem cc_130 : cod 130 = cX11_startFillers := rfl
theorem D130_0 : decode (cod 130) 0 = .ok (.iconst 0, 1) := by rw [cc_130]; decide +kernel
theorem D130_1 : decode (cod 130) 1 = .ok (.istore_n 3, 1) := by rw [cc_130]; decide +kernel
theorem D130_2 : decode (cod 130) 2 = .ok (.iconst 0, 1) := by rw [cc_130]; decide +kernel
theorem D130_3 : decode (cod 130) 3 = .ok (.istore 4, 2) := by rw [cc_130]; decide +kernel
theorem D130_5 : decode (cod 130) 5 = .ok (.iload 4, 2) := by rw [cc_130]; decide +kernel
theorem D130_7 : decode (cod 130) 7 = .ok (.bipush 9, 2) := by rw [cc_130]; decide +kernel
theorem D130_9 : decode (cod 130) 9 = .ok (.if_icmp .ge 95, 3) := by rw [cc_130]; decide +kernel
theorem D130_12 : decode (cod 130) 12 = .ok (.aload_n 1, 1) := by rw [cc_130]; decide +kernel
theorem D130_13 : decode (cod 130) 13 = .ok (.iload 4, 2) := by rw [cc_130]; decide +kernel
theorem D130_15 : decode (cod 130) 15 = .ok (.invokevirtual 247, 3) := by rw [cc_130]; decide +kernel
theorem D130_18 : decode (cod 130) 18 = .ok (.istore 5, 2) := by rw [cc_130]; decide +kernel
theorem D130_20 : decode (cod 130) 20 = .ok (.iload 5, 2) := by rw [cc_130]; decide +kernel
theorem D130_22 : decode (cod 130) 22 = .ok (.iconst (-1), 1) := by rw [cc_130]; decide +kernel
theorem D130_23 : decode (cod 130) 23 = .ok (.if_icmp .eq 75, 3) := by rw [cc_130]; decide +kernel
theorem D130_26 : decode (cod 130) 26 = .ok (.iload 5, 2) := by rw [cc_130]; decide +kernel
theorem D130_28 : decode (cod 130) 28 = .ok (.iload_n 2, 1) := by rw [cc_130]; decide +kernel
theorem D130_29 : decode (cod 130) 29 = .ok (.if_icmp .eq 69, 3) := by rw [cc_130]; decide +kernel
theorem D130_32 : decode (cod 130) 32 = .ok (.iload_n 3, 1) := by rw [cc_130]; decide +kernel
theorem D130_33 : decode (cod 130) 33 = .ok (.iconst 1, 1) := by rw [cc_130]; decide +kernel
theorem D130_34 : decode (cod 130) 34 = .ok (.iload 4, 2) := by rw [cc_130]; decide +kernel
theorem D130_36 : decode (cod 130) 36 = .ok (.ishl, 1) := by rw [cc_130]; decide +kernel
theorem D130_37 : decode (cod 130) 37 = .ok (.ior, 1) := by rw [cc_130]; decide +kernel
theorem D130_38 : decode (cod 130) 38 = .ok (.istore_n 3, 1) := by rw [cc_130]; decide +kernel
theorem D130_39 : decode (cod 130) 39 = .ok (.aload_n 0, 1) := by rw [cc_130]; decide +kernel
theorem D130_40 : decode (cod 130) 40 = .ok (.getfield 61, 3) := by rw [cc_130]; decide +kernel
theorem D130_43 : decode (cod 130) 43 = .ok (.getfield 463, 3) := by rw [cc_130]; decide +kernel
theorem D130_46 : decode (cod 130) 46 = .ok (.iload 4, 2) := by rw [cc_130]; decide +kernel
theorem D130_48 : decode (cod 130) 48 = .ok (.aload_n 0, 1) := by rw [cc_130]; decide +kernel
theorem D130_49 : decode (cod 130) 49 = .ok (.getfield 29, 3) := by rw [cc_130]; decide +kernel
theorem D130_52 : decode (cod 130) 52 = .ok (.getfield 304, 3) := by rw [cc_130]; decide +kernel
theorem D130_55 : decode (cod 130) 55 = .ok (.aload_n 0, 1) := by rw [cc_130]; decide +kernel
theorem D130_56 : decode (cod 130) 56 = .ok (.getfield 11, 3) := by rw [cc_130]; decide +kernel
theorem D130_59 : decode (cod 130) 59 = .ok (.iload 5, 2) := by rw [cc_130]; decide +kernel
theorem D130_61 : decode (cod 130) 61 = .ok (.aaload, 1) := by rw [cc_130]; decide +kernel
theorem D130_62 : decode (cod 130) 62 = .ok (.getfield 98, 3) := by rw [cc_130]; decide +kernel
theorem D130_65 : decode (cod 130) 65 = .ok (.invokevirtual 308, 3) := by rw [cc_130]; decide +kernel
theorem D130_68 : decode (cod 130) 68 = .ok (.iastore, 1) := by rw [cc_130]; decide +kernel
theorem D130_69 : decode (cod 130) 69 = .ok (.aload_n 0, 1) := by rw [cc_130]; decide +kernel
theorem D130_70 : decode (cod 130) 70 = .ok (.getfield 61, 3) := by rw [cc_130]; decide +kernel
theorem D130_73 : decode (cod 130) 73 = .ok (.getfield 466, 3) := by rw [cc_130]; decide +kernel
theorem D130_76 : decode (cod 130) 76 = .ok (.iload 4, 2) := by rw [cc_130]; decide +kernel
theorem D130_78 : decode (cod 130) 78 = .ok (.aload_n 0, 1) := by rw [cc_130]; decide +kernel
theorem D130_79 : decode (cod 130) 79 = .ok (.getfield 11, 3) := by rw [cc_130]; decide +kernel
theorem D130_82 : decode (cod 130) 82 = .ok (.iload 5, 2) := by rw [cc_130]; decide +kernel
theorem D130_84 : decode (cod 130) 84 = .ok (.aaload, 1) := by rw [cc_130]; decide +kernel
theorem D130_85 : decode (cod 130) 85 = .ok (.aload_n 0, 1) := by rw [cc_130]; decide +kernel
theorem D130_86 : decode (cod 130) 86 = .ok (.getfield 11, 3) := by rw [cc_130]; decide +kernel
theorem D130_89 : decode (cod 130) 89 = .ok (.iload_n 2, 1) := by rw [cc_130]; decide +kernel
theorem D130_90 : decode (cod 130) 90 = .ok (.aaload, 1) := by rw [cc_130]; decide +kernel
theorem D130_91 : decode (cod 130) 91 = .ok (.getfield 98, 3) := by rw [cc_130]; decide +kernel
theorem D130_94 : decode (cod 130) 94 = .ok (.invokevirtual 282, 3) := by rw [cc_130]; decide +kernel
theorem D130_97 : decode (cod 130) 97 = .ok (.iastore, 1) := by rw [cc_130]; decide +kernel
theorem D130_98 : decode (cod 130) 98 = .ok (.iinc 4 1, 3) := by rw [cc_130]; decide +kernel
theorem D130_101 : decode (cod 130) 101 = .ok (.goto (-96), 3) := by rw [cc_130]; decide +kernel
theorem D130_104 : decode (cod 130) 104 = .ok (.iload_n 3, 1) := by rw [cc_130]; decide +kernel
theorem D130_105 : decode (cod 130) 105 = .ok (.ireturn, 1) := by rw [cc_130]; decide +kernel
theorem b130_0 {d : Nat} {i0 i1 : Nat} {x2 : Int} {I L : Nat → Nat → Nat → Int} {t : Nat → Nat} : Res d 130 0 [vr 11 i0, vr 4 i1, vi x2, vx, vx, vx] [] (mk I L t) = Res d 130 5 [vr 11 i0, vr 4 i1, vi x2, vi 0, vi 0, vx] [] (mk I L t) :=
  Eq.trans (e_iconst (x := 0) D130_0 rfl rfl) <| Eq.trans (e_istore_n (ls1 := [vr 11 i0, vr 4 i1, vi x2, vi 0, vx, vx]) D130_1 rfl (show 3 < 6 by decide) rfl) <| Eq.trans (e_iconst (x := 0) D130_2 rfl rfl) <| e_istore (ls1 := [vr 11 i0, vr 4 i1, vi x2, vi 0, vi 0, vx]) D130_3 rfl (show 4 < 6 by decide) rfl
theorem b130_5 {d : Nat} {i0 i1 : Nat} {x2 x3 x4 : Int} {u5 : MV} {I L : Nat → Nat → Nat → Int} {t : Nat → Nat} : Res d 130 5 [vr 11 i0, vr 4 i1, vi x2, vi x3, vi x4, u5] [] (mk I L t) = if 9 ≤ x4 then Res d 130 104 [vr 11 i0, vr 4 i1, vi x2, vi x3, vi x4, u5] [] (mk I L t) else Res d 130 12 [vr 11 i0, vr 4 i1, vi x2, vi x3, vi x4, u5] [] (mk I L t) :=
  Eq.trans (e_iload D130_5 rfl rfl) <| Eq.trans (e_bipush (x := 9) D130_7 rfl rfl) <| e_icge D130_9 rfl rfl
theorem b130_12 {d : Nat} {i0 i1 : Nat} {x2 x3 x4 : Int} {u5 : MV} {I L : Nat → Nat → Nat → Int} {t : Nat → Nat} : Res (d + 1) 130 12 [vr 11 i0, vr 4 i1, vi x2, vi x3, vi x4, u5] [] (mk I L t) = (Cal d 26 [vr 4 i1, vi x4] (mk I L t)).bind fun v => Res (d + 1) 130 18 [vr 11 i0, vr 4 i1, vi x2, vi x3, vi x4, u5] (psh 26 v.1 []) v.2 :=
  Eq.trans (e_aload_n D130_12 rfl rfl) <| Eq.trans (e_iload D130_13 rfl rfl) <| e_callV D130_15 rfl o_130 m_11_247 (by decide) rfl rfl
theorem b130_18 {d : Nat} {i0 i1 : Nat} {x2 x3 x4 xs0 : Int} {u5 : MV} {I L : Nat → Nat → Nat → Int} {t : Nat → Nat} : Res d 130 18 [vr 11 i0, vr 4 i1, vi x2, vi x3, vi x4, u5] [vi xs0] (mk I L t) = if xs0 = -1 then Res d 130 98 [vr 11 i0, vr 4 i1, vi x2, vi x3, vi x4, vi xs0] [] (mk I L t) else Res d 130 26 [vr 11 i0, vr 4 i1, vi x2, vi x3, vi x4, vi xs0] [] (mk I L t) :=
  Eq.trans (e_istore (ls1 := [vr 11 i0, vr 4 i1, vi x2, vi x3, vi x4, vi xs0]) D130_18 rfl (show 5 < 6 by decide) rfl) <| Eq.trans (e_iload D130_20 rfl rfl) <| Eq.trans (e_iconst (x := -1) D130_22 rfl rfl) <| e_iceq D130_23 rfl rfl
theorem b130_26 {d : Nat} {i0 i1 : Nat} {x2 x3 x4 x5 : Int} {I L : Nat → Nat → Nat → Int} {t : Nat → Nat} : Res d 130 26 [vr 11 i0, vr 4 i1, vi x2, vi x3, vi x4, vi x5] [] (mk I L t) = if x5 = x2 then Res d 130 98 [vr 11 i0, vr 4 i1, vi x2, vi x3, vi x4, vi x5] [] (mk I L t) else Res d 130 32 [vr 11 i0, vr 4 i1, vi x2, vi x3, vi x4, vi x5] [] (mk I L t) :=
  Eq.trans (e_iload D130_26 rfl rfl) <| Eq.trans (e_iload_n D130_28 rfl rfl) <| e_iceq D130_29 rfl rfl
theorem b130_32 {d : Nat} {i0 i1 : Nat} {x2 x3 x4 x5 : Int} {I L : Nat → Nat → Nat → Int} {t : Nat → Nat} (g1 : 0 ≤ x5 ∧ x5 < 120) : Res (d + 1) 130 32 [vr 11 i0, vr 4 i1, vi x2, vi x3, vi x4, vi x5] [] (mk I L t) = (Cal d 31 [vr 5 (t 10), vr 22 x5.toNat] (mk I L t)).bind fun v => Res (d + 1) 130 68 [vr 11 i0, vr 4 i1, vi x2, vi (vIor x3 (vIshl 1 x4)), vi x4, vi x5] (psh 31 v.1 [vi x4, vr 17 0]) v.2 :=
  Eq.trans (e_iload_n D130_32 rfl rfl) <| Eq.trans (e_iconst (x := 1) D130_33 rfl rfl) <| Eq.trans (e_iload D130_34 rfl rfl) <| Eq.trans (e_ishl D130_36 rfl) <| Eq.trans (e_ior D130_37 rfl) <| Eq.trans (e_istore_n (ls1 := [vr 11 i0, vr 4 i1, vi x2, vi (vIor x3 (vIshl 1 x4)), vi x4, vi x5]) D130_38 rfl (show 3 < 6 by decide) rfl) <| Eq.trans (e_aload_n D130_39 rfl rfl) <| Eq.trans (e_getP (p := (0, 0)) D130_40 rfl o_130 f_11_61 (sh_11 _) (by decide) (pp_11_9 _ _)) <| Eq.trans (e_getP (p := (17, 0)) D130_43 rfl o_130 f_11_463 (sh_0 _) (by decide) (pp_0_4 _ _)) <| Eq.trans (e_iload D130_46 rfl rfl) <| Eq.trans (e_aload_n D130_48 rfl rfl) <| Eq.trans (e_getP (p := (8, 0)) D130_49 rfl o_130 f_11_29 (sh_11 _) (by decide) (pp_11_3 _ _)) <| Eq.trans (e_getP (p := (5, t 10)) D130_52 rfl o_130 f_11_304 (sh_8 _) (by decide) (pp_8_3 _)) <| Eq.trans (e_aload_n D130_55 rfl rfl) <| Eq.trans (e_getP (p := (40, i0)) D130_56 rfl o_130 f_11_11 (sh_11 _) (by decide) (pp_11_0 _ _)) <| Eq.trans (e_iload D130_59 rfl rfl) <| Eq.trans (e_aald (p := (1, x5.toNat)) D130_61 rfl (ae_40 _) (aq_40 _) (pa_40 _ _ _) g1) <| Eq.trans (e_getP (p := (22, x5.toNat)) D130_62 rfl o_130 f_11_98 (sh_1 _) (by decide) (pp_1_0 _ _)) <| e_callV D130_65 rfl o_130 m_11_308 (by decide) rfl rfl
theorem b130_68 {d : Nat} {i0 i1 is0 : Nat} {x2 x3 x4 x5 xs2 xs1 : Int} {I L : Nat → Nat → Nat → Int} {t : Nat → Nat} (g1 : 0 ≤ xs1 ∧ xs1 < 9) (g2 : 0 ≤ x5 ∧ x5 < 120) (g3 : 0 ≤ x2 ∧ x2 < 120) : Res (d + 1) 130 68 [vr 11 i0, vr 4 i1, vi x2, vi x3, vi x4, vi x5] [vi xs2, vi xs1, vr 17 is0] (mk I L t) = (Cal d 11 [vr 1 x5.toNat, vr 22 x2.toNat] (mk (up3 I 17 is0 xs1.toNat xs2) L t)).bind fun v => Res (d + 1) 130 97 [vr 11 i0, vr 4 i1, vi x2, vi x3, vi x4, vi x5] (psh 11 v.1 [vi x4, vr 18 0]) v.2 :=
  Eq.trans (e_iast D130_68 rfl (al_17 _) rfl g1) <| Eq.trans (e_aload_n D130_69 rfl rfl) <| Eq.trans (e_getP (p := (0, 0)) D130_70 rfl o_130 f_11_61 (sh_11 _) (by decide) (pp_11_9 _ _)) <| Eq.trans (e_getP (p := (18, 0)) D130_73 rfl o_130 f_11_466 (sh_0 _) (by decide) (pp_0_5 _ _)) <| Eq.trans (e_iload D130_76 rfl rfl) <| Eq.trans (e_aload_n D130_78 rfl rfl) <| Eq.trans (e_getP (p := (40, i0)) D130_79 rfl o_130 f_11_11 (sh_11 _) (by decide) (pp_11_0 _ _)) <| Eq.trans (e_iload D130_82 rfl rfl) <| Eq.trans (e_aald (p := (1, x5.toNat)) D130_84 rfl (ae_40 _) (aq_40 _) (pa_40 _ _ _) g2) <| Eq.trans (e_aload_n D130_85 rfl rfl) <| Eq.trans (e_getP (p := (40, i0)) D130_86 rfl o_130 f_11_11 (sh_11 _) (by decide) (pp_11_0 _ _)) <| Eq.trans (e_iload_n D130_89 rfl rfl) <| Eq.trans (e_aald (p := (1, x2.toNat)) D130_90 rfl (ae_40 _) (aq_40 _) (pa_40 _ _ _) g3) <| Eq.trans (e_getP (p := (22, x2.toNat)) D130_91 rfl o_130 f_11_98 (sh_1 _) (by decide) (pp_1_0 _ _)) <| e_callV D130_94 rfl o_130 m_11_282 (by decide) rfl rfl
theorem b130_97 {d : Nat} {i0 i1 is0 : Nat} {x2 x3 x4 x5 xs2 xs1 : Int} {I L : Nat → Nat → Nat → Int} {t : Nat → Nat} (g1 : 0 ≤ xs1 ∧ xs1 < 9) : Res d 130 97 [vr 11 i0, vr 4 i1, vi x2, vi x3, vi x4, vi x5] [vi xs2, vi xs1, vr 18 is0] (mk I L t) = Res d 130 98 [vr 11 i0, vr 4 i1, vi x2, vi x3, vi x4, vi x5] [] (mk (up3 I 18 is0 xs1.toNat xs2) L t) :=
  e_iast D130_97 rfl (al_18 _) rfl g1
theorem b130_98 {d : Nat} {i0 i1 : Nat} {x2 x3 x4 x5 : Int} {I L : Nat → Nat → Nat → Int} {t : Nat → Nat} : Res d 130 98 [vr 11 i0, vr 4 i1, vi x2, vi x3, vi x4, vi x5] [] (mk I L t) = Res d 130 5 [vr 11 i0, vr 4 i1, vi x2, vi x3, vi (w32 (x4 + 1)), vi x5] [] (mk I L t) :=
  Eq.trans (e_iinc (ls1 := [vr 11 i0, vr 4 i1, vi x2, vi x3, vi (w32 (x4 + 1)), vi x5]) D130_98 rfl rfl rfl) <| e_goto (q1 := 5) D130_101 rfl
theorem b130_104 {d : Nat} {i0 i1 : Nat} {x2 x3 x4 : Int} {u5 : MV} {I L : Nat → Nat → Nat → Int} {t : Nat → Nat} : Res d 130 104 [vr 11 i0, vr 4 i1, vi x2, vi x3, vi x4, u5] [] (mk I L t) = some (vi x3, (mk I L t)) :=
  Eq.trans (e_iload_n D130_104 rfl rfl) <| e_iret D130_105 rfl
