/-! block equations (printed by wip/whole/genall.py) -/
/-! Bench_oddsAt -/
theorem cc_1 : cod 1 = cX0_oddsAt := rfl
theorem D1_0 : decode (cod 1) 0 = .ok (.aload_n 0, 1) := by rw [cc_1]; decide +kernel
theorem D1_1 : decode (cod 1) 1 = .ok (.getfield 18, 3) := by rw [cc_1]; decide +kernel
theorem D1_4 : decode (cod 1) 4 = .ok (.iload_n 1, 1) := by rw [cc_1]; decide +kernel
theorem D1_5 : decode (cod 1) 5 = .ok (.iconst 0, 1) := by rw [cc_1]; decide +kernel
theorem D1_6 : decode (cod 1) 6 = .ok (.bipush 8, 2) := by rw [cc_1]; decide +kernel
theorem D1_8 : decode (cod 1) 8 = .ok (.invokestatic 58, 3) := by rw [cc_1]; decide +kernel
theorem D1_11 : decode (cod 1) 11 = .ok (.ifCond .eq 7, 3) := by rw [cc_1]; decide +kernel
theorem D1_14 : decode (cod 1) 14 = .ok (.iload_n 1, 1) := by rw [cc_1]; decide +kernel
theorem D1_15 : decode (cod 1) 15 = .ok (.goto 5, 3) := by rw [cc_1]; decide +kernel
theorem D1_18 : decode (cod 1) 18 = .ok (.bipush 9, 2) := by rw [cc_1]; decide +kernel
theorem D1_20 : decode (cod 1) 20 = .ok (.iaload, 1) := by rw [cc_1]; decide +kernel
theorem D1_21 : decode (cod 1) 21 = .ok (.ireturn, 1) := by rw [cc_1]; decide +kernel
theorem b1_0 {d : Nat} {i0 : Nat} {x1 : Int} {I L : Nat → Nat → Nat → Int} {t : Nat → Nat} : Res (d + 1) 1 0 [vr 0 i0, vi x1] [] (mk I L t) = (Cal d 102 [vi x1, vi 0, vi 8] (mk I L t)).bind fun v => Res (d + 1) 1 11 [vr 0 i0, vi x1] (psh 102 v.1 [vr 15 i0]) v.2 :=
  Eq.trans (e_aload_n D1_0 rfl rfl) <| Eq.trans (e_getP (p := (15, i0)) D1_1 rfl o_1 f_0_18 (sh_0 _) (by decide) (pp_0_2 _ _)) <| Eq.trans (e_iload_n D1_4 rfl rfl) <| Eq.trans (e_iconst (x := 0) D1_5 rfl rfl) <| Eq.trans (e_bipush (x := 8) D1_6 rfl rfl) <| e_callS D1_8 rfl o_1 m_0_58 (by decide) rfl rfl
theorem b1_11 {d : Nat} {i0 is0 : Nat} {x1 xs1 : Int} {I L : Nat → Nat → Nat → Int} {t : Nat → Nat} : Res d 1 11 [vr 0 i0, vi x1] [vi xs1, vr 15 is0] (mk I L t) = if xs1 = 0 then Res d 1 18 [vr 0 i0, vi x1] [vr 15 is0] (mk I L t) else Res d 1 14 [vr 0 i0, vi x1] [vr 15 is0] (mk I L t) :=
  e_ifeq D1_11 rfl rfl
theorem b1_14 {d : Nat} {i0 is0 : Nat} {x1 : Int} {I L : Nat → Nat → Nat → Int} {t : Nat → Nat} : Res d 1 14 [vr 0 i0, vi x1] [vr 15 is0] (mk I L t) = Res d 1 20 [vr 0 i0, vi x1] [vi x1, vr 15 is0] (mk I L t) :=
  Eq.trans (e_iload_n D1_14 rfl rfl) <| e_goto (q1 := 20) D1_15 rfl
theorem b1_18 {d : Nat} {i0 is0 : Nat} {x1 : Int} {I L : Nat → Nat → Nat → Int} {t : Nat → Nat} : Res d 1 18 [vr 0 i0, vi x1] [vr 15 is0] (mk I L t) = Res d 1 20 [vr 0 i0, vi x1] [vi 9, vr 15 is0] (mk I L t) :=
  e_bipush (x := 9) D1_18 rfl rfl
theorem b1_20 {d : Nat} {i0 is0 : Nat} {x1 xs1 : Int} {I L : Nat → Nat → Nat → Int} {t : Nat → Nat} (g1 : 0 ≤ xs1 ∧ xs1 < 10) : Res d 1 20 [vr 0 i0, vi x1] [vi xs1, vr 15 is0] (mk I L t) = some (vi (I 15 is0 xs1.toNat), (mk I L t)) :=
  Eq.trans (e_iald D1_20 rfl (al_15 _) g1) <| e_iret D1_21 rfl
/-! Bench_shareOut -/
theorem cc_2 : cod 2 = cX0_shareOut := rfl
theorem D2_0 : decode (cod 2) 0 = .ok (.iload_n 2, 1) := by rw [cc_2]; decide +kernel
theorem D2_1 : decode (cod 2) 1 = .ok (.istore_n 3, 1) := by rw [cc_2]; decide +kernel
theorem D2_2 : decode (cod 2) 2 = .ok (.iconst 0, 1) := by rw [cc_2]; decide +kernel
theorem D2_3 : decode (cod 2) 3 = .ok (.istore 4, 2) := by rw [cc_2]; decide +kernel
theorem D2_5 : decode (cod 2) 5 = .ok (.iload 4, 2) := by rw [cc_2]; decide +kernel
theorem D2_7 : decode (cod 2) 7 = .ok (.bipush 9, 2) := by rw [cc_2]; decide +kernel
theorem D2_9 : decode (cod 2) 9 = .ok (.if_icmp .ge 19, 3) := by rw [cc_2]; decide +kernel
theorem D2_12 : decode (cod 2) 12 = .ok (.iload_n 3, 1) := by rw [cc_2]; decide +kernel
theorem D2_13 : decode (cod 2) 13 = .ok (.aload_n 0, 1) := by rw [cc_2]; decide +kernel
theorem D2_14 : decode (cod 2) 14 = .ok (.getfield 15, 3) := by rw [cc_2]; decide +kernel
theorem D2_17 : decode (cod 2) 17 = .ok (.iload 4, 2) := by rw [cc_2]; decide +kernel
theorem D2_19 : decode (cod 2) 19 = .ok (.iaload, 1) := by rw [cc_2]; decide +kernel
theorem D2_20 : decode (cod 2) 20 = .ok (.iadd, 1) := by rw [cc_2]; decide +kernel
theorem D2_21 : decode (cod 2) 21 = .ok (.istore_n 3, 1) := by rw [cc_2]; decide +kernel
theorem D2_22 : decode (cod 2) 22 = .ok (.iinc 4 1, 3) := by rw [cc_2]; decide +kernel
theorem D2_25 : decode (cod 2) 25 = .ok (.goto (-20), 3) := by rw [cc_2]; decide +kernel
theorem D2_28 : decode (cod 2) 28 = .ok (.ldc 62, 2) := by rw [cc_2]; decide +kernel
theorem D2_30 : decode (cod 2) 30 = .ok (.istore 4, 2) := by rw [cc_2]; decide +kernel
theorem D2_32 : decode (cod 2) 32 = .ok (.iconst 0, 1) := by rw [cc_2]; decide +kernel
theorem D2_33 : decode (cod 2) 33 = .ok (.istore 5, 2) := by rw [cc_2]; decide +kernel
theorem D2_35 : decode (cod 2) 35 = .ok (.iload 5, 2) := by rw [cc_2]; decide +kernel
theorem D2_37 : decode (cod 2) 37 = .ok (.bipush 9, 2) := by rw [cc_2]; decide +kernel
theorem D2_39 : decode (cod 2) 39 = .ok (.if_icmp .ge 89, 3) := by rw [cc_2]; decide +kernel
theorem D2_42 : decode (cod 2) 42 = .ok (.aload_n 0, 1) := by rw [cc_2]; decide +kernel
theorem D2_43 : decode (cod 2) 43 = .ok (.getfield 15, 3) := by rw [cc_2]; decide +kernel
theorem D2_46 : decode (cod 2) 46 = .ok (.iload 5, 2) := by rw [cc_2]; decide +kernel
theorem D2_48 : decode (cod 2) 48 = .ok (.iaload, 1) := by rw [cc_2]; decide +kernel
theorem D2_49 : decode (cod 2) 49 = .ok (.i2l, 1) := by rw [cc_2]; decide +kernel
theorem D2_50 : decode (cod 2) 50 = .ok (.lstore 6, 2) := by rw [cc_2]; decide +kernel
theorem D2_52 : decode (cod 2) 52 = .ok (.iload_n 1, 1) := by rw [cc_2]; decide +kernel
theorem D2_53 : decode (cod 2) 53 = .ok (.ifCond .eq 9, 3) := by rw [cc_2]; decide +kernel
theorem D2_56 : decode (cod 2) 56 = .ok (.iload 4, 2) := by rw [cc_2]; decide +kernel
theorem D2_58 : decode (cod 2) 58 = .ok (.i2l, 1) := by rw [cc_2]; decide +kernel
theorem D2_59 : decode (cod 2) 59 = .ok (.goto 6, 3) := by rw [cc_2]; decide +kernel
theorem D2_62 : decode (cod 2) 62 = .ok (.ldc2_w 63, 3) := by rw [cc_2]; decide +kernel
theorem D2_65 : decode (cod 2) 65 = .ok (.lstore 8, 2) := by rw [cc_2]; decide +kernel
theorem D2_67 : decode (cod 2) 67 = .ok (.iload_n 1, 1) := by rw [cc_2]; decide +kernel
theorem D2_68 : decode (cod 2) 68 = .ok (.ifCond .eq 11, 3) := by rw [cc_2]; decide +kernel
theorem D2_71 : decode (cod 2) 71 = .ok (.lload 6, 2) := by rw [cc_2]; decide +kernel
theorem D2_73 : decode (cod 2) 73 = .ok (.iload_n 2, 1) := by rw [cc_2]; decide +kernel
theorem D2_74 : decode (cod 2) 74 = .ok (.i2l, 1) := by rw [cc_2]; decide +kernel
theorem D2_75 : decode (cod 2) 75 = .ok (.ladd, 1) := by rw [cc_2]; decide +kernel
theorem D2_76 : decode (cod 2) 76 = .ok (.goto 5, 3) := by rw [cc_2]; decide +kernel
theorem D2_79 : decode (cod 2) 79 = .ok (.iload_n 3, 1) := by rw [cc_2]; decide +kernel
theorem D2_80 : decode (cod 2) 80 = .ok (.i2l, 1) := by rw [cc_2]; decide +kernel
theorem D2_81 : decode (cod 2) 81 = .ok (.lstore 10, 2) := by rw [cc_2]; decide +kernel
theorem D2_83 : decode (cod 2) 83 = .ok (.aload_n 0, 1) := by rw [cc_2]; decide +kernel
theorem D2_84 : decode (cod 2) 84 = .ok (.getfield 18, 3) := by rw [cc_2]; decide +kernel
theorem D2_87 : decode (cod 2) 87 = .ok (.iload 5, 2) := by rw [cc_2]; decide +kernel
theorem D2_89 : decode (cod 2) 89 = .ok (.lload 10, 2) := by rw [cc_2]; decide +kernel
theorem D2_91 : decode (cod 2) 91 = .ok (.lconst 0, 1) := by rw [cc_2]; decide +kernel
theorem D2_92 : decode (cod 2) 92 = .ok (.lcmp, 1) := by rw [cc_2]; decide +kernel
theorem D2_93 : decode (cod 2) 93 = .ok (.ifCond .gt 7, 3) := by rw [cc_2]; decide +kernel
theorem D2_96 : decode (cod 2) 96 = .ok (.iconst 0, 1) := by rw [cc_2]; decide +kernel
theorem D2_97 : decode (cod 2) 97 = .ok (.goto 12, 3) := by rw [cc_2]; decide +kernel
theorem D2_100 : decode (cod 2) 100 = .ok (.lload 8, 2) := by rw [cc_2]; decide +kernel
theorem D2_102 : decode (cod 2) 102 = .ok (.lload 6, 2) := by rw [cc_2]; decide +kernel
theorem D2_104 : decode (cod 2) 104 = .ok (.lmul, 1) := by rw [cc_2]; decide +kernel
theorem D2_105 : decode (cod 2) 105 = .ok (.lload 10, 2) := by rw [cc_2]; decide +kernel
theorem D2_107 : decode (cod 2) 107 = .ok (.ldiv, 1) := by rw [cc_2]; decide +kernel
theorem D2_108 : decode (cod 2) 108 = .ok (.l2i, 1) := by rw [cc_2]; decide +kernel
theorem D2_109 : decode (cod 2) 109 = .ok (.iastore, 1) := by rw [cc_2]; decide +kernel
theorem D2_110 : decode (cod 2) 110 = .ok (.iload 4, 2) := by rw [cc_2]; decide +kernel
theorem D2_112 : decode (cod 2) 112 = .ok (.aload_n 0, 1) := by rw [cc_2]; decide +kernel
theorem D2_113 : decode (cod 2) 113 = .ok (.getfield 18, 3) := by rw [cc_2]; decide +kernel
theorem D2_116 : decode (cod 2) 116 = .ok (.iload 5, 2) := by rw [cc_2]; decide +kernel
theorem D2_118 : decode (cod 2) 118 = .ok (.iaload, 1) := by rw [cc_2]; decide +kernel
theorem D2_119 : decode (cod 2) 119 = .ok (.isub, 1) := by rw [cc_2]; decide +kernel
theorem D2_120 : decode (cod 2) 120 = .ok (.istore 4, 2) := by rw [cc_2]; decide +kernel
theorem D2_122 : decode (cod 2) 122 = .ok (.iinc 5 1, 3) := by rw [cc_2]; decide +kernel
theorem D2_125 : decode (cod 2) 125 = .ok (.goto (-90), 3) := by rw [cc_2]; decide +kernel
theorem D2_128 : decode (cod 2) 128 = .ok (.aload_n 0, 1) := by rw [cc_2]; decide +kernel
theorem D2_129 : decode (cod 2) 129 = .ok (.getfield 18, 3) := by rw [cc_2]; decide +kernel
theorem D2_132 : decode (cod 2) 132 = .ok (.bipush 9, 2) := by rw [cc_2]; decide +kernel
theorem D2_134 : decode (cod 2) 134 = .ok (.iload 4, 2) := by rw [cc_2]; decide +kernel
theorem D2_136 : decode (cod 2) 136 = .ok (.iastore, 1) := by rw [cc_2]; decide +kernel
theorem D2_137 : decode (cod 2) 137 = .ok (.return_, 1) := by rw [cc_2]; decide +kernel
theorem b2_0 {d : Nat} {i0 : Nat} {x1 x2 : Int} {I L : Nat → Nat → Nat → Int} {t : Nat → Nat} : Res d 2 0 [vr 0 i0, vi x1, vi x2, vx, vx, vx, vx, vx, vx, vx, vx, vx] [] (mk I L t) = Res d 2 5 [vr 0 i0, vi x1, vi x2, vi x2, vi 0, vx, vx, vx, vx, vx, vx, vx] [] (mk I L t) :=
  Eq.trans (e_iload_n D2_0 rfl rfl) <| Eq.trans (e_istore_n (ls1 := [vr 0 i0, vi x1, vi x2, vi x2, vx, vx, vx, vx, vx, vx, vx, vx]) D2_1 rfl (show 3 < 12 by decide) rfl) <| Eq.trans (e_iconst (x := 0) D2_2 rfl rfl) <| e_istore (ls1 := [vr 0 i0, vi x1, vi x2, vi x2, vi 0, vx, vx, vx, vx, vx, vx, vx]) D2_3 rfl (show 4 < 12 by decide) rfl
theorem b2_5 {d : Nat} {i0 : Nat} {x1 x2 x3 x4 : Int} {I L : Nat → Nat → Nat → Int} {t : Nat → Nat} : Res d 2 5 [vr 0 i0, vi x1, vi x2, vi x3, vi x4, vx, vx, vx, vx, vx, vx, vx] [] (mk I L t) = if 9 ≤ x4 then Res d 2 28 [vr 0 i0, vi x1, vi x2, vi x3, vi x4, vx, vx, vx, vx, vx, vx, vx] [] (mk I L t) else Res d 2 12 [vr 0 i0, vi x1, vi x2, vi x3, vi x4, vx, vx, vx, vx, vx, vx, vx] [] (mk I L t) :=
  Eq.trans (e_iload D2_5 rfl rfl) <| Eq.trans (e_bipush (x := 9) D2_7 rfl rfl) <| e_icge D2_9 rfl rfl
theorem b2_12 {d : Nat} {i0 : Nat} {x1 x2 x3 x4 : Int} {I L : Nat → Nat → Nat → Int} {t : Nat → Nat} (g1 : 0 ≤ x4 ∧ x4 < 9) : Res d 2 12 [vr 0 i0, vi x1, vi x2, vi x3, vi x4, vx, vx, vx, vx, vx, vx, vx] [] (mk I L t) = Res d 2 5 [vr 0 i0, vi x1, vi x2, vi (w32 (x3 + (I 14 i0 x4.toNat))), vi (w32 (x4 + 1)), vx, vx, vx, vx, vx, vx, vx] [] (mk I L t) :=
  Eq.trans (e_iload_n D2_12 rfl rfl) <| Eq.trans (e_aload_n D2_13 rfl rfl) <| Eq.trans (e_getP (p := (14, i0)) D2_14 rfl o_2 f_0_15 (sh_0 _) (by decide) (pp_0_1 _ _)) <| Eq.trans (e_iload D2_17 rfl rfl) <| Eq.trans (e_iald D2_19 rfl (al_14 _) g1) <| Eq.trans (e_iadd D2_20 rfl) <| Eq.trans (e_istore_n (ls1 := [vr 0 i0, vi x1, vi x2, vi (w32 (x3 + (I 14 i0 x4.toNat))), vi x4, vx, vx, vx, vx, vx, vx, vx]) D2_21 rfl (show 3 < 12 by decide) rfl) <| Eq.trans (e_iinc (ls1 := [vr 0 i0, vi x1, vi x2, vi (w32 (x3 + (I 14 i0 x4.toNat))), vi (w32 (x4 + 1)), vx, vx, vx, vx, vx, vx, vx]) D2_22 rfl rfl rfl) <| e_goto (q1 := 5) D2_25 rfl
theorem b2_28 {d : Nat} {i0 : Nat} {x1 x2 x3 x4 : Int} {I L : Nat → Nat → Nat → Int} {t : Nat → Nat} : Res d 2 28 [vr 0 i0, vi x1, vi x2, vi x3, vi x4, vx, vx, vx, vx, vx, vx, vx] [] (mk I L t) = Res d 2 35 [vr 0 i0, vi x1, vi x2, vi x3, vi 1000000, vi 0, vx, vx, vx, vx, vx, vx] [] (mk I L t) :=
  Eq.trans (e_ldc (x := 1000000) D2_28 rfl o_2 i_0_62 rfl) <| Eq.trans (e_istore (ls1 := [vr 0 i0, vi x1, vi x2, vi x3, vi 1000000, vx, vx, vx, vx, vx, vx, vx]) D2_30 rfl (show 4 < 12 by decide) rfl) <| Eq.trans (e_iconst (x := 0) D2_32 rfl rfl) <| e_istore (ls1 := [vr 0 i0, vi x1, vi x2, vi x3, vi 1000000, vi 0, vx, vx, vx, vx, vx, vx]) D2_33 rfl (show 5 < 12 by decide) rfl
theorem b2_35 {d : Nat} {i0 : Nat} {x1 x2 x3 x4 x5 : Int} {u6 u8 u10 : MV} {I L : Nat → Nat → Nat → Int} {t : Nat → Nat} : Res d 2 35 [vr 0 i0, vi x1, vi x2, vi x3, vi x4, vi x5, u6, vx, u8, vx, u10, vx] [] (mk I L t) = if 9 ≤ x5 then Res d 2 128 [vr 0 i0, vi x1, vi x2, vi x3, vi x4, vi x5, u6, vx, u8, vx, u10, vx] [] (mk I L t) else Res d 2 42 [vr 0 i0, vi x1, vi x2, vi x3, vi x4, vi x5, u6, vx, u8, vx, u10, vx] [] (mk I L t) :=
  Eq.trans (e_iload D2_35 rfl rfl) <| Eq.trans (e_bipush (x := 9) D2_37 rfl rfl) <| e_icge D2_39 rfl rfl
theorem b2_42 {d : Nat} {i0 : Nat} {x1 x2 x3 x4 x5 : Int} {u6 u8 u10 : MV} {I L : Nat → Nat → Nat → Int} {t : Nat → Nat} (g1 : 0 ≤ x5 ∧ x5 < 9) : Res d 2 42 [vr 0 i0, vi x1, vi x2, vi x3, vi x4, vi x5, u6, vx, u8, vx, u10, vx] [] (mk I L t) = if x1 = 0 then Res d 2 62 [vr 0 i0, vi x1, vi x2, vi x3, vi x4, vi x5, vl (I 14 i0 x5.toNat), vx, u8, vx, u10, vx] [] (mk I L t) else Res d 2 56 [vr 0 i0, vi x1, vi x2, vi x3, vi x4, vi x5, vl (I 14 i0 x5.toNat), vx, u8, vx, u10, vx] [] (mk I L t) :=
  Eq.trans (e_aload_n D2_42 rfl rfl) <| Eq.trans (e_getP (p := (14, i0)) D2_43 rfl o_2 f_0_15 (sh_0 _) (by decide) (pp_0_1 _ _)) <| Eq.trans (e_iload D2_46 rfl rfl) <| Eq.trans (e_iald D2_48 rfl (al_14 _) g1) <| Eq.trans (e_i2l D2_49 rfl) <| Eq.trans (e_lstore (ls1 := [vr 0 i0, vi x1, vi x2, vi x3, vi x4, vi x5, vl (I 14 i0 x5.toNat), vx, u8, vx, u10, vx]) D2_50 rfl (show 7 < 12 by decide) (by rcases u6 with _ | _ | _ | _ <;> rfl)) <| Eq.trans (e_iload_n D2_52 rfl rfl) <| e_ifeq D2_53 rfl rfl
theorem b2_56 {d : Nat} {i0 : Nat} {x1 x2 x3 x4 x5 x6 : Int} {u8 u10 : MV} {I L : Nat → Nat → Nat → Int} {t : Nat → Nat} : Res d 2 56 [vr 0 i0, vi x1, vi x2, vi x3, vi x4, vi x5, vl x6, vx, u8, vx, u10, vx] [] (mk I L t) = Res d 2 65 [vr 0 i0, vi x1, vi x2, vi x3, vi x4, vi x5, vl x6, vx, u8, vx, u10, vx] [vl x4] (mk I L t) :=
  Eq.trans (e_iload D2_56 rfl rfl) <| Eq.trans (e_i2l D2_58 rfl) <| e_goto (q1 := 65) D2_59 rfl
theorem b2_62 {d : Nat} {i0 : Nat} {x1 x2 x3 x4 x5 x6 : Int} {u8 u10 : MV} {I L : Nat → Nat → Nat → Int} {t : Nat → Nat} : Res d 2 62 [vr 0 i0, vi x1, vi x2, vi x3, vi x4, vi x5, vl x6, vx, u8, vx, u10, vx] [] (mk I L t) = Res d 2 65 [vr 0 i0, vi x1, vi x2, vi x3, vi x4, vi x5, vl x6, vx, u8, vx, u10, vx] [vl 1000000] (mk I L t) :=
  e_ldc2 (x := 1000000) D2_62 rfl o_2 l_0_63 rfl
theorem b2_65 {d : Nat} {i0 : Nat} {x1 x2 x3 x4 x5 x6 xs0 : Int} {u8 u10 : MV} {I L : Nat → Nat → Nat → Int} {t : Nat → Nat} : Res d 2 65 [vr 0 i0, vi x1, vi x2, vi x3, vi x4, vi x5, vl x6, vx, u8, vx, u10, vx] [vl xs0] (mk I L t) = if x1 = 0 then Res d 2 79 [vr 0 i0, vi x1, vi x2, vi x3, vi x4, vi x5, vl x6, vx, vl xs0, vx, u10, vx] [] (mk I L t) else Res d 2 71 [vr 0 i0, vi x1, vi x2, vi x3, vi x4, vi x5, vl x6, vx, vl xs0, vx, u10, vx] [] (mk I L t) :=
  Eq.trans (e_lstore (ls1 := [vr 0 i0, vi x1, vi x2, vi x3, vi x4, vi x5, vl x6, vx, vl xs0, vx, u10, vx]) D2_65 rfl (show 9 < 12 by decide) (by rcases u8 with _ | _ | _ | _ <;> rfl)) <| Eq.trans (e_iload_n D2_67 rfl rfl) <| e_ifeq D2_68 rfl rfl
theorem b2_71 {d : Nat} {i0 : Nat} {x1 x2 x3 x4 x5 x6 x8 : Int} {u10 : MV} {I L : Nat → Nat → Nat → Int} {t : Nat → Nat} : Res d 2 71 [vr 0 i0, vi x1, vi x2, vi x3, vi x4, vi x5, vl x6, vx, vl x8, vx, u10, vx] [] (mk I L t) = Res d 2 81 [vr 0 i0, vi x1, vi x2, vi x3, vi x4, vi x5, vl x6, vx, vl x8, vx, u10, vx] [vl (w64 (x6 + x2))] (mk I L t) :=
  Eq.trans (e_lload D2_71 rfl rfl) <| Eq.trans (e_iload_n D2_73 rfl rfl) <| Eq.trans (e_i2l D2_74 rfl) <| Eq.trans (e_ladd D2_75 rfl) <| e_goto (q1 := 81) D2_76 rfl
theorem b2_79 {d : Nat} {i0 : Nat} {x1 x2 x3 x4 x5 x6 x8 : Int} {u10 : MV} {I L : Nat → Nat → Nat → Int} {t : Nat → Nat} : Res d 2 79 [vr 0 i0, vi x1, vi x2, vi x3, vi x4, vi x5, vl x6, vx, vl x8, vx, u10, vx] [] (mk I L t) = Res d 2 81 [vr 0 i0, vi x1, vi x2, vi x3, vi x4, vi x5, vl x6, vx, vl x8, vx, u10, vx] [vl x3] (mk I L t) :=
  Eq.trans (e_iload_n D2_79 rfl rfl) <| e_i2l D2_80 rfl
theorem b2_81 {d : Nat} {i0 : Nat} {x1 x2 x3 x4 x5 x6 x8 xs0 : Int} {u10 : MV} {I L : Nat → Nat → Nat → Int} {t : Nat → Nat} : Res d 2 81 [vr 0 i0, vi x1, vi x2, vi x3, vi x4, vi x5, vl x6, vx, vl x8, vx, u10, vx] [vl xs0] (mk I L t) = if 0 < vLcmp xs0 0 then Res d 2 100 [vr 0 i0, vi x1, vi x2, vi x3, vi x4, vi x5, vl x6, vx, vl x8, vx, vl xs0, vx] [vi x5, vr 15 i0] (mk I L t) else Res d 2 96 [vr 0 i0, vi x1, vi x2, vi x3, vi x4, vi x5, vl x6, vx, vl x8, vx, vl xs0, vx] [vi x5, vr 15 i0] (mk I L t) :=
  Eq.trans (e_lstore (ls1 := [vr 0 i0, vi x1, vi x2, vi x3, vi x4, vi x5, vl x6, vx, vl x8, vx, vl xs0, vx]) D2_81 rfl (show 11 < 12 by decide) (by rcases u10 with _ | _ | _ | _ <;> rfl)) <| Eq.trans (e_aload_n D2_83 rfl rfl) <| Eq.trans (e_getP (p := (15, i0)) D2_84 rfl o_2 f_0_18 (sh_0 _) (by decide) (pp_0_2 _ _)) <| Eq.trans (e_iload D2_87 rfl rfl) <| Eq.trans (e_lload D2_89 rfl rfl) <| Eq.trans (e_lconst (x := 0) D2_91 rfl rfl) <| Eq.trans (e_lcmp D2_92 rfl) <| e_ifgt D2_93 rfl rfl
theorem b2_96 {d : Nat} {i0 is0 : Nat} {x1 x2 x3 x4 x5 x6 x8 x10 xs1 : Int} {I L : Nat → Nat → Nat → Int} {t : Nat → Nat} : Res d 2 96 [vr 0 i0, vi x1, vi x2, vi x3, vi x4, vi x5, vl x6, vx, vl x8, vx, vl x10, vx] [vi xs1, vr 15 is0] (mk I L t) = Res d 2 109 [vr 0 i0, vi x1, vi x2, vi x3, vi x4, vi x5, vl x6, vx, vl x8, vx, vl x10, vx] [vi 0, vi xs1, vr 15 is0] (mk I L t) :=
  Eq.trans (e_iconst (x := 0) D2_96 rfl rfl) <| e_goto (q1 := 109) D2_97 rfl
theorem b2_100 {d : Nat} {i0 is0 : Nat} {x1 x2 x3 x4 x5 x6 x8 x10 xs1 : Int} {I L : Nat → Nat → Nat → Int} {t : Nat → Nat} (g1 : x10 ≠ 0) : Res d 2 100 [vr 0 i0, vi x1, vi x2, vi x3, vi x4, vi x5, vl x6, vx, vl x8, vx, vl x10, vx] [vi xs1, vr 15 is0] (mk I L t) = Res d 2 109 [vr 0 i0, vi x1, vi x2, vi x3, vi x4, vi x5, vl x6, vx, vl x8, vx, vl x10, vx] [vi (w32 (vLdiv (w64 (x8 * x6)) x10)), vi xs1, vr 15 is0] (mk I L t) :=
  Eq.trans (e_lload D2_100 rfl rfl) <| Eq.trans (e_lload D2_102 rfl rfl) <| Eq.trans (e_lmul D2_104 rfl) <| Eq.trans (e_lload D2_105 rfl rfl) <| Eq.trans (e_ldiv D2_107 rfl g1) <| e_l2i D2_108 rfl
theorem b2_109 {d : Nat} {i0 is0 : Nat} {x1 x2 x3 x4 x5 x6 x8 x10 xs2 xs1 : Int} {I L : Nat → Nat → Nat → Int} {t : Nat → Nat} (g1 : 0 ≤ xs1 ∧ xs1 < 10) (g2 : 0 ≤ x5 ∧ x5 < 10) : Res d 2 109 [vr 0 i0, vi x1, vi x2, vi x3, vi x4, vi x5, vl x6, vx, vl x8, vx, vl x10, vx] [vi xs2, vi xs1, vr 15 is0] (mk I L t) = Res d 2 35 [vr 0 i0, vi x1, vi x2, vi x3, vi (w32 (x4 - ((up3 I 15 is0 xs1.toNat xs2) 15 i0 x5.toNat))), vi (w32 (x5 + 1)), vl x6, vx, vl x8, vx, vl x10, vx] [] (mk (up3 I 15 is0 xs1.toNat xs2) L t) :=
  Eq.trans (e_iast D2_109 rfl (al_15 _) rfl g1) <| Eq.trans (e_iload D2_110 rfl rfl) <| Eq.trans (e_aload_n D2_112 rfl rfl) <| Eq.trans (e_getP (p := (15, i0)) D2_113 rfl o_2 f_0_18 (sh_0 _) (by decide) (pp_0_2 _ _)) <| Eq.trans (e_iload D2_116 rfl rfl) <| Eq.trans (e_iald D2_118 rfl (al_15 _) g2) <| Eq.trans (e_isub D2_119 rfl) <| Eq.trans (e_istore (ls1 := [vr 0 i0, vi x1, vi x2, vi x3, vi (w32 (x4 - ((up3 I 15 is0 xs1.toNat xs2) 15 i0 x5.toNat))), vi x5, vl x6, vx, vl x8, vx, vl x10, vx]) D2_120 rfl (show 4 < 12 by decide) rfl) <| Eq.trans (e_iinc (ls1 := [vr 0 i0, vi x1, vi x2, vi x3, vi (w32 (x4 - ((up3 I 15 is0 xs1.toNat xs2) 15 i0 x5.toNat))), vi (w32 (x5 + 1)), vl x6, vx, vl x8, vx, vl x10, vx]) D2_122 rfl rfl rfl) <| e_goto (q1 := 35) D2_125 rfl
theorem b2_128 {d : Nat} {i0 : Nat} {x1 x2 x3 x4 x5 : Int} {u6 u8 u10 : MV} {I L : Nat → Nat → Nat → Int} {t : Nat → Nat} : Res d 2 128 [vr 0 i0, vi x1, vi x2, vi x3, vi x4, vi x5, u6, vx, u8, vx, u10, vx] [] (mk I L t) = some (vx, (mk (up3 I 15 i0 9 x4) L t)) :=
  Eq.trans (e_aload_n D2_128 rfl rfl) <| Eq.trans (e_getP (p := (15, i0)) D2_129 rfl o_2 f_0_18 (sh_0 _) (by decide) (pp_0_2 _ _)) <| Eq.trans (e_bipush (x := 9) D2_132 rfl rfl) <| Eq.trans (e_iload D2_134 rfl rfl) <| Eq.trans (e_iast D2_136 rfl (al_15 _) rfl (by decide)) <| e_vret D2_137 rfl
/-! Bench_isBettered -/
theorem cc_3 : cod 3 = cX0_isBettered := rfl
theorem D3_0 : decode (cod 3) 0 = .ok (.iconst 0, 1) := by rw [cc_3]; decide +kernel
theorem D3_1 : decode (cod 3) 1 = .ok (.istore_n 2, 1) := by rw [cc_3]; decide +kernel
theorem D3_2 : decode (cod 3) 2 = .ok (.iload_n 2, 1) := by rw [cc_3]; decide +kernel
theorem D3_3 : decode (cod 3) 3 = .ok (.iconst 4, 1) := by rw [cc_3]; decide +kernel
theorem D3_4 : decode (cod 3) 4 = .ok (.if_icmp .ge 85, 3) := by rw [cc_3]; decide +kernel
theorem D3_7 : decode (cod 3) 7 = .ok (.aload_n 0, 1) := by rw [cc_3]; decide +kernel
theorem D3_8 : decode (cod 3) 8 = .ok (.getfield 30, 3) := by rw [cc_3]; decide +kernel
theorem D3_11 : decode (cod 3) 11 = .ok (.iload_n 2, 1) := by rw [cc_3]; decide +kernel
theorem D3_12 : decode (cod 3) 12 = .ok (.laload, 1) := by rw [cc_3]; decide +kernel
theorem D3_13 : decode (cod 3) 13 = .ok (.aload_n 0, 1) := by rw [cc_3]; decide +kernel
theorem D3_14 : decode (cod 3) 14 = .ok (.getfield 30, 3) := by rw [cc_3]; decide +kernel
theorem D3_17 : decode (cod 3) 17 = .ok (.iload_n 1, 1) := by rw [cc_3]; decide +kernel
theorem D3_18 : decode (cod 3) 18 = .ok (.laload, 1) := by rw [cc_3]; decide +kernel
theorem D3_19 : decode (cod 3) 19 = .ok (.lcmp, 1) := by rw [cc_3]; decide +kernel
theorem D3_20 : decode (cod 3) 20 = .ok (.ifCond .ne 19, 3) := by rw [cc_3]; decide +kernel
theorem D3_23 : decode (cod 3) 23 = .ok (.aload_n 0, 1) := by rw [cc_3]; decide +kernel
theorem D3_24 : decode (cod 3) 24 = .ok (.getfield 34, 3) := by rw [cc_3]; decide +kernel
theorem D3_27 : decode (cod 3) 27 = .ok (.iload_n 2, 1) := by rw [cc_3]; decide +kernel
theorem D3_28 : decode (cod 3) 28 = .ok (.laload, 1) := by rw [cc_3]; decide +kernel
theorem D3_29 : decode (cod 3) 29 = .ok (.aload_n 0, 1) := by rw [cc_3]; decide +kernel
theorem D3_30 : decode (cod 3) 30 = .ok (.getfield 34, 3) := by rw [cc_3]; decide +kernel
theorem D3_33 : decode (cod 3) 33 = .ok (.iload_n 1, 1) := by rw [cc_3]; decide +kernel
theorem D3_34 : decode (cod 3) 34 = .ok (.laload, 1) := by rw [cc_3]; decide +kernel
theorem D3_35 : decode (cod 3) 35 = .ok (.lcmp, 1) := by rw [cc_3]; decide +kernel
theorem D3_36 : decode (cod 3) 36 = .ok (.ifCond .eq 7, 3) := by rw [cc_3]; decide +kernel
theorem D3_39 : decode (cod 3) 39 = .ok (.iconst 1, 1) := by rw [cc_3]; decide +kernel
theorem D3_40 : decode (cod 3) 40 = .ok (.goto 4, 3) := by rw [cc_3]; decide +kernel
theorem D3_43 : decode (cod 3) 43 = .ok (.iconst 0, 1) := by rw [cc_3]; decide +kernel
theorem D3_44 : decode (cod 3) 44 = .ok (.istore_n 3, 1) := by rw [cc_3]; decide +kernel
theorem D3_45 : decode (cod 3) 45 = .ok (.iload_n 3, 1) := by rw [cc_3]; decide +kernel
theorem D3_46 : decode (cod 3) 46 = .ok (.ifCond .eq 37, 3) := by rw [cc_3]; decide +kernel
theorem D3_49 : decode (cod 3) 49 = .ok (.aload_n 0, 1) := by rw [cc_3]; decide +kernel
theorem D3_50 : decode (cod 3) 50 = .ok (.getfield 30, 3) := by rw [cc_3]; decide +kernel
theorem D3_53 : decode (cod 3) 53 = .ok (.iload_n 2, 1) := by rw [cc_3]; decide +kernel
theorem D3_54 : decode (cod 3) 54 = .ok (.laload, 1) := by rw [cc_3]; decide +kernel
theorem D3_55 : decode (cod 3) 55 = .ok (.aload_n 0, 1) := by rw [cc_3]; decide +kernel
theorem D3_56 : decode (cod 3) 56 = .ok (.getfield 30, 3) := by rw [cc_3]; decide +kernel
theorem D3_59 : decode (cod 3) 59 = .ok (.iload_n 1, 1) := by rw [cc_3]; decide +kernel
theorem D3_60 : decode (cod 3) 60 = .ok (.laload, 1) := by rw [cc_3]; decide +kernel
theorem D3_61 : decode (cod 3) 61 = .ok (.lcmp, 1) := by rw [cc_3]; decide +kernel
theorem D3_62 : decode (cod 3) 62 = .ok (.ifCond .lt 21, 3) := by rw [cc_3]; decide +kernel
theorem D3_65 : decode (cod 3) 65 = .ok (.aload_n 0, 1) := by rw [cc_3]; decide +kernel
theorem D3_66 : decode (cod 3) 66 = .ok (.getfield 34, 3) := by rw [cc_3]; decide +kernel
theorem D3_69 : decode (cod 3) 69 = .ok (.iload_n 2, 1) := by rw [cc_3]; decide +kernel
theorem D3_70 : decode (cod 3) 70 = .ok (.laload, 1) := by rw [cc_3]; decide +kernel
theorem D3_71 : decode (cod 3) 71 = .ok (.aload_n 0, 1) := by rw [cc_3]; decide +kernel
theorem D3_72 : decode (cod 3) 72 = .ok (.getfield 34, 3) := by rw [cc_3]; decide +kernel
theorem D3_75 : decode (cod 3) 75 = .ok (.iload_n 1, 1) := by rw [cc_3]; decide +kernel
theorem D3_76 : decode (cod 3) 76 = .ok (.laload, 1) := by rw [cc_3]; decide +kernel
theorem D3_77 : decode (cod 3) 77 = .ok (.lcmp, 1) := by rw [cc_3]; decide +kernel
theorem D3_78 : decode (cod 3) 78 = .ok (.ifCond .gt 5, 3) := by rw [cc_3]; decide +kernel
theorem D3_81 : decode (cod 3) 81 = .ok (.iconst 1, 1) := by rw [cc_3]; decide +kernel
theorem D3_82 : decode (cod 3) 82 = .ok (.ireturn, 1) := by rw [cc_3]; decide +kernel
theorem D3_83 : decode (cod 3) 83 = .ok (.iinc 2 1, 3) := by rw [cc_3]; decide +kernel
theorem D3_86 : decode (cod 3) 86 = .ok (.goto (-84), 3) := by rw [cc_3]; decide +kernel
theorem D3_89 : decode (cod 3) 89 = .ok (.iconst 0, 1) := by rw [cc_3]; decide +kernel
theorem D3_90 : decode (cod 3) 90 = .ok (.ireturn, 1) := by rw [cc_3]; decide +kernel
theorem b3_0 {d : Nat} {i0 : Nat} {x1 : Int} {I L : Nat → Nat → Nat → Int} {t : Nat → Nat} : Res d 3 0 [vr 0 i0, vi x1, vx, vx] [] (mk I L t) = Res d 3 2 [vr 0 i0, vi x1, vi 0, vx] [] (mk I L t) :=
  Eq.trans (e_iconst (x := 0) D3_0 rfl rfl) <| e_istore_n (ls1 := [vr 0 i0, vi x1, vi 0, vx]) D3_1 rfl (show 2 < 4 by decide) rfl
theorem b3_2 {d : Nat} {i0 : Nat} {x1 x2 : Int} {u3 : MV} {I L : Nat → Nat → Nat → Int} {t : Nat → Nat} : Res d 3 2 [vr 0 i0, vi x1, vi x2, u3] [] (mk I L t) = if 4 ≤ x2 then Res d 3 89 [vr 0 i0, vi x1, vi x2, u3] [] (mk I L t) else Res d 3 7 [vr 0 i0, vi x1, vi x2, u3] [] (mk I L t) :=
  Eq.trans (e_iload_n D3_2 rfl rfl) <| Eq.trans (e_iconst (x := 4) D3_3 rfl rfl) <| e_icge D3_4 rfl rfl
theorem b3_7 {d : Nat} {i0 : Nat} {x1 x2 : Int} {u3 : MV} {I L : Nat → Nat → Nat → Int} {t : Nat → Nat} (g1 : 0 ≤ x2 ∧ x2 < 4) (g2 : 0 ≤ x1 ∧ x1 < 4) : Res d 3 7 [vr 0 i0, vi x1, vi x2, u3] [] (mk I L t) = if ¬ vLcmp (L 19 i0 x2.toNat) (L 19 i0 x1.toNat) = 0 then Res d 3 39 [vr 0 i0, vi x1, vi x2, u3] [] (mk I L t) else Res d 3 23 [vr 0 i0, vi x1, vi x2, u3] [] (mk I L t) :=
  Eq.trans (e_aload_n D3_7 rfl rfl) <| Eq.trans (e_getP (p := (19, i0)) D3_8 rfl o_3 f_0_30 (sh_0 _) (by decide) (pp_0_6 _ _)) <| Eq.trans (e_iload_n D3_11 rfl rfl) <| Eq.trans (e_lald D3_12 rfl (al_19 _) g1) <| Eq.trans (e_aload_n D3_13 rfl rfl) <| Eq.trans (e_getP (p := (19, i0)) D3_14 rfl o_3 f_0_30 (sh_0 _) (by decide) (pp_0_6 _ _)) <| Eq.trans (e_iload_n D3_17 rfl rfl) <| Eq.trans (e_lald D3_18 rfl (al_19 _) g2) <| Eq.trans (e_lcmp D3_19 rfl) <| e_ifne D3_20 rfl rfl
theorem b3_23 {d : Nat} {i0 : Nat} {x1 x2 : Int} {u3 : MV} {I L : Nat → Nat → Nat → Int} {t : Nat → Nat} (g1 : 0 ≤ x2 ∧ x2 < 4) (g2 : 0 ≤ x1 ∧ x1 < 4) : Res d 3 23 [vr 0 i0, vi x1, vi x2, u3] [] (mk I L t) = if vLcmp (L 20 i0 x2.toNat) (L 20 i0 x1.toNat) = 0 then Res d 3 43 [vr 0 i0, vi x1, vi x2, u3] [] (mk I L t) else Res d 3 39 [vr 0 i0, vi x1, vi x2, u3] [] (mk I L t) :=
  Eq.trans (e_aload_n D3_23 rfl rfl) <| Eq.trans (e_getP (p := (20, i0)) D3_24 rfl o_3 f_0_34 (sh_0 _) (by decide) (pp_0_7 _ _)) <| Eq.trans (e_iload_n D3_27 rfl rfl) <| Eq.trans (e_lald D3_28 rfl (al_20 _) g1) <| Eq.trans (e_aload_n D3_29 rfl rfl) <| Eq.trans (e_getP (p := (20, i0)) D3_30 rfl o_3 f_0_34 (sh_0 _) (by decide) (pp_0_7 _ _)) <| Eq.trans (e_iload_n D3_33 rfl rfl) <| Eq.trans (e_lald D3_34 rfl (al_20 _) g2) <| Eq.trans (e_lcmp D3_35 rfl) <| e_ifeq D3_36 rfl rfl
theorem b3_39 {d : Nat} {i0 : Nat} {x1 x2 : Int} {u3 : MV} {I L : Nat → Nat → Nat → Int} {t : Nat → Nat} : Res d 3 39 [vr 0 i0, vi x1, vi x2, u3] [] (mk I L t) = Res d 3 44 [vr 0 i0, vi x1, vi x2, u3] [vi 1] (mk I L t) :=
  Eq.trans (e_iconst (x := 1) D3_39 rfl rfl) <| e_goto (q1 := 44) D3_40 rfl
theorem b3_43 {d : Nat} {i0 : Nat} {x1 x2 : Int} {u3 : MV} {I L : Nat → Nat → Nat → Int} {t : Nat → Nat} : Res d 3 43 [vr 0 i0, vi x1, vi x2, u3] [] (mk I L t) = Res d 3 44 [vr 0 i0, vi x1, vi x2, u3] [vi 0] (mk I L t) :=
  e_iconst (x := 0) D3_43 rfl rfl
theorem b3_44 {d : Nat} {i0 : Nat} {x1 x2 xs0 : Int} {u3 : MV} {I L : Nat → Nat → Nat → Int} {t : Nat → Nat} : Res d 3 44 [vr 0 i0, vi x1, vi x2, u3] [vi xs0] (mk I L t) = if xs0 = 0 then Res d 3 83 [vr 0 i0, vi x1, vi x2, vi xs0] [] (mk I L t) else Res d 3 49 [vr 0 i0, vi x1, vi x2, vi xs0] [] (mk I L t) :=
  Eq.trans (e_istore_n (ls1 := [vr 0 i0, vi x1, vi x2, vi xs0]) D3_44 rfl (show 3 < 4 by decide) rfl) <| Eq.trans (e_iload_n D3_45 rfl rfl) <| e_ifeq D3_46 rfl rfl
theorem b3_49 {d : Nat} {i0 : Nat} {x1 x2 x3 : Int} {I L : Nat → Nat → Nat → Int} {t : Nat → Nat} (g1 : 0 ≤ x2 ∧ x2 < 4) (g2 : 0 ≤ x1 ∧ x1 < 4) : Res d 3 49 [vr 0 i0, vi x1, vi x2, vi x3] [] (mk I L t) = if vLcmp (L 19 i0 x2.toNat) (L 19 i0 x1.toNat) < 0 then Res d 3 83 [vr 0 i0, vi x1, vi x2, vi x3] [] (mk I L t) else Res d 3 65 [vr 0 i0, vi x1, vi x2, vi x3] [] (mk I L t) :=
  Eq.trans (e_aload_n D3_49 rfl rfl) <| Eq.trans (e_getP (p := (19, i0)) D3_50 rfl o_3 f_0_30 (sh_0 _) (by decide) (pp_0_6 _ _)) <| Eq.trans (e_iload_n D3_53 rfl rfl) <| Eq.trans (e_lald D3_54 rfl (al_19 _) g1) <| Eq.trans (e_aload_n D3_55 rfl rfl) <| Eq.trans (e_getP (p := (19, i0)) D3_56 rfl o_3 f_0_30 (sh_0 _) (by decide) (pp_0_6 _ _)) <| Eq.trans (e_iload_n D3_59 rfl rfl) <| Eq.trans (e_lald D3_60 rfl (al_19 _) g2) <| Eq.trans (e_lcmp D3_61 rfl) <| e_iflt D3_62 rfl rfl
theorem b3_65 {d : Nat} {i0 : Nat} {x1 x2 x3 : Int} {I L : Nat → Nat → Nat → Int} {t : Nat → Nat} (g1 : 0 ≤ x2 ∧ x2 < 4) (g2 : 0 ≤ x1 ∧ x1 < 4) : Res d 3 65 [vr 0 i0, vi x1, vi x2, vi x3] [] (mk I L t) = if 0 < vLcmp (L 20 i0 x2.toNat) (L 20 i0 x1.toNat) then Res d 3 83 [vr 0 i0, vi x1, vi x2, vi x3] [] (mk I L t) else Res d 3 81 [vr 0 i0, vi x1, vi x2, vi x3] [] (mk I L t) :=
  Eq.trans (e_aload_n D3_65 rfl rfl) <| Eq.trans (e_getP (p := (20, i0)) D3_66 rfl o_3 f_0_34 (sh_0 _) (by decide) (pp_0_7 _ _)) <| Eq.trans (e_iload_n D3_69 rfl rfl) <| Eq.trans (e_lald D3_70 rfl (al_20 _) g1) <| Eq.trans (e_aload_n D3_71 rfl rfl) <| Eq.trans (e_getP (p := (20, i0)) D3_72 rfl o_3 f_0_34 (sh_0 _) (by decide) (pp_0_7 _ _)) <| Eq.trans (e_iload_n D3_75 rfl rfl) <| Eq.trans (e_lald D3_76 rfl (al_20 _) g2) <| Eq.trans (e_lcmp D3_77 rfl) <| e_ifgt D3_78 rfl rfl
theorem b3_81 {d : Nat} {i0 : Nat} {x1 x2 x3 : Int} {I L : Nat → Nat → Nat → Int} {t : Nat → Nat} : Res d 3 81 [vr 0 i0, vi x1, vi x2, vi x3] [] (mk I L t) = some (vi 1, (mk I L t)) :=
  Eq.trans (e_iconst (x := 1) D3_81 rfl rfl) <| e_iret D3_82 rfl
theorem b3_83 {d : Nat} {i0 : Nat} {x1 x2 x3 : Int} {I L : Nat → Nat → Nat → Int} {t : Nat → Nat} : Res d 3 83 [vr 0 i0, vi x1, vi x2, vi x3] [] (mk I L t) = Res d 3 2 [vr 0 i0, vi x1, vi (w32 (x2 + 1)), vi x3] [] (mk I L t) :=
  Eq.trans (e_iinc (ls1 := [vr 0 i0, vi x1, vi (w32 (x2 + 1)), vi x3]) D3_83 rfl rfl rfl) <| e_goto (q1 := 2) D3_86 rfl
theorem b3_89 {d : Nat} {i0 : Nat} {x1 x2 : Int} {u3 : MV} {I L : Nat → Nat → Nat → Int} {t : Nat → Nat} : Res d 3 89 [vr 0 i0, vi x1, vi x2, u3] [] (mk I L t) = some (vi 0, (mk I L t)) :=
  Eq.trans (e_iconst (x := 0) D3_89 rfl rfl) <| e_iret D3_90 rfl
/-! Bench_mockOddsAmong -/
theorem cc_4 : cod 4 = cX0_mockOddsAmong := rfl
theorem D4_0 : decode (cod 4) 0 = .ok (.iconst 1, 1) := by rw [cc_4]; decide +kernel
theorem D4_1 : decode (cod 4) 1 = .ok (.istore_n 3, 1) := by rw [cc_4]; decide +kernel
theorem D4_2 : decode (cod 4) 2 = .ok (.iconst 0, 1) := by rw [cc_4]; decide +kernel
theorem D4_3 : decode (cod 4) 3 = .ok (.istore 4, 2) := by rw [cc_4]; decide +kernel
theorem D4_5 : decode (cod 4) 5 = .ok (.iload 4, 2) := by rw [cc_4]; decide +kernel
theorem D4_7 : decode (cod 4) 7 = .ok (.bipush 9, 2) := by rw [cc_4]; decide +kernel
theorem D4_9 : decode (cod 4) 9 = .ok (.if_icmp .ge 51, 3) := by rw [cc_4]; decide +kernel
theorem D4_12 : decode (cod 4) 12 = .ok (.iload_n 1, 1) := by rw [cc_4]; decide +kernel
theorem D4_13 : decode (cod 4) 13 = .ok (.iload 4, 2) := by rw [cc_4]; decide +kernel
theorem D4_15 : decode (cod 4) 15 = .ok (.ishr, 1) := by rw [cc_4]; decide +kernel
theorem D4_16 : decode (cod 4) 16 = .ok (.iconst 1, 1) := by rw [cc_4]; decide +kernel
theorem D4_17 : decode (cod 4) 17 = .ok (.iand, 1) := by rw [cc_4]; decide +kernel
theorem D4_18 : decode (cod 4) 18 = .ok (.iconst 1, 1) := by rw [cc_4]; decide +kernel
theorem D4_19 : decode (cod 4) 19 = .ok (.if_icmp .ne 35, 3) := by rw [cc_4]; decide +kernel
theorem D4_22 : decode (cod 4) 22 = .ok (.aload_n 0, 1) := by rw [cc_4]; decide +kernel
theorem D4_23 : decode (cod 4) 23 = .ok (.getfield 24, 3) := by rw [cc_4]; decide +kernel
theorem D4_26 : decode (cod 4) 26 = .ok (.iload 4, 2) := by rw [cc_4]; decide +kernel
theorem D4_28 : decode (cod 4) 28 = .ok (.iaload, 1) := by rw [cc_4]; decide +kernel
theorem D4_29 : decode (cod 4) 29 = .ok (.iload_n 2, 1) := by rw [cc_4]; decide +kernel
theorem D4_30 : decode (cod 4) 30 = .ok (.if_icmp .le 5, 3) := by rw [cc_4]; decide +kernel
theorem D4_33 : decode (cod 4) 33 = .ok (.iconst 0, 1) := by rw [cc_4]; decide +kernel
theorem D4_34 : decode (cod 4) 34 = .ok (.ireturn, 1) := by rw [cc_4]; decide +kernel
theorem D4_35 : decode (cod 4) 35 = .ok (.iload_n 3, 1) := by rw [cc_4]; decide +kernel
theorem D4_36 : decode (cod 4) 36 = .ok (.aload_n 0, 1) := by rw [cc_4]; decide +kernel
theorem D4_37 : decode (cod 4) 37 = .ok (.getfield 24, 3) := by rw [cc_4]; decide +kernel
theorem D4_40 : decode (cod 4) 40 = .ok (.iload 4, 2) := by rw [cc_4]; decide +kernel
theorem D4_42 : decode (cod 4) 42 = .ok (.iaload, 1) := by rw [cc_4]; decide +kernel
theorem D4_43 : decode (cod 4) 43 = .ok (.iload_n 2, 1) := by rw [cc_4]; decide +kernel
theorem D4_44 : decode (cod 4) 44 = .ok (.if_icmp .ne 7, 3) := by rw [cc_4]; decide +kernel
theorem D4_47 : decode (cod 4) 47 = .ok (.iconst 1, 1) := by rw [cc_4]; decide +kernel
theorem D4_48 : decode (cod 4) 48 = .ok (.goto 4, 3) := by rw [cc_4]; decide +kernel
theorem D4_51 : decode (cod 4) 51 = .ok (.iconst 0, 1) := by rw [cc_4]; decide +kernel
theorem D4_52 : decode (cod 4) 52 = .ok (.iadd, 1) := by rw [cc_4]; decide +kernel
theorem D4_53 : decode (cod 4) 53 = .ok (.istore_n 3, 1) := by rw [cc_4]; decide +kernel
theorem D4_54 : decode (cod 4) 54 = .ok (.iinc 4 1, 3) := by rw [cc_4]; decide +kernel
theorem D4_57 : decode (cod 4) 57 = .ok (.goto (-52), 3) := by rw [cc_4]; decide +kernel
theorem D4_60 : decode (cod 4) 60 = .ok (.iload_n 3, 1) := by rw [cc_4]; decide +kernel
theorem D4_61 : decode (cod 4) 61 = .ok (.ifCond .gt 7, 3) := by rw [cc_4]; decide +kernel
theorem D4_64 : decode (cod 4) 64 = .ok (.iconst 0, 1) := by rw [cc_4]; decide +kernel
theorem D4_65 : decode (cod 4) 65 = .ok (.goto 7, 3) := by rw [cc_4]; decide +kernel
theorem D4_68 : decode (cod 4) 68 = .ok (.ldc 62, 2) := by rw [cc_4]; decide +kernel
theorem D4_70 : decode (cod 4) 70 = .ok (.iload_n 3, 1) := by rw [cc_4]; decide +kernel
theorem D4_71 : decode (cod 4) 71 = .ok (.idiv, 1) := by rw [cc_4]; decide +kernel
theorem D4_72 : decode (cod 4) 72 = .ok (.ireturn, 1) := by rw [cc_4]; decide +kernel
theorem b4_0 {d : Nat} {i0 : Nat} {x1 x2 : Int} {I L : Nat → Nat → Nat → Int} {t : Nat → Nat} : Res d 4 0 [vr 0 i0, vi x1, vi x2, vx, vx] [] (mk I L t) = Res d 4 5 [vr 0 i0, vi x1, vi x2, vi 1, vi 0] [] (mk I L t) :=
  Eq.trans (e_iconst (x := 1) D4_0 rfl rfl) <| Eq.trans (e_istore_n (ls1 := [vr 0 i0, vi x1, vi x2, vi 1, vx]) D4_1 rfl (show 3 < 5 by decide) rfl) <| Eq.trans (e_iconst (x := 0) D4_2 rfl rfl) <| e_istore (ls1 := [vr 0 i0, vi x1, vi x2, vi 1, vi 0]) D4_3 rfl (show 4 < 5 by decide) rfl
theorem b4_5 {d : Nat} {i0 : Nat} {x1 x2 x3 x4 : Int} {I L : Nat → Nat → Nat → Int} {t : Nat → Nat} : Res d 4 5 [vr 0 i0, vi x1, vi x2, vi x3, vi x4] [] (mk I L t) = if 9 ≤ x4 then Res d 4 60 [vr 0 i0, vi x1, vi x2, vi x3, vi x4] [] (mk I L t) else Res d 4 12 [vr 0 i0, vi x1, vi x2, vi x3, vi x4] [] (mk I L t) :=
  Eq.trans (e_iload D4_5 rfl rfl) <| Eq.trans (e_bipush (x := 9) D4_7 rfl rfl) <| e_icge D4_9 rfl rfl
theorem b4_12 {d : Nat} {i0 : Nat} {x1 x2 x3 x4 : Int} {I L : Nat → Nat → Nat → Int} {t : Nat → Nat} : Res d 4 12 [vr 0 i0, vi x1, vi x2, vi x3, vi x4] [] (mk I L t) = if ¬ vIand (vIshr x1 x4) 1 = 1 then Res d 4 54 [vr 0 i0, vi x1, vi x2, vi x3, vi x4] [] (mk I L t) else Res d 4 22 [vr 0 i0, vi x1, vi x2, vi x3, vi x4] [] (mk I L t) :=
  Eq.trans (e_iload_n D4_12 rfl rfl) <| Eq.trans (e_iload D4_13 rfl rfl) <| Eq.trans (e_ishr D4_15 rfl) <| Eq.trans (e_iconst (x := 1) D4_16 rfl rfl) <| Eq.trans (e_iand D4_17 rfl) <| Eq.trans (e_iconst (x := 1) D4_18 rfl rfl) <| e_icne D4_19 rfl rfl
theorem b4_22 {d : Nat} {i0 : Nat} {x1 x2 x3 x4 : Int} {I L : Nat → Nat → Nat → Int} {t : Nat → Nat} (g1 : 0 ≤ x4 ∧ x4 < 9) : Res d 4 22 [vr 0 i0, vi x1, vi x2, vi x3, vi x4] [] (mk I L t) = if I 17 i0 x4.toNat ≤ x2 then Res d 4 35 [vr 0 i0, vi x1, vi x2, vi x3, vi x4] [] (mk I L t) else Res d 4 33 [vr 0 i0, vi x1, vi x2, vi x3, vi x4] [] (mk I L t) :=
  Eq.trans (e_aload_n D4_22 rfl rfl) <| Eq.trans (e_getP (p := (17, i0)) D4_23 rfl o_4 f_0_24 (sh_0 _) (by decide) (pp_0_4 _ _)) <| Eq.trans (e_iload D4_26 rfl rfl) <| Eq.trans (e_iald D4_28 rfl (al_17 _) g1) <| Eq.trans (e_iload_n D4_29 rfl rfl) <| e_icle D4_30 rfl rfl
theorem b4_33 {d : Nat} {i0 : Nat} {x1 x2 x3 x4 : Int} {I L : Nat → Nat → Nat → Int} {t : Nat → Nat} : Res d 4 33 [vr 0 i0, vi x1, vi x2, vi x3, vi x4] [] (mk I L t) = some (vi 0, (mk I L t)) :=
  Eq.trans (e_iconst (x := 0) D4_33 rfl rfl) <| e_iret D4_34 rfl
theorem b4_35 {d : Nat} {i0 : Nat} {x1 x2 x3 x4 : Int} {I L : Nat → Nat → Nat → Int} {t : Nat → Nat} (g1 : 0 ≤ x4 ∧ x4 < 9) : Res d 4 35 [vr 0 i0, vi x1, vi x2, vi x3, vi x4] [] (mk I L t) = if ¬ I 17 i0 x4.toNat = x2 then Res d 4 51 [vr 0 i0, vi x1, vi x2, vi x3, vi x4] [vi x3] (mk I L t) else Res d 4 47 [vr 0 i0, vi x1, vi x2, vi x3, vi x4] [vi x3] (mk I L t) :=
  Eq.trans (e_iload_n D4_35 rfl rfl) <| Eq.trans (e_aload_n D4_36 rfl rfl) <| Eq.trans (e_getP (p := (17, i0)) D4_37 rfl o_4 f_0_24 (sh_0 _) (by decide) (pp_0_4 _ _)) <| Eq.trans (e_iload D4_40 rfl rfl) <| Eq.trans (e_iald D4_42 rfl (al_17 _) g1) <| Eq.trans (e_iload_n D4_43 rfl rfl) <| e_icne D4_44 rfl rfl
theorem b4_47 {d : Nat} {i0 : Nat} {x1 x2 x3 x4 xs0 : Int} {I L : Nat → Nat → Nat → Int} {t : Nat → Nat} : Res d 4 47 [vr 0 i0, vi x1, vi x2, vi x3, vi x4] [vi xs0] (mk I L t) = Res d 4 52 [vr 0 i0, vi x1, vi x2, vi x3, vi x4] [vi 1, vi xs0] (mk I L t) :=
  Eq.trans (e_iconst (x := 1) D4_47 rfl rfl) <| e_goto (q1 := 52) D4_48 rfl
theorem b4_51 {d : Nat} {i0 : Nat} {x1 x2 x3 x4 xs0 : Int} {I L : Nat → Nat → Nat → Int} {t : Nat → Nat} : Res d 4 51 [vr 0 i0, vi x1, vi x2, vi x3, vi x4] [vi xs0] (mk I L t) = Res d 4 52 [vr 0 i0, vi x1, vi x2, vi x3, vi x4] [vi 0, vi xs0] (mk I L t) :=
  e_iconst (x := 0) D4_51 rfl rfl
theorem b4_52 {d : Nat} {i0 : Nat} {x1 x2 x3 x4 xs1 xs0 : Int} {I L : Nat → Nat → Nat → Int} {t : Nat → Nat} : Res d 4 52 [vr 0 i0, vi x1, vi x2, vi x3, vi x4] [vi xs1, vi xs0] (mk I L t) = Res d 4 54 [vr 0 i0, vi x1, vi x2, vi (w32 (xs0 + xs1)), vi x4] [] (mk I L t) :=
  Eq.trans (e_iadd D4_52 rfl) <| e_istore_n (ls1 := [vr 0 i0, vi x1, vi x2, vi (w32 (xs0 + xs1)), vi x4]) D4_53 rfl (show 3 < 5 by decide) rfl
theorem b4_54 {d : Nat} {i0 : Nat} {x1 x2 x3 x4 : Int} {I L : Nat → Nat → Nat → Int} {t : Nat → Nat} : Res d 4 54 [vr 0 i0, vi x1, vi x2, vi x3, vi x4] [] (mk I L t) = Res d 4 5 [vr 0 i0, vi x1, vi x2, vi x3, vi (w32 (x4 + 1))] [] (mk I L t) :=
  Eq.trans (e_iinc (ls1 := [vr 0 i0, vi x1, vi x2, vi x3, vi (w32 (x4 + 1))]) D4_54 rfl rfl rfl) <| e_goto (q1 := 5) D4_57 rfl
theorem b4_60 {d : Nat} {i0 : Nat} {x1 x2 x3 x4 : Int} {I L : Nat → Nat → Nat → Int} {t : Nat → Nat} : Res d 4 60 [vr 0 i0, vi x1, vi x2, vi x3, vi x4] [] (mk I L t) = if 0 < x3 then Res d 4 68 [vr 0 i0, vi x1, vi x2, vi x3, vi x4] [] (mk I L t) else Res d 4 64 [vr 0 i0, vi x1, vi x2, vi x3, vi x4] [] (mk I L t) :=
  Eq.trans (e_iload_n D4_60 rfl rfl) <| e_ifgt D4_61 rfl rfl
theorem b4_64 {d : Nat} {i0 : Nat} {x1 x2 x3 x4 : Int} {I L : Nat → Nat → Nat → Int} {t : Nat → Nat} : Res d 4 64 [vr 0 i0, vi x1, vi x2, vi x3, vi x4] [] (mk I L t) = Res d 4 72 [vr 0 i0, vi x1, vi x2, vi x3, vi x4] [vi 0] (mk I L t) :=
  Eq.trans (e_iconst (x := 0) D4_64 rfl rfl) <| e_goto (q1 := 72) D4_65 rfl
theorem b4_68 {d : Nat} {i0 : Nat} {x1 x2 x3 x4 : Int} {I L : Nat → Nat → Nat → Int} {t : Nat → Nat} (g1 : x3 ≠ 0) : Res d 4 68 [vr 0 i0, vi x1, vi x2, vi x3, vi x4] [] (mk I L t) = Res d 4 72 [vr 0 i0, vi x1, vi x2, vi x3, vi x4] [vi (vIdiv 1000000 x3)] (mk I L t) :=
  Eq.trans (e_ldc (x := 1000000) D4_68 rfl o_4 i_0_62 rfl) <| Eq.trans (e_iload_n D4_70 rfl rfl) <| e_idiv D4_71 rfl g1
theorem b4_72 {d : Nat} {i0 : Nat} {x1 x2 x3 x4 xs0 : Int} {I L : Nat → Nat → Nat → Int} {t : Nat → Nat} : Res d 4 72 [vr 0 i0, vi x1, vi x2, vi x3, vi x4] [vi xs0] (mk I L t) = some (vi xs0, (mk I L t)) :=
  e_iret D4_72 rfl
/-! Bench_apartOf -/
theorem cc_5 : cod 5 = cX0_apartOf := rfl
theorem D5_0 : decode (cod 5) 0 = .ok (.iconst 0, 1) := by rw [cc_5]; decide +kernel
theorem D5_1 : decode (cod 5) 1 = .ok (.istore_n 2, 1) := by rw [cc_5]; decide +kernel
theorem D5_2 : decode (cod 5) 2 = .ok (.iconst 0, 1) := by rw [cc_5]; decide +kernel
theorem D5_3 : decode (cod 5) 3 = .ok (.istore_n 3, 1) := by rw [cc_5]; decide +kernel
theorem D5_4 : decode (cod 5) 4 = .ok (.iload_n 3, 1) := by rw [cc_5]; decide +kernel
theorem D5_5 : decode (cod 5) 5 = .ok (.bipush 9, 2) := by rw [cc_5]; decide +kernel
theorem D5_7 : decode (cod 5) 7 = .ok (.if_icmp .ge 31, 3) := by rw [cc_5]; decide +kernel
theorem D5_10 : decode (cod 5) 10 = .ok (.iload_n 2, 1) := by rw [cc_5]; decide +kernel
theorem D5_11 : decode (cod 5) 11 = .ok (.iload_n 1, 1) := by rw [cc_5]; decide +kernel
theorem D5_12 : decode (cod 5) 12 = .ok (.iload_n 3, 1) := by rw [cc_5]; decide +kernel
theorem D5_13 : decode (cod 5) 13 = .ok (.ishr, 1) := by rw [cc_5]; decide +kernel
theorem D5_14 : decode (cod 5) 14 = .ok (.iconst 1, 1) := by rw [cc_5]; decide +kernel
theorem D5_15 : decode (cod 5) 15 = .ok (.iand, 1) := by rw [cc_5]; decide +kernel
theorem D5_16 : decode (cod 5) 16 = .ok (.iconst 1, 1) := by rw [cc_5]; decide +kernel
theorem D5_17 : decode (cod 5) 17 = .ok (.if_icmp .ne 12, 3) := by rw [cc_5]; decide +kernel
theorem D5_20 : decode (cod 5) 20 = .ok (.aload_n 0, 1) := by rw [cc_5]; decide +kernel
theorem D5_21 : decode (cod 5) 21 = .ok (.getfield 27, 3) := by rw [cc_5]; decide +kernel
theorem D5_24 : decode (cod 5) 24 = .ok (.iload_n 3, 1) := by rw [cc_5]; decide +kernel
theorem D5_25 : decode (cod 5) 25 = .ok (.iaload, 1) := by rw [cc_5]; decide +kernel
theorem D5_26 : decode (cod 5) 26 = .ok (.goto 4, 3) := by rw [cc_5]; decide +kernel
theorem D5_29 : decode (cod 5) 29 = .ok (.iconst 0, 1) := by rw [cc_5]; decide +kernel
theorem D5_30 : decode (cod 5) 30 = .ok (.iadd, 1) := by rw [cc_5]; decide +kernel
theorem D5_31 : decode (cod 5) 31 = .ok (.istore_n 2, 1) := by rw [cc_5]; decide +kernel
theorem D5_32 : decode (cod 5) 32 = .ok (.iinc 3 1, 3) := by rw [cc_5]; decide +kernel
theorem D5_35 : decode (cod 5) 35 = .ok (.goto (-31), 3) := by rw [cc_5]; decide +kernel
theorem D5_38 : decode (cod 5) 38 = .ok (.iload_n 2, 1) := by rw [cc_5]; decide +kernel
theorem D5_39 : decode (cod 5) 39 = .ok (.ireturn, 1) := by rw [cc_5]; decide +kernel
theorem b5_0 {d : Nat} {i0 : Nat} {x1 : Int} {I L : Nat → Nat → Nat → Int} {t : Nat → Nat} : Res d 5 0 [vr 0 i0, vi x1, vx, vx] [] (mk I L t) = Res d 5 4 [vr 0 i0, vi x1, vi 0, vi 0] [] (mk I L t) :=
  Eq.trans (e_iconst (x := 0) D5_0 rfl rfl) <| Eq.trans (e_istore_n (ls1 := [vr 0 i0, vi x1, vi 0, vx]) D5_1 rfl (show 2 < 4 by decide) rfl) <| Eq.trans (e_iconst (x := 0) D5_2 rfl rfl) <| e_istore_n (ls1 := [vr 0 i0, vi x1, vi 0, vi 0]) D5_3 rfl (show 3 < 4 by decide) rfl
theorem b5_4 {d : Nat} {i0 : Nat} {x1 x2 x3 : Int} {I L : Nat → Nat → Nat → Int} {t : Nat → Nat} : Res d 5 4 [vr 0 i0, vi x1, vi x2, vi x3] [] (mk I L t) = if 9 ≤ x3 then Res d 5 38 [vr 0 i0, vi x1, vi x2, vi x3] [] (mk I L t) else Res d 5 10 [vr 0 i0, vi x1, vi x2, vi x3] [] (mk I L t) :=
  Eq.trans (e_iload_n D5_4 rfl rfl) <| Eq.trans (e_bipush (x := 9) D5_5 rfl rfl) <| e_icge D5_7 rfl rfl
theorem b5_10 {d : Nat} {i0 : Nat} {x1 x2 x3 : Int} {I L : Nat → Nat → Nat → Int} {t : Nat → Nat} : Res d 5 10 [vr 0 i0, vi x1, vi x2, vi x3] [] (mk I L t) = if ¬ vIand (vIshr x1 x3) 1 = 1 then Res d 5 29 [vr 0 i0, vi x1, vi x2, vi x3] [vi x2] (mk I L t) else Res d 5 20 [vr 0 i0, vi x1, vi x2, vi x3] [vi x2] (mk I L t) :=
  Eq.trans (e_iload_n D5_10 rfl rfl) <| Eq.trans (e_iload_n D5_11 rfl rfl) <| Eq.trans (e_iload_n D5_12 rfl rfl) <| Eq.trans (e_ishr D5_13 rfl) <| Eq.trans (e_iconst (x := 1) D5_14 rfl rfl) <| Eq.trans (e_iand D5_15 rfl) <| Eq.trans (e_iconst (x := 1) D5_16 rfl rfl) <| e_icne D5_17 rfl rfl
theorem b5_20 {d : Nat} {i0 : Nat} {x1 x2 x3 xs0 : Int} {I L : Nat → Nat → Nat → Int} {t : Nat → Nat} (g1 : 0 ≤ x3 ∧ x3 < 9) : Res d 5 20 [vr 0 i0, vi x1, vi x2, vi x3] [vi xs0] (mk I L t) = Res d 5 30 [vr 0 i0, vi x1, vi x2, vi x3] [vi (I 18 i0 x3.toNat), vi xs0] (mk I L t) :=
  Eq.trans (e_aload_n D5_20 rfl rfl) <| Eq.trans (e_getP (p := (18, i0)) D5_21 rfl o_5 f_0_27 (sh_0 _) (by decide) (pp_0_5 _ _)) <| Eq.trans (e_iload_n D5_24 rfl rfl) <| Eq.trans (e_iald D5_25 rfl (al_18 _) g1) <| e_goto (q1 := 30) D5_26 rfl
theorem b5_29 {d : Nat} {i0 : Nat} {x1 x2 x3 xs0 : Int} {I L : Nat → Nat → Nat → Int} {t : Nat → Nat} : Res d 5 29 [vr 0 i0, vi x1, vi x2, vi x3] [vi xs0] (mk I L t) = Res d 5 30 [vr 0 i0, vi x1, vi x2, vi x3] [vi 0, vi xs0] (mk I L t) :=
  e_iconst (x := 0) D5_29 rfl rfl
theorem b5_30 {d : Nat} {i0 : Nat} {x1 x2 x3 xs1 xs0 : Int} {I L : Nat → Nat → Nat → Int} {t : Nat → Nat} : Res d 5 30 [vr 0 i0, vi x1, vi x2, vi x3] [vi xs1, vi xs0] (mk I L t) = Res d 5 4 [vr 0 i0, vi x1, vi (w32 (xs0 + xs1)), vi (w32 (x3 + 1))] [] (mk I L t) :=
  Eq.trans (e_iadd D5_30 rfl) <| Eq.trans (e_istore_n (ls1 := [vr 0 i0, vi x1, vi (w32 (xs0 + xs1)), vi x3]) D5_31 rfl (show 2 < 4 by decide) rfl) <| Eq.trans (e_iinc (ls1 := [vr 0 i0, vi x1, vi (w32 (xs0 + xs1)), vi (w32 (x3 + 1))]) D5_32 rfl rfl rfl) <| e_goto (q1 := 4) D5_35 rfl
theorem b5_38 {d : Nat} {i0 : Nat} {x1 x2 x3 : Int} {I L : Nat → Nat → Nat → Int} {t : Nat → Nat} : Res d 5 38 [vr 0 i0, vi x1, vi x2, vi x3] [] (mk I L t) = some (vi x2, (mk I L t)) :=
  Eq.trans (e_iload_n D5_38 rfl rfl) <| e_iret D5_39 rfl
/-! Bench_breed -/
theorem cc_6 : cod 6 = cX0_breed := rfl
theorem D6_0 : decode (cod 6) 0 = .ok (.iload_n 1, 1) := by rw [cc_6]; decide +kernel
theorem D6_1 : decode (cod 6) 1 = .ok (.iconst 0, 1) := by rw [cc_6]; decide +kernel
theorem D6_2 : decode (cod 6) 2 = .ok (.bipush 8, 2) := by rw [cc_6]; decide +kernel
theorem D6_4 : decode (cod 6) 4 = .ok (.invokestatic 58, 3) := by rw [cc_6]; decide +kernel
theorem D6_7 : decode (cod 6) 7 = .ok (.ifCond .eq 13, 3) := by rw [cc_6]; decide +kernel
theorem D6_10 : decode (cod 6) 10 = .ok (.iload_n 2, 1) := by rw [cc_6]; decide +kernel
theorem D6_11 : decode (cod 6) 11 = .ok (.iconst 0, 1) := by rw [cc_6]; decide +kernel
theorem D6_12 : decode (cod 6) 12 = .ok (.bipush 8, 2) := by rw [cc_6]; decide +kernel
theorem D6_14 : decode (cod 6) 14 = .ok (.invokestatic 58, 3) := by rw [cc_6]; decide +kernel
theorem D6_17 : decode (cod 6) 17 = .ok (.ifCond .ne 4, 3) := by rw [cc_6]; decide +kernel
theorem D6_20 : decode (cod 6) 20 = .ok (.return_, 1) := by rw [cc_6]; decide +kernel
theorem D6_21 : decode (cod 6) 21 = .ok (.aload_n 0, 1) := by rw [cc_6]; decide +kernel
theorem D6_22 : decode (cod 6) 22 = .ok (.getfield 51, 3) := by rw [cc_6]; decide +kernel
theorem D6_25 : decode (cod 6) 25 = .ok (.aload_n 0, 1) := by rw [cc_6]; decide +kernel
theorem D6_26 : decode (cod 6) 26 = .ok (.getfield 46, 3) := by rw [cc_6]; decide +kernel
theorem D6_29 : decode (cod 6) 29 = .ok (.iload_n 1, 1) := by rw [cc_6]; decide +kernel
theorem D6_30 : decode (cod 6) 30 = .ok (.aaload, 1) := by rw [cc_6]; decide +kernel
theorem D6_31 : decode (cod 6) 31 = .ok (.invokevirtual 65, 3) := by rw [cc_6]; decide +kernel
theorem D6_34 : decode (cod 6) 34 = .ok (.aload_n 0, 1) := by rw [cc_6]; decide +kernel
theorem D6_35 : decode (cod 6) 35 = .ok (.getfield 55, 3) := by rw [cc_6]; decide +kernel
theorem D6_38 : decode (cod 6) 38 = .ok (.aload_n 0, 1) := by rw [cc_6]; decide +kernel
theorem D6_39 : decode (cod 6) 39 = .ok (.getfield 46, 3) := by rw [cc_6]; decide +kernel
theorem D6_42 : decode (cod 6) 42 = .ok (.iload_n 2, 1) := by rw [cc_6]; decide +kernel
theorem D6_43 : decode (cod 6) 43 = .ok (.aaload, 1) := by rw [cc_6]; decide +kernel
theorem D6_44 : decode (cod 6) 44 = .ok (.invokevirtual 65, 3) := by rw [cc_6]; decide +kernel
theorem D6_47 : decode (cod 6) 47 = .ok (.iconst 0, 1) := by rw [cc_6]; decide +kernel
theorem D6_48 : decode (cod 6) 48 = .ok (.istore 4, 2) := by rw [cc_6]; decide +kernel
theorem D6_50 : decode (cod 6) 50 = .ok (.iload 4, 2) := by rw [cc_6]; decide +kernel
theorem D6_52 : decode (cod 6) 52 = .ok (.bipush 9, 2) := by rw [cc_6]; decide +kernel
theorem D6_54 : decode (cod 6) 54 = .ok (.if_icmp .ge 23, 3) := by rw [cc_6]; decide +kernel
theorem D6_57 : decode (cod 6) 57 = .ok (.aload_n 0, 1) := by rw [cc_6]; decide +kernel
theorem D6_58 : decode (cod 6) 58 = .ok (.aload_n 0, 1) := by rw [cc_6]; decide +kernel
theorem D6_59 : decode (cod 6) 59 = .ok (.getfield 46, 3) := by rw [cc_6]; decide +kernel
theorem D6_62 : decode (cod 6) 62 = .ok (.iload 4, 2) := by rw [cc_6]; decide +kernel
theorem D6_64 : decode (cod 6) 64 = .ok (.aaload, 1) := by rw [cc_6]; decide +kernel
theorem D6_65 : decode (cod 6) 65 = .ok (.iload 4, 2) := by rw [cc_6]; decide +kernel
theorem D6_67 : decode (cod 6) 67 = .ok (.iload_n 3, 1) := by rw [cc_6]; decide +kernel
theorem D6_68 : decode (cod 6) 68 = .ok (.invokevirtual 69, 3) := by rw [cc_6]; decide +kernel
theorem D6_71 : decode (cod 6) 71 = .ok (.iinc 4 1, 3) := by rw [cc_6]; decide +kernel
theorem D6_74 : decode (cod 6) 74 = .ok (.goto (-24), 3) := by rw [cc_6]; decide +kernel
theorem D6_77 : decode (cod 6) 77 = .ok (.return_, 1) := by rw [cc_6]; decide +kernel
theorem b6_0 {d : Nat} {i0 : Nat} {x1 x2 x3 : Int} {I L : Nat → Nat → Nat → Int} {t : Nat → Nat} : Res (d + 1) 6 0 [vr 0 i0, vi x1, vi x2, vi x3, vx] [] (mk I L t) = (Cal d 102 [vi x1, vi 0, vi 8] (mk I L t)).bind fun v => Res (d + 1) 6 7 [vr 0 i0, vi x1, vi x2, vi x3, vx] (psh 102 v.1 []) v.2 :=
  Eq.trans (e_iload_n D6_0 rfl rfl) <| Eq.trans (e_iconst (x := 0) D6_1 rfl rfl) <| Eq.trans (e_bipush (x := 8) D6_2 rfl rfl) <| e_callS D6_4 rfl o_6 m_0_58 (by decide) rfl rfl
theorem b6_7 {d : Nat} {i0 : Nat} {x1 x2 x3 xs0 : Int} {I L : Nat → Nat → Nat → Int} {t : Nat → Nat} : Res d 6 7 [vr 0 i0, vi x1, vi x2, vi x3, vx] [vi xs0] (mk I L t) = if xs0 = 0 then Res d 6 20 [vr 0 i0, vi x1, vi x2, vi x3, vx] [] (mk I L t) else Res d 6 10 [vr 0 i0, vi x1, vi x2, vi x3, vx] [] (mk I L t) :=
  e_ifeq D6_7 rfl rfl
theorem b6_10 {d : Nat} {i0 : Nat} {x1 x2 x3 : Int} {I L : Nat → Nat → Nat → Int} {t : Nat → Nat} : Res (d + 1) 6 10 [vr 0 i0, vi x1, vi x2, vi x3, vx] [] (mk I L t) = (Cal d 102 [vi x2, vi 0, vi 8] (mk I L t)).bind fun v => Res (d + 1) 6 17 [vr 0 i0, vi x1, vi x2, vi x3, vx] (psh 102 v.1 []) v.2 :=
  Eq.trans (e_iload_n D6_10 rfl rfl) <| Eq.trans (e_iconst (x := 0) D6_11 rfl rfl) <| Eq.trans (e_bipush (x := 8) D6_12 rfl rfl) <| e_callS D6_14 rfl o_6 m_0_58 (by decide) rfl rfl
theorem b6_17 {d : Nat} {i0 : Nat} {x1 x2 x3 xs0 : Int} {I L : Nat → Nat → Nat → Int} {t : Nat → Nat} : Res d 6 17 [vr 0 i0, vi x1, vi x2, vi x3, vx] [vi xs0] (mk I L t) = if ¬ xs0 = 0 then Res d 6 21 [vr 0 i0, vi x1, vi x2, vi x3, vx] [] (mk I L t) else Res d 6 20 [vr 0 i0, vi x1, vi x2, vi x3, vx] [] (mk I L t) :=
  e_ifne D6_17 rfl rfl
theorem b6_20 {d : Nat} {i0 : Nat} {x1 x2 x3 : Int} {I L : Nat → Nat → Nat → Int} {t : Nat → Nat} : Res d 6 20 [vr 0 i0, vi x1, vi x2, vi x3, vx] [] (mk I L t) = some (vx, (mk I L t)) :=
  e_vret D6_20 rfl
theorem b6_21 {d : Nat} {i0 : Nat} {x1 x2 x3 : Int} {I L : Nat → Nat → Nat → Int} {t : Nat → Nat} (g1 : 0 ≤ x1 ∧ x1 < 9) : Res (d + 1) 6 21 [vr 0 i0, vi x1, vi x2, vi x3, vx] [] (mk I L t) = (Cal d 10 [vr 1 129, vr 1 (120 + x1.toNat)] (mk I L t)).bind fun v => Res (d + 1) 6 34 [vr 0 i0, vi x1, vi x2, vi x3, vx] (psh 10 v.1 []) v.2 :=
  Eq.trans (e_aload_n D6_21 rfl rfl) <| Eq.trans (e_getP (p := (1, 129)) D6_22 rfl o_6 f_0_51 (sh_0 _) (by decide) (pp_0_10 _ _)) <| Eq.trans (e_aload_n D6_25 rfl rfl) <| Eq.trans (e_getP (p := (21, i0)) D6_26 rfl o_6 f_0_46 (sh_0 _) (by decide) (pp_0_9 _ _)) <| Eq.trans (e_iload_n D6_29 rfl rfl) <| Eq.trans (e_aald (p := (1, 120 + x1.toNat)) D6_30 rfl (ae_21 _) (aq_21 _) (pa_21 _ _ _) g1) <| e_callV D6_31 rfl o_6 m_0_65 (by decide) rfl rfl
theorem b6_34 {d : Nat} {i0 : Nat} {x1 x2 x3 : Int} {I L : Nat → Nat → Nat → Int} {t : Nat → Nat} (g1 : 0 ≤ x2 ∧ x2 < 9) : Res (d + 1) 6 34 [vr 0 i0, vi x1, vi x2, vi x3, vx] [] (mk I L t) = (Cal d 10 [vr 1 130, vr 1 (120 + x2.toNat)] (mk I L t)).bind fun v => Res (d + 1) 6 47 [vr 0 i0, vi x1, vi x2, vi x3, vx] (psh 10 v.1 []) v.2 :=
  Eq.trans (e_aload_n D6_34 rfl rfl) <| Eq.trans (e_getP (p := (1, 130)) D6_35 rfl o_6 f_0_55 (sh_0 _) (by decide) (pp_0_11 _ _)) <| Eq.trans (e_aload_n D6_38 rfl rfl) <| Eq.trans (e_getP (p := (21, i0)) D6_39 rfl o_6 f_0_46 (sh_0 _) (by decide) (pp_0_9 _ _)) <| Eq.trans (e_iload_n D6_42 rfl rfl) <| Eq.trans (e_aald (p := (1, 120 + x2.toNat)) D6_43 rfl (ae_21 _) (aq_21 _) (pa_21 _ _ _) g1) <| e_callV D6_44 rfl o_6 m_0_65 (by decide) rfl rfl
theorem b6_47 {d : Nat} {i0 : Nat} {x1 x2 x3 : Int} {I L : Nat → Nat → Nat → Int} {t : Nat → Nat} : Res d 6 47 [vr 0 i0, vi x1, vi x2, vi x3, vx] [] (mk I L t) = Res d 6 50 [vr 0 i0, vi x1, vi x2, vi x3, vi 0] [] (mk I L t) :=
  Eq.trans (e_iconst (x := 0) D6_47 rfl rfl) <| e_istore (ls1 := [vr 0 i0, vi x1, vi x2, vi x3, vi 0]) D6_48 rfl (show 4 < 5 by decide) rfl
theorem b6_50 {d : Nat} {i0 : Nat} {x1 x2 x3 x4 : Int} {I L : Nat → Nat → Nat → Int} {t : Nat → Nat} : Res d 6 50 [vr 0 i0, vi x1, vi x2, vi x3, vi x4] [] (mk I L t) = if 9 ≤ x4 then Res d 6 77 [vr 0 i0, vi x1, vi x2, vi x3, vi x4] [] (mk I L t) else Res d 6 57 [vr 0 i0, vi x1, vi x2, vi x3, vi x4] [] (mk I L t) :=
  Eq.trans (e_iload D6_50 rfl rfl) <| Eq.trans (e_bipush (x := 9) D6_52 rfl rfl) <| e_icge D6_54 rfl rfl
theorem b6_57 {d : Nat} {i0 : Nat} {x1 x2 x3 x4 : Int} {I L : Nat → Nat → Nat → Int} {t : Nat → Nat} (g1 : 0 ≤ x4 ∧ x4 < 9) : Res (d + 1) 6 57 [vr 0 i0, vi x1, vi x2, vi x3, vi x4] [] (mk I L t) = (Cal d 7 [vr 0 i0, vr 1 (120 + x4.toNat), vi x4, vi x3] (mk I L t)).bind fun v => Res (d + 1) 6 71 [vr 0 i0, vi x1, vi x2, vi x3, vi x4] (psh 7 v.1 []) v.2 :=
  Eq.trans (e_aload_n D6_57 rfl rfl) <| Eq.trans (e_aload_n D6_58 rfl rfl) <| Eq.trans (e_getP (p := (21, i0)) D6_59 rfl o_6 f_0_46 (sh_0 _) (by decide) (pp_0_9 _ _)) <| Eq.trans (e_iload D6_62 rfl rfl) <| Eq.trans (e_aald (p := (1, 120 + x4.toNat)) D6_64 rfl (ae_21 _) (aq_21 _) (pa_21 _ _ _) g1) <| Eq.trans (e_iload D6_65 rfl rfl) <| Eq.trans (e_iload_n D6_67 rfl rfl) <| e_callV D6_68 rfl o_6 m_0_69 (by decide) rfl rfl
theorem b6_71 {d : Nat} {i0 : Nat} {x1 x2 x3 x4 : Int} {I L : Nat → Nat → Nat → Int} {t : Nat → Nat} : Res d 6 71 [vr 0 i0, vi x1, vi x2, vi x3, vi x4] [] (mk I L t) = Res d 6 50 [vr 0 i0, vi x1, vi x2, vi x3, vi (w32 (x4 + 1))] [] (mk I L t) :=
  Eq.trans (e_iinc (ls1 := [vr 0 i0, vi x1, vi x2, vi x3, vi (w32 (x4 + 1))]) D6_71 rfl rfl rfl) <| e_goto (q1 := 50) D6_74 rfl
theorem b6_77 {d : Nat} {i0 : Nat} {x1 x2 x3 x4 : Int} {I L : Nat → Nat → Nat → Int} {t : Nat → Nat} : Res d 6 77 [vr 0 i0, vi x1, vi x2, vi x3, vi x4] [] (mk I L t) = some (vx, (mk I L t)) :=
  e_vret D6_77 rfl
/-! Bench_bear -/
theorem cc_7 : cod 7 = cX0_bear := rfl
theorem D7_0 : decode (cod 7) 0 = .ok (.aload_n 1, 1) := by rw [cc_7]; decide +kernel
theorem D7_1 : decode (cod 7) 1 = .ok (.aload_n 0, 1) := by rw [cc_7]; decide +kernel
theorem D7_2 : decode (cod 7) 2 = .ok (.getfield 51, 3) := by rw [cc_7]; decide +kernel
theorem D7_5 : decode (cod 7) 5 = .ok (.invokevirtual 65, 3) := by rw [cc_7]; decide +kernel
theorem D7_8 : decode (cod 7) 8 = .ok (.iconst 0, 1) := by rw [cc_7]; decide +kernel
theorem D7_9 : decode (cod 7) 9 = .ok (.istore 4, 2) := by rw [cc_7]; decide +kernel
theorem D7_11 : decode (cod 7) 11 = .ok (.iload 4, 2) := by rw [cc_7]; decide +kernel
theorem D7_13 : decode (cod 7) 13 = .ok (.bipush 16, 2) := by rw [cc_7]; decide +kernel
theorem D7_15 : decode (cod 7) 15 = .ok (.if_icmp .ge 53, 3) := by rw [cc_7]; decide +kernel
theorem D7_18 : decode (cod 7) 18 = .ok (.iload_n 2, 1) := by rw [cc_7]; decide +kernel
theorem D7_19 : decode (cod 7) 19 = .ok (.iload_n 2, 1) := by rw [cc_7]; decide +kernel
theorem D7_20 : decode (cod 7) 20 = .ok (.iload 4, 2) := by rw [cc_7]; decide +kernel
theorem D7_22 : decode (cod 7) 22 = .ok (.iadd, 1) := by rw [cc_7]; decide +kernel
theorem D7_23 : decode (cod 7) 23 = .ok (.iconst 3, 1) := by rw [cc_7]; decide +kernel
theorem D7_24 : decode (cod 7) 24 = .ok (.irem, 1) := by rw [cc_7]; decide +kernel
theorem D7_25 : decode (cod 7) 25 = .ok (.ishr, 1) := by rw [cc_7]; decide +kernel
theorem D7_26 : decode (cod 7) 26 = .ok (.iconst 1, 1) := by rw [cc_7]; decide +kernel
theorem D7_27 : decode (cod 7) 27 = .ok (.iand, 1) := by rw [cc_7]; decide +kernel
theorem D7_28 : decode (cod 7) 28 = .ok (.iconst 1, 1) := by rw [cc_7]; decide +kernel
theorem D7_29 : decode (cod 7) 29 = .ok (.if_icmp .ne 33, 3) := by rw [cc_7]; decide +kernel
theorem D7_32 : decode (cod 7) 32 = .ok (.aload_n 1, 1) := by rw [cc_7]; decide +kernel
theorem D7_33 : decode (cod 7) 33 = .ok (.getfield 73, 3) := by rw [cc_7]; decide +kernel
theorem D7_36 : decode (cod 7) 36 = .ok (.iload 4, 2) := by rw [cc_7]; decide +kernel
theorem D7_38 : decode (cod 7) 38 = .ok (.aload_n 0, 1) := by rw [cc_7]; decide +kernel
theorem D7_39 : decode (cod 7) 39 = .ok (.getfield 51, 3) := by rw [cc_7]; decide +kernel
theorem D7_42 : decode (cod 7) 42 = .ok (.getfield 73, 3) := by rw [cc_7]; decide +kernel
theorem D7_45 : decode (cod 7) 45 = .ok (.iload 4, 2) := by rw [cc_7]; decide +kernel
theorem D7_47 : decode (cod 7) 47 = .ok (.iaload, 1) := by rw [cc_7]; decide +kernel
theorem D7_48 : decode (cod 7) 48 = .ok (.aload_n 0, 1) := by rw [cc_7]; decide +kernel
theorem D7_49 : decode (cod 7) 49 = .ok (.getfield 55, 3) := by rw [cc_7]; decide +kernel
theorem D7_52 : decode (cod 7) 52 = .ok (.getfield 73, 3) := by rw [cc_7]; decide +kernel
theorem D7_55 : decode (cod 7) 55 = .ok (.iload 4, 2) := by rw [cc_7]; decide +kernel
theorem D7_57 : decode (cod 7) 57 = .ok (.iaload, 1) := by rw [cc_7]; decide +kernel
theorem D7_58 : decode (cod 7) 58 = .ok (.iadd, 1) := by rw [cc_7]; decide +kernel
theorem D7_59 : decode (cod 7) 59 = .ok (.iconst 2, 1) := by rw [cc_7]; decide +kernel
theorem D7_60 : decode (cod 7) 60 = .ok (.idiv, 1) := by rw [cc_7]; decide +kernel
theorem D7_61 : decode (cod 7) 61 = .ok (.iastore, 1) := by rw [cc_7]; decide +kernel
theorem D7_62 : decode (cod 7) 62 = .ok (.iinc 4 1, 3) := by rw [cc_7]; decide +kernel
theorem D7_65 : decode (cod 7) 65 = .ok (.goto (-54), 3) := by rw [cc_7]; decide +kernel
theorem D7_68 : decode (cod 7) 68 = .ok (.iload_n 2, 1) := by rw [cc_7]; decide +kernel
theorem D7_69 : decode (cod 7) 69 = .ok (.ifCond .le 53, 3) := by rw [cc_7]; decide +kernel
theorem D7_72 : decode (cod 7) 72 = .ok (.iconst 5, 1) := by rw [cc_7]; decide +kernel
theorem D7_73 : decode (cod 7) 73 = .ok (.iload_n 2, 1) := by rw [cc_7]; decide +kernel
theorem D7_74 : decode (cod 7) 74 = .ok (.imul, 1) := by rw [cc_7]; decide +kernel
theorem D7_75 : decode (cod 7) 75 = .ok (.iload_n 3, 1) := by rw [cc_7]; decide +kernel
theorem D7_76 : decode (cod 7) 76 = .ok (.iadd, 1) := by rw [cc_7]; decide +kernel
theorem D7_77 : decode (cod 7) 77 = .ok (.bipush 16, 2) := by rw [cc_7]; decide +kernel
theorem D7_79 : decode (cod 7) 79 = .ok (.invokestatic 76, 3) := by rw [cc_7]; decide +kernel
theorem D7_82 : decode (cod 7) 82 = .ok (.istore 4, 2) := by rw [cc_7]; decide +kernel
theorem D7_84 : decode (cod 7) 84 = .ok (.iload_n 2, 1) := by rw [cc_7]; decide +kernel
theorem D7_85 : decode (cod 7) 85 = .ok (.iconst 2, 1) := by rw [cc_7]; decide +kernel
theorem D7_86 : decode (cod 7) 86 = .ok (.irem, 1) := by rw [cc_7]; decide +kernel
theorem D7_87 : decode (cod 7) 87 = .ok (.iconst 1, 1) := by rw [cc_7]; decide +kernel
theorem D7_88 : decode (cod 7) 88 = .ok (.if_icmp .ne 7, 3) := by rw [cc_7]; decide +kernel
theorem D7_91 : decode (cod 7) 91 = .ok (.iconst 2, 1) := by rw [cc_7]; decide +kernel
theorem D7_92 : decode (cod 7) 92 = .ok (.goto 5, 3) := by rw [cc_7]; decide +kernel
theorem D7_95 : decode (cod 7) 95 = .ok (.bipush (-2), 2) := by rw [cc_7]; decide +kernel
theorem D7_97 : decode (cod 7) 97 = .ok (.istore 5, 2) := by rw [cc_7]; decide +kernel
theorem D7_99 : decode (cod 7) 99 = .ok (.aload_n 1, 1) := by rw [cc_7]; decide +kernel
theorem D7_100 : decode (cod 7) 100 = .ok (.getfield 73, 3) := by rw [cc_7]; decide +kernel
theorem D7_103 : decode (cod 7) 103 = .ok (.iload 4, 2) := by rw [cc_7]; decide +kernel
theorem D7_105 : decode (cod 7) 105 = .ok (.aload_n 1, 1) := by rw [cc_7]; decide +kernel
theorem D7_106 : decode (cod 7) 106 = .ok (.getfield 73, 3) := by rw [cc_7]; decide +kernel
theorem D7_109 : decode (cod 7) 109 = .ok (.iload 4, 2) := by rw [cc_7]; decide +kernel
theorem D7_111 : decode (cod 7) 111 = .ok (.iaload, 1) := by rw [cc_7]; decide +kernel
theorem D7_112 : decode (cod 7) 112 = .ok (.iload 5, 2) := by rw [cc_7]; decide +kernel
theorem D7_114 : decode (cod 7) 114 = .ok (.iadd, 1) := by rw [cc_7]; decide +kernel
theorem D7_115 : decode (cod 7) 115 = .ok (.iconst 0, 1) := by rw [cc_7]; decide +kernel
theorem D7_116 : decode (cod 7) 116 = .ok (.bipush 31, 2) := by rw [cc_7]; decide +kernel
theorem D7_118 : decode (cod 7) 118 = .ok (.invokestatic 82, 3) := by rw [cc_7]; decide +kernel
theorem D7_121 : decode (cod 7) 121 = .ok (.iastore, 1) := by rw [cc_7]; decide +kernel
theorem D7_122 : decode (cod 7) 122 = .ok (.return_, 1) := by rw [cc_7]; decide +kernel
theorem b7_0 {d : Nat} {i0 i1 : Nat} {x2 x3 : Int} {I L : Nat → Nat → Nat → Int} {t : Nat → Nat} : Res (d + 1) 7 0 [vr 0 i0, vr 1 i1, vi x2, vi x3, vx, vx] [] (mk I L t) = (Cal d 10 [vr 1 i1, vr 1 129] (mk I L t)).bind fun v => Res (d + 1) 7 8 [vr 0 i0, vr 1 i1, vi x2, vi x3, vx, vx] (psh 10 v.1 []) v.2 :=
  Eq.trans (e_aload_n D7_0 rfl rfl) <| Eq.trans (e_aload_n D7_1 rfl rfl) <| Eq.trans (e_getP (p := (1, 129)) D7_2 rfl o_7 f_0_51 (sh_0 _) (by decide) (pp_0_10 _ _)) <| e_callV D7_5 rfl o_7 m_0_65 (by decide) rfl rfl
theorem b7_8 {d : Nat} {i0 i1 : Nat} {x2 x3 : Int} {I L : Nat → Nat → Nat → Int} {t : Nat → Nat} : Res d 7 8 [vr 0 i0, vr 1 i1, vi x2, vi x3, vx, vx] [] (mk I L t) = Res d 7 11 [vr 0 i0, vr 1 i1, vi x2, vi x3, vi 0, vx] [] (mk I L t) :=
  Eq.trans (e_iconst (x := 0) D7_8 rfl rfl) <| e_istore (ls1 := [vr 0 i0, vr 1 i1, vi x2, vi x3, vi 0, vx]) D7_9 rfl (show 4 < 6 by decide) rfl
theorem b7_11 {d : Nat} {i0 i1 : Nat} {x2 x3 x4 : Int} {I L : Nat → Nat → Nat → Int} {t : Nat → Nat} : Res d 7 11 [vr 0 i0, vr 1 i1, vi x2, vi x3, vi x4, vx] [] (mk I L t) = if 16 ≤ x4 then Res d 7 68 [vr 0 i0, vr 1 i1, vi x2, vi x3, vi x4, vx] [] (mk I L t) else Res d 7 18 [vr 0 i0, vr 1 i1, vi x2, vi x3, vi x4, vx] [] (mk I L t) :=
  Eq.trans (e_iload D7_11 rfl rfl) <| Eq.trans (e_bipush (x := 16) D7_13 rfl rfl) <| e_icge D7_15 rfl rfl
theorem b7_18 {d : Nat} {i0 i1 : Nat} {x2 x3 x4 : Int} {I L : Nat → Nat → Nat → Int} {t : Nat → Nat} : Res d 7 18 [vr 0 i0, vr 1 i1, vi x2, vi x3, vi x4, vx] [] (mk I L t) = if ¬ vIand (vIshr x2 (vIrem (w32 (x2 + x4)) 3)) 1 = 1 then Res d 7 62 [vr 0 i0, vr 1 i1, vi x2, vi x3, vi x4, vx] [] (mk I L t) else Res d 7 32 [vr 0 i0, vr 1 i1, vi x2, vi x3, vi x4, vx] [] (mk I L t) :=
  Eq.trans (e_iload_n D7_18 rfl rfl) <| Eq.trans (e_iload_n D7_19 rfl rfl) <| Eq.trans (e_iload D7_20 rfl rfl) <| Eq.trans (e_iadd D7_22 rfl) <| Eq.trans (e_iconst (x := 3) D7_23 rfl rfl) <| Eq.trans (e_irem D7_24 rfl (by decide)) <| Eq.trans (e_ishr D7_25 rfl) <| Eq.trans (e_iconst (x := 1) D7_26 rfl rfl) <| Eq.trans (e_iand D7_27 rfl) <| Eq.trans (e_iconst (x := 1) D7_28 rfl rfl) <| e_icne D7_29 rfl rfl
theorem b7_32 {d : Nat} {i0 i1 : Nat} {x2 x3 x4 : Int} {I L : Nat → Nat → Nat → Int} {t : Nat → Nat} (g1 : 0 ≤ x4 ∧ x4 < 16) : Res d 7 32 [vr 0 i0, vr 1 i1, vi x2, vi x3, vi x4, vx] [] (mk I L t) = Res d 7 62 [vr 0 i0, vr 1 i1, vi x2, vi x3, vi x4, vx] [] (mk (up3 I 22 i1 x4.toNat (vIdiv (w32 ((I 22 129 x4.toNat) + (I 22 130 x4.toNat))) 2)) L t) :=
  Eq.trans (e_aload_n D7_32 rfl rfl) <| Eq.trans (e_getP (p := (22, i1)) D7_33 rfl o_7 f_0_73 (sh_1 _) (by decide) (pp_1_0 _ _)) <| Eq.trans (e_iload D7_36 rfl rfl) <| Eq.trans (e_aload_n D7_38 rfl rfl) <| Eq.trans (e_getP (p := (1, 129)) D7_39 rfl o_7 f_0_51 (sh_0 _) (by decide) (pp_0_10 _ _)) <| Eq.trans (e_getP (p := (22, 129)) D7_42 rfl o_7 f_0_73 (sh_1 _) (by decide) (pp_1_0 _ _)) <| Eq.trans (e_iload D7_45 rfl rfl) <| Eq.trans (e_iald D7_47 rfl (al_22 _) g1) <| Eq.trans (e_aload_n D7_48 rfl rfl) <| Eq.trans (e_getP (p := (1, 130)) D7_49 rfl o_7 f_0_55 (sh_0 _) (by decide) (pp_0_11 _ _)) <| Eq.trans (e_getP (p := (22, 130)) D7_52 rfl o_7 f_0_73 (sh_1 _) (by decide) (pp_1_0 _ _)) <| Eq.trans (e_iload D7_55 rfl rfl) <| Eq.trans (e_iald D7_57 rfl (al_22 _) g1) <| Eq.trans (e_iadd D7_58 rfl) <| Eq.trans (e_iconst (x := 2) D7_59 rfl rfl) <| Eq.trans (e_idiv D7_60 rfl (by decide)) <| e_iast D7_61 rfl (al_22 _) rfl g1
theorem b7_62 {d : Nat} {i0 i1 : Nat} {x2 x3 x4 : Int} {I L : Nat → Nat → Nat → Int} {t : Nat → Nat} : Res d 7 62 [vr 0 i0, vr 1 i1, vi x2, vi x3, vi x4, vx] [] (mk I L t) = Res d 7 11 [vr 0 i0, vr 1 i1, vi x2, vi x3, vi (w32 (x4 + 1)), vx] [] (mk I L t) :=
  Eq.trans (e_iinc (ls1 := [vr 0 i0, vr 1 i1, vi x2, vi x3, vi (w32 (x4 + 1)), vx]) D7_62 rfl rfl rfl) <| e_goto (q1 := 11) D7_65 rfl
theorem b7_68 {d : Nat} {i0 i1 : Nat} {x2 x3 x4 : Int} {I L : Nat → Nat → Nat → Int} {t : Nat → Nat} : Res d 7 68 [vr 0 i0, vr 1 i1, vi x2, vi x3, vi x4, vx] [] (mk I L t) = if x2 ≤ 0 then Res d 7 122 [vr 0 i0, vr 1 i1, vi x2, vi x3, vi x4, vx] [] (mk I L t) else Res d 7 72 [vr 0 i0, vr 1 i1, vi x2, vi x3, vi x4, vx] [] (mk I L t) :=
  Eq.trans (e_iload_n D7_68 rfl rfl) <| e_ifle D7_69 rfl rfl
theorem b7_72 {d : Nat} {i0 i1 : Nat} {x2 x3 x4 : Int} {I L : Nat → Nat → Nat → Int} {t : Nat → Nat} : Res (d + 1) 7 72 [vr 0 i0, vr 1 i1, vi x2, vi x3, vi x4, vx] [] (mk I L t) = (Cal d 245 [vi (w32 ((w32 (5 * x2)) + x3)), vi 16] (mk I L t)).bind fun v => Res (d + 1) 7 82 [vr 0 i0, vr 1 i1, vi x2, vi x3, vi x4, vx] (psh 245 v.1 []) v.2 :=
  Eq.trans (e_iconst (x := 5) D7_72 rfl rfl) <| Eq.trans (e_iload_n D7_73 rfl rfl) <| Eq.trans (e_imul D7_74 rfl) <| Eq.trans (e_iload_n D7_75 rfl rfl) <| Eq.trans (e_iadd D7_76 rfl) <| Eq.trans (e_bipush (x := 16) D7_77 rfl rfl) <| e_callS D7_79 rfl o_7 m_0_76 (by decide) rfl rfl
theorem b7_82 {d : Nat} {i0 i1 : Nat} {x2 x3 x4 xs0 : Int} {I L : Nat → Nat → Nat → Int} {t : Nat → Nat} : Res d 7 82 [vr 0 i0, vr 1 i1, vi x2, vi x3, vi x4, vx] [vi xs0] (mk I L t) = if ¬ vIrem x2 2 = 1 then Res d 7 95 [vr 0 i0, vr 1 i1, vi x2, vi x3, vi xs0, vx] [] (mk I L t) else Res d 7 91 [vr 0 i0, vr 1 i1, vi x2, vi x3, vi xs0, vx] [] (mk I L t) :=
  Eq.trans (e_istore (ls1 := [vr 0 i0, vr 1 i1, vi x2, vi x3, vi xs0, vx]) D7_82 rfl (show 4 < 6 by decide) rfl) <| Eq.trans (e_iload_n D7_84 rfl rfl) <| Eq.trans (e_iconst (x := 2) D7_85 rfl rfl) <| Eq.trans (e_irem D7_86 rfl (by decide)) <| Eq.trans (e_iconst (x := 1) D7_87 rfl rfl) <| e_icne D7_88 rfl rfl
theorem b7_91 {d : Nat} {i0 i1 : Nat} {x2 x3 x4 : Int} {I L : Nat → Nat → Nat → Int} {t : Nat → Nat} : Res d 7 91 [vr 0 i0, vr 1 i1, vi x2, vi x3, vi x4, vx] [] (mk I L t) = Res d 7 97 [vr 0 i0, vr 1 i1, vi x2, vi x3, vi x4, vx] [vi 2] (mk I L t) :=
  Eq.trans (e_iconst (x := 2) D7_91 rfl rfl) <| e_goto (q1 := 97) D7_92 rfl
theorem b7_95 {d : Nat} {i0 i1 : Nat} {x2 x3 x4 : Int} {I L : Nat → Nat → Nat → Int} {t : Nat → Nat} : Res d 7 95 [vr 0 i0, vr 1 i1, vi x2, vi x3, vi x4, vx] [] (mk I L t) = Res d 7 97 [vr 0 i0, vr 1 i1, vi x2, vi x3, vi x4, vx] [vi (-2)] (mk I L t) :=
  e_bipush (x := -2) D7_95 rfl rfl
theorem b7_97 {d : Nat} {i0 i1 : Nat} {x2 x3 x4 xs0 : Int} {I L : Nat → Nat → Nat → Int} {t : Nat → Nat} (g1 : 0 ≤ x4 ∧ x4 < 16) : Res (d + 1) 7 97 [vr 0 i0, vr 1 i1, vi x2, vi x3, vi x4, vx] [vi xs0] (mk I L t) = (Cal d 103 [vi (w32 ((I 22 i1 x4.toNat) + xs0)), vi 0, vi 31] (mk I L t)).bind fun v => Res (d + 1) 7 121 [vr 0 i0, vr 1 i1, vi x2, vi x3, vi x4, vi xs0] (psh 103 v.1 [vi x4, vr 22 i1]) v.2 :=
  Eq.trans (e_istore (ls1 := [vr 0 i0, vr 1 i1, vi x2, vi x3, vi x4, vi xs0]) D7_97 rfl (show 5 < 6 by decide) rfl) <| Eq.trans (e_aload_n D7_99 rfl rfl) <| Eq.trans (e_getP (p := (22, i1)) D7_100 rfl o_7 f_0_73 (sh_1 _) (by decide) (pp_1_0 _ _)) <| Eq.trans (e_iload D7_103 rfl rfl) <| Eq.trans (e_aload_n D7_105 rfl rfl) <| Eq.trans (e_getP (p := (22, i1)) D7_106 rfl o_7 f_0_73 (sh_1 _) (by decide) (pp_1_0 _ _)) <| Eq.trans (e_iload D7_109 rfl rfl) <| Eq.trans (e_iald D7_111 rfl (al_22 _) g1) <| Eq.trans (e_iload D7_112 rfl rfl) <| Eq.trans (e_iadd D7_114 rfl) <| Eq.trans (e_iconst (x := 0) D7_115 rfl rfl) <| Eq.trans (e_bipush (x := 31) D7_116 rfl rfl) <| e_callS D7_118 rfl o_7 m_0_82 (by decide) rfl rfl
theorem b7_121 {d : Nat} {i0 i1 is0 : Nat} {x2 x3 x4 x5 xs2 xs1 : Int} {I L : Nat → Nat → Nat → Int} {t : Nat → Nat} (g1 : 0 ≤ xs1 ∧ xs1 < 16) : Res d 7 121 [vr 0 i0, vr 1 i1, vi x2, vi x3, vi x4, vi x5] [vi xs2, vi xs1, vr 22 is0] (mk I L t) = Res d 7 122 [vr 0 i0, vr 1 i1, vi x2, vi x3, vi x4, vi x5] [] (mk (up3 I 22 is0 xs1.toNat xs2) L t) :=
  e_iast D7_121 rfl (al_22 _) rfl g1
theorem b7_122 {d : Nat} {i0 i1 : Nat} {x2 x3 x4 : Int} {u5 : MV} {I L : Nat → Nat → Nat → Int} {t : Nat → Nat} : Res d 7 122 [vr 0 i0, vr 1 i1, vi x2, vi x3, vi x4, u5] [] (mk I L t) = some (vx, (mk I L t)) :=
  e_vret D7_122 rfl
/-! Face_setFour -/
theorem cc_9 : cod 9 = cX1_setFour := rfl
theorem D9_0 : decode (cod 9) 0 = .ok (.iconst 0, 1) := by rw [cc_9]; decide +kernel
theorem D9_1 : decode (cod 9) 1 = .ok (.istore_n 3, 1) := by rw [cc_9]; decide +kernel
theorem D9_2 : decode (cod 9) 2 = .ok (.iload_n 3, 1) := by rw [cc_9]; decide +kernel
theorem D9_3 : decode (cod 9) 3 = .ok (.iconst 4, 1) := by rw [cc_9]; decide +kernel
theorem D9_4 : decode (cod 9) 4 = .ok (.if_icmp .ge 29, 3) := by rw [cc_9]; decide +kernel
theorem D9_7 : decode (cod 9) 7 = .ok (.aload_n 0, 1) := by rw [cc_9]; decide +kernel
theorem D9_8 : decode (cod 9) 8 = .ok (.getfield 9, 3) := by rw [cc_9]; decide +kernel
theorem D9_11 : decode (cod 9) 11 = .ok (.iload_n 1, 1) := by rw [cc_9]; decide +kernel
theorem D9_12 : decode (cod 9) 12 = .ok (.iload_n 3, 1) := by rw [cc_9]; decide +kernel
theorem D9_13 : decode (cod 9) 13 = .ok (.iadd, 1) := by rw [cc_9]; decide +kernel
theorem D9_14 : decode (cod 9) 14 = .ok (.iload_n 2, 1) := by rw [cc_9]; decide +kernel
theorem D9_15 : decode (cod 9) 15 = .ok (.bipush 24, 2) := by rw [cc_9]; decide +kernel
theorem D9_17 : decode (cod 9) 17 = .ok (.bipush 8, 2) := by rw [cc_9]; decide +kernel
theorem D9_19 : decode (cod 9) 19 = .ok (.iload_n 3, 1) := by rw [cc_9]; decide +kernel
theorem D9_20 : decode (cod 9) 20 = .ok (.imul, 1) := by rw [cc_9]; decide +kernel
theorem D9_21 : decode (cod 9) 21 = .ok (.isub, 1) := by rw [cc_9]; decide +kernel
theorem D9_22 : decode (cod 9) 22 = .ok (.ishr, 1) := by rw [cc_9]; decide +kernel
theorem D9_23 : decode (cod 9) 23 = .ok (.bipush 31, 2) := by rw [cc_9]; decide +kernel
theorem D9_25 : decode (cod 9) 25 = .ok (.iand, 1) := by rw [cc_9]; decide +kernel
theorem D9_26 : decode (cod 9) 26 = .ok (.iastore, 1) := by rw [cc_9]; decide +kernel
theorem D9_27 : decode (cod 9) 27 = .ok (.iinc 3 1, 3) := by rw [cc_9]; decide +kernel
theorem D9_30 : decode (cod 9) 30 = .ok (.goto (-28), 3) := by rw [cc_9]; decide +kernel
theorem D9_33 : decode (cod 9) 33 = .ok (.return_, 1) := by rw [cc_9]; decide +kernel
theorem b9_0 {d : Nat} {i0 : Nat} {x1 x2 : Int} {I L : Nat → Nat → Nat → Int} {t : Nat → Nat} : Res d 9 0 [vr 1 i0, vi x1, vi x2, vx] [] (mk I L t) = Res d 9 2 [vr 1 i0, vi x1, vi x2, vi 0] [] (mk I L t) :=
  Eq.trans (e_iconst (x := 0) D9_0 rfl rfl) <| e_istore_n (ls1 := [vr 1 i0, vi x1, vi x2, vi 0]) D9_1 rfl (show 3 < 4 by decide) rfl
theorem b9_2 {d : Nat} {i0 : Nat} {x1 x2 x3 : Int} {I L : Nat → Nat → Nat → Int} {t : Nat → Nat} : Res d 9 2 [vr 1 i0, vi x1, vi x2, vi x3] [] (mk I L t) = if 4 ≤ x3 then Res d 9 33 [vr 1 i0, vi x1, vi x2, vi x3] [] (mk I L t) else Res d 9 7 [vr 1 i0, vi x1, vi x2, vi x3] [] (mk I L t) :=
  Eq.trans (e_iload_n D9_2 rfl rfl) <| Eq.trans (e_iconst (x := 4) D9_3 rfl rfl) <| e_icge D9_4 rfl rfl
theorem b9_7 {d : Nat} {i0 : Nat} {x1 x2 x3 : Int} {I L : Nat → Nat → Nat → Int} {t : Nat → Nat} (g1 : 0 ≤ w32 (x1 + x3) ∧ w32 (x1 + x3) < 16) : Res d 9 7 [vr 1 i0, vi x1, vi x2, vi x3] [] (mk I L t) = Res d 9 2 [vr 1 i0, vi x1, vi x2, vi (w32 (x3 + 1))] [] (mk (up3 I 22 i0 (w32 (x1 + x3)).toNat (vIand (vIshr x2 (w32 (24 - (w32 (8 * x3))))) 31)) L t) :=
  Eq.trans (e_aload_n D9_7 rfl rfl) <| Eq.trans (e_getP (p := (22, i0)) D9_8 rfl o_9 f_1_9 (sh_1 _) (by decide) (pp_1_0 _ _)) <| Eq.trans (e_iload_n D9_11 rfl rfl) <| Eq.trans (e_iload_n D9_12 rfl rfl) <| Eq.trans (e_iadd D9_13 rfl) <| Eq.trans (e_iload_n D9_14 rfl rfl) <| Eq.trans (e_bipush (x := 24) D9_15 rfl rfl) <| Eq.trans (e_bipush (x := 8) D9_17 rfl rfl) <| Eq.trans (e_iload_n D9_19 rfl rfl) <| Eq.trans (e_imul D9_20 rfl) <| Eq.trans (e_isub D9_21 rfl) <| Eq.trans (e_ishr D9_22 rfl) <| Eq.trans (e_bipush (x := 31) D9_23 rfl rfl) <| Eq.trans (e_iand D9_25 rfl) <| Eq.trans (e_iast D9_26 rfl (al_22 _) rfl g1) <| Eq.trans (e_iinc (ls1 := [vr 1 i0, vi x1, vi x2, vi (w32 (x3 + 1))]) D9_27 rfl rfl rfl) <| e_goto (q1 := 2) D9_30 rfl
theorem b9_33 {d : Nat} {i0 : Nat} {x1 x2 x3 : Int} {I L : Nat → Nat → Nat → Int} {t : Nat → Nat} : Res d 9 33 [vr 1 i0, vi x1, vi x2, vi x3] [] (mk I L t) = some (vx, (mk I L t)) :=
  e_vret D9_33 rfl
/-! Face_copy -/
theorem cc_10 : cod 10 = cX1_copy := rfl
theorem D10_0 : decode (cod 10) 0 = .ok (.aload_n 0, 1) := by rw [cc_10]; decide +kernel
theorem D10_1 : decode (cod 10) 1 = .ok (.aload_n 1, 1) := by rw [cc_10]; decide +kernel
theorem D10_2 : decode (cod 10) 2 = .ok (.getfield 19, 3) := by rw [cc_10]; decide +kernel
theorem D10_5 : decode (cod 10) 5 = .ok (.putfield 19, 3) := by rw [cc_10]; decide +kernel
theorem D10_8 : decode (cod 10) 8 = .ok (.aload_n 0, 1) := by rw [cc_10]; decide +kernel
theorem D10_9 : decode (cod 10) 9 = .ok (.aload_n 1, 1) := by rw [cc_10]; decide +kernel
theorem D10_10 : decode (cod 10) 10 = .ok (.getfield 15, 3) := by rw [cc_10]; decide +kernel
theorem D10_13 : decode (cod 10) 13 = .ok (.putfield 15, 3) := by rw [cc_10]; decide +kernel
theorem D10_16 : decode (cod 10) 16 = .ok (.aload_n 1, 1) := by rw [cc_10]; decide +kernel
theorem D10_17 : decode (cod 10) 17 = .ok (.getfield 9, 3) := by rw [cc_10]; decide +kernel
theorem D10_20 : decode (cod 10) 20 = .ok (.iconst 0, 1) := by rw [cc_10]; decide +kernel
theorem D10_21 : decode (cod 10) 21 = .ok (.aload_n 0, 1) := by rw [cc_10]; decide +kernel
theorem D10_22 : decode (cod 10) 22 = .ok (.getfield 9, 3) := by rw [cc_10]; decide +kernel
theorem D10_25 : decode (cod 10) 25 = .ok (.iconst 0, 1) := by rw [cc_10]; decide +kernel
theorem D10_26 : decode (cod 10) 26 = .ok (.bipush 16, 2) := by rw [cc_10]; decide +kernel
theorem D10_28 : decode (cod 10) 28 = .ok (.invokestatic 22, 3) := by rw [cc_10]; decide +kernel
theorem D10_31 : decode (cod 10) 31 = .ok (.return_, 1) := by rw [cc_10]; decide +kernel
theorem b10_0 {d : Nat} {i0 i1 : Nat} {I L : Nat → Nat → Nat → Int} {t : Nat → Nat} : Res (d + 1) 10 0 [vr 1 i0, vr 1 i1] [] (mk I L t) = some (vx, (mk (cpI (up3 (up3 I 1 i0 1 (I 1 i1 1)) 1 i0 2 ((up3 I 1 i0 1 (I 1 i1 1)) 1 i1 2)) 22 i1 0 22 i0 0 16) L t)) :=
  Eq.trans (e_aload_n D10_0 rfl rfl) <| Eq.trans (e_aload_n D10_1 rfl rfl) <| Eq.trans (e_getI D10_2 rfl o_10 f_1_19 (sh_1 _) (by decide)) <| Eq.trans (e_putI D10_5 rfl o_10 f_1_19 (sh_1 _) rfl (by decide) (Or.inl (by decide))) <| Eq.trans (e_aload_n D10_8 rfl rfl) <| Eq.trans (e_aload_n D10_9 rfl rfl) <| Eq.trans (e_getI D10_10 rfl o_10 f_1_15 (sh_1 _) (by decide)) <| Eq.trans (e_putI D10_13 rfl o_10 f_1_15 (sh_1 _) rfl (by decide) (Or.inl (by decide))) <| Eq.trans (e_aload_n D10_16 rfl rfl) <| Eq.trans (e_getP (p := (22, i1)) D10_17 rfl o_10 f_1_9 (sh_1 _) (by decide) (pp_1_0 _ _)) <| Eq.trans (e_iconst (x := 0) D10_20 rfl rfl) <| Eq.trans (e_aload_n D10_21 rfl rfl) <| Eq.trans (e_getP (p := (22, i0)) D10_22 rfl o_10 f_1_9 (sh_1 _) (by decide) (pp_1_0 _ _)) <| Eq.trans (e_iconst (x := 0) D10_25 rfl rfl) <| Eq.trans (e_bipush (x := 16) D10_26 rfl rfl) <| Eq.trans (e_acpy (by omega) D10_28 rfl o_10 m_1_22 rfl rfl (al_22 _) (al_22 _) (by decide)) <| e_vret D10_31 rfl
/-! Face_differenceFrom -/
theorem cc_11 : cod 11 = cX1_differenceFrom := rfl
theorem D11_0 : decode (cod 11) 0 = .ok (.aload_n 0, 1) := by rw [cc_11]; decide +kernel
theorem D11_1 : decode (cod 11) 1 = .ok (.getfield 9, 3) := by rw [cc_11]; decide +kernel
theorem D11_4 : decode (cod 11) 4 = .ok (.aload_n 1, 1) := by rw [cc_11]; decide +kernel
theorem D11_5 : decode (cod 11) 5 = .ok (.iconst 0, 1) := by rw [cc_11]; decide +kernel
theorem D11_6 : decode (cod 11) 6 = .ok (.bipush 16, 2) := by rw [cc_11]; decide +kernel
theorem D11_8 : decode (cod 11) 8 = .ok (.invokestatic 28, 3) := by rw [cc_11]; decide +kernel
theorem D11_11 : decode (cod 11) 11 = .ok (.ireturn, 1) := by rw [cc_11]; decide +kernel
theorem b11_0 {d : Nat} {i0 i1 r1 : Nat} {I L : Nat → Nat → Nat → Int} {t : Nat → Nat} : Res (d + 1) 11 0 [vr 1 i0, vr r1 i1] [] (mk I L t) = (Cal d 125 [vr 22 i0, vr r1 i1, vi 0, vi 16] (mk I L t)).bind fun v => Res (d + 1) 11 11 [vr 1 i0, vr r1 i1] (psh 125 v.1 []) v.2 :=
  Eq.trans (e_aload_n D11_0 rfl rfl) <| Eq.trans (e_getP (p := (22, i0)) D11_1 rfl o_11 f_1_9 (sh_1 _) (by decide) (pp_1_0 _ _)) <| Eq.trans (e_aload_n D11_4 rfl rfl) <| Eq.trans (e_iconst (x := 0) D11_5 rfl rfl) <| Eq.trans (e_bipush (x := 16) D11_6 rfl rfl) <| e_callS D11_8 rfl o_11 m_1_28 (by decide) rfl rfl
theorem b11_11 {d : Nat} {i0 i1 r1 : Nat} {xs0 : Int} {I L : Nat → Nat → Nat → Int} {t : Nat → Nat} : Res d 11 11 [vr 1 i0, vr r1 i1] [vi xs0] (mk I L t) = some (vi xs0, (mk I L t)) :=
  e_iret D11_11 rfl
/-! Head_empty -/
theorem cc_13 : cod 13 = cX2_empty := rfl
theorem D13_0 : decode (cod 13) 0 = .ok (.aload_n 0, 1) := by rw [cc_13]; decide +kernel
theorem D13_1 : decode (cod 13) 1 = .ok (.iconst 0, 1) := by rw [cc_13]; decide +kernel
theorem D13_2 : decode (cod 13) 2 = .ok (.putfield 27, 3) := by rw [cc_13]; decide +kernel
theorem D13_5 : decode (cod 13) 5 = .ok (.aload_n 0, 1) := by rw [cc_13]; decide +kernel
theorem D13_6 : decode (cod 13) 6 = .ok (.iconst 0, 1) := by rw [cc_13]; decide +kernel
theorem D13_7 : decode (cod 13) 7 = .ok (.putfield 31, 3) := by rw [cc_13]; decide +kernel
theorem D13_10 : decode (cod 13) 10 = .ok (.aload_n 0, 1) := by rw [cc_13]; decide +kernel
theorem D13_11 : decode (cod 13) 11 = .ok (.getfield 18, 3) := by rw [cc_13]; decide +kernel
theorem D13_14 : decode (cod 13) 14 = .ok (.iconst 0, 1) := by rw [cc_13]; decide +kernel
theorem D13_15 : decode (cod 13) 15 = .ok (.invokestatic 34, 3) := by rw [cc_13]; decide +kernel
theorem D13_18 : decode (cod 13) 18 = .ok (.aload_n 0, 1) := by rw [cc_13]; decide +kernel
theorem D13_19 : decode (cod 13) 19 = .ok (.getfield 21, 3) := by rw [cc_13]; decide +kernel
theorem D13_22 : decode (cod 13) 22 = .ok (.iconst 0, 1) := by rw [cc_13]; decide +kernel
theorem D13_23 : decode (cod 13) 23 = .ok (.invokestatic 34, 3) := by rw [cc_13]; decide +kernel
theorem D13_26 : decode (cod 13) 26 = .ok (.return_, 1) := by rw [cc_13]; decide +kernel
theorem b13_0 {d : Nat} {i0 : Nat} {I L : Nat → Nat → Nat → Int} {t : Nat → Nat} : Res (d + 1) 13 0 [vr 2 i0] [] (mk I L t) = (Cal d 249 [vr 25 i0, vi 0] (mk (up3 (up3 I 2 i0 5 0) 2 i0 6 0) L t)).bind fun v => Res (d + 1) 13 18 [vr 2 i0] (psh 249 v.1 []) v.2 :=
  Eq.trans (e_aload_n D13_0 rfl rfl) <| Eq.trans (e_iconst (x := 0) D13_1 rfl rfl) <| Eq.trans (e_putI D13_2 rfl o_13 f_2_27 (sh_2 _) rfl (by decide) (Or.inl (by decide))) <| Eq.trans (e_aload_n D13_5 rfl rfl) <| Eq.trans (e_iconst (x := 0) D13_6 rfl rfl) <| Eq.trans (e_putI D13_7 rfl o_13 f_2_31 (sh_2 _) rfl (by decide) (Or.inl (by decide))) <| Eq.trans (e_aload_n D13_10 rfl rfl) <| Eq.trans (e_getP (p := (25, i0)) D13_11 rfl o_13 f_2_18 (sh_2 _) (by decide) (pp_2_2 _ _)) <| Eq.trans (e_iconst (x := 0) D13_14 rfl rfl) <| e_callS D13_15 rfl o_13 m_2_34 (by decide) rfl rfl
theorem b13_18 {d : Nat} {i0 : Nat} {I L : Nat → Nat → Nat → Int} {t : Nat → Nat} : Res (d + 1) 13 18 [vr 2 i0] [] (mk I L t) = (Cal d 249 [vr 26 i0, vi 0] (mk I L t)).bind fun v => Res (d + 1) 13 26 [vr 2 i0] (psh 249 v.1 []) v.2 :=
  Eq.trans (e_aload_n D13_18 rfl rfl) <| Eq.trans (e_getP (p := (26, i0)) D13_19 rfl o_13 f_2_21 (sh_2 _) (by decide) (pp_2_3 _ _)) <| Eq.trans (e_iconst (x := 0) D13_22 rfl rfl) <| e_callS D13_23 rfl o_13 m_2_34 (by decide) rfl rfl
theorem b13_26 {d : Nat} {i0 : Nat} {I L : Nat → Nat → Nat → Int} {t : Nat → Nat} : Res d 13 26 [vr 2 i0] [] (mk I L t) = some (vx, (mk I L t)) :=
  e_vret D13_26 rfl
/-! Head_has -/
theorem cc_14 : cod 14 = cX2_has := rfl
theorem D14_0 : decode (cod 14) 0 = .ok (.aload_n 0, 1) := by rw [cc_14]; decide +kernel
theorem D14_1 : decode (cod 14) 1 = .ok (.getfield 21, 3) := by rw [cc_14]; decide +kernel
theorem D14_4 : decode (cod 14) 4 = .ok (.iload_n 1, 1) := by rw [cc_14]; decide +kernel
theorem D14_5 : decode (cod 14) 5 = .ok (.iaload, 1) := by rw [cc_14]; decide +kernel
theorem D14_6 : decode (cod 14) 6 = .ok (.aload_n 0, 1) := by rw [cc_14]; decide +kernel
theorem D14_7 : decode (cod 14) 7 = .ok (.getfield 18, 3) := by rw [cc_14]; decide +kernel
theorem D14_10 : decode (cod 14) 10 = .ok (.iload_n 1, 1) := by rw [cc_14]; decide +kernel
theorem D14_11 : decode (cod 14) 11 = .ok (.iaload, 1) := by rw [cc_14]; decide +kernel
theorem D14_12 : decode (cod 14) 12 = .ok (.if_icmp .le 7, 3) := by rw [cc_14]; decide +kernel
theorem D14_15 : decode (cod 14) 15 = .ok (.iconst 1, 1) := by rw [cc_14]; decide +kernel
theorem D14_16 : decode (cod 14) 16 = .ok (.goto 4, 3) := by rw [cc_14]; decide +kernel
theorem D14_19 : decode (cod 14) 19 = .ok (.iconst 0, 1) := by rw [cc_14]; decide +kernel
theorem D14_20 : decode (cod 14) 20 = .ok (.ireturn, 1) := by rw [cc_14]; decide +kernel
theorem b14_0 {d : Nat} {i0 : Nat} {x1 : Int} {I L : Nat → Nat → Nat → Int} {t : Nat → Nat} (g1 : 0 ≤ x1 ∧ x1 < 8) : Res d 14 0 [vr 2 i0, vi x1] [] (mk I L t) = if I 26 i0 x1.toNat ≤ I 25 i0 x1.toNat then Res d 14 19 [vr 2 i0, vi x1] [] (mk I L t) else Res d 14 15 [vr 2 i0, vi x1] [] (mk I L t) :=
  Eq.trans (e_aload_n D14_0 rfl rfl) <| Eq.trans (e_getP (p := (26, i0)) D14_1 rfl o_14 f_2_21 (sh_2 _) (by decide) (pp_2_3 _ _)) <| Eq.trans (e_iload_n D14_4 rfl rfl) <| Eq.trans (e_iald D14_5 rfl (al_26 _) g1) <| Eq.trans (e_aload_n D14_6 rfl rfl) <| Eq.trans (e_getP (p := (25, i0)) D14_7 rfl o_14 f_2_18 (sh_2 _) (by decide) (pp_2_2 _ _)) <| Eq.trans (e_iload_n D14_10 rfl rfl) <| Eq.trans (e_iald D14_11 rfl (al_25 _) g1) <| e_icle D14_12 rfl rfl
theorem b14_15 {d : Nat} {i0 : Nat} {x1 : Int} {I L : Nat → Nat → Nat → Int} {t : Nat → Nat} : Res d 14 15 [vr 2 i0, vi x1] [] (mk I L t) = Res d 14 20 [vr 2 i0, vi x1] [vi 1] (mk I L t) :=
  Eq.trans (e_iconst (x := 1) D14_15 rfl rfl) <| e_goto (q1 := 20) D14_16 rfl
theorem b14_19 {d : Nat} {i0 : Nat} {x1 : Int} {I L : Nat → Nat → Nat → Int} {t : Nat → Nat} : Res d 14 19 [vr 2 i0, vi x1] [] (mk I L t) = Res d 14 20 [vr 2 i0, vi x1] [vi 0] (mk I L t) :=
  e_iconst (x := 0) D14_19 rfl rfl
theorem b14_20 {d : Nat} {i0 : Nat} {x1 xs0 : Int} {I L : Nat → Nat → Nat → Int} {t : Nat → Nat} (g1 : xs0 = 0 ∨ xs0 = 1) : Res d 14 20 [vr 2 i0, vi x1] [vi xs0] (mk I L t) = some (vi xs0, (mk I L t)) :=
  e_iret D14_20 (nrz rfl g1)
/-! Head_opn -/
theorem cc_15 : cod 15 = cX2_open := rfl
theorem D15_0 : decode (cod 15) 0 = .ok (.aload_n 0, 1) := by rw [cc_15]; decide +kernel
theorem D15_1 : decode (cod 15) 1 = .ok (.getfield 18, 3) := by rw [cc_15]; decide +kernel
theorem D15_4 : decode (cod 15) 4 = .ok (.iload_n 1, 1) := by rw [cc_15]; decide +kernel
theorem D15_5 : decode (cod 15) 5 = .ok (.aload_n 0, 1) := by rw [cc_15]; decide +kernel
theorem D15_6 : decode (cod 15) 6 = .ok (.getfield 27, 3) := by rw [cc_15]; decide +kernel
theorem D15_9 : decode (cod 15) 9 = .ok (.iastore, 1) := by rw [cc_15]; decide +kernel
theorem D15_10 : decode (cod 15) 10 = .ok (.return_, 1) := by rw [cc_15]; decide +kernel
theorem b15_0 {d : Nat} {i0 : Nat} {x1 : Int} {I L : Nat → Nat → Nat → Int} {t : Nat → Nat} (g1 : 0 ≤ x1 ∧ x1 < 8) : Res d 15 0 [vr 2 i0, vi x1] [] (mk I L t) = some (vx, (mk (up3 I 25 i0 x1.toNat (I 2 i0 5)) L t)) :=
  Eq.trans (e_aload_n D15_0 rfl rfl) <| Eq.trans (e_getP (p := (25, i0)) D15_1 rfl o_15 f_2_18 (sh_2 _) (by decide) (pp_2_2 _ _)) <| Eq.trans (e_iload_n D15_4 rfl rfl) <| Eq.trans (e_aload_n D15_5 rfl rfl) <| Eq.trans (e_getI D15_6 rfl o_15 f_2_27 (sh_2 _) (by decide)) <| Eq.trans (e_iast D15_9 rfl (al_25 _) rfl g1) <| e_vret D15_10 rfl
/-! Head_close -/
theorem cc_16 : cod 16 = cX2_close := rfl
theorem D16_0 : decode (cod 16) 0 = .ok (.aload_n 0, 1) := by rw [cc_16]; decide +kernel
theorem D16_1 : decode (cod 16) 1 = .ok (.getfield 21, 3) := by rw [cc_16]; decide +kernel
theorem D16_4 : decode (cod 16) 4 = .ok (.iload_n 1, 1) := by rw [cc_16]; decide +kernel
theorem D16_5 : decode (cod 16) 5 = .ok (.aload_n 0, 1) := by rw [cc_16]; decide +kernel
theorem D16_6 : decode (cod 16) 6 = .ok (.getfield 27, 3) := by rw [cc_16]; decide +kernel
theorem D16_9 : decode (cod 16) 9 = .ok (.iastore, 1) := by rw [cc_16]; decide +kernel
theorem D16_10 : decode (cod 16) 10 = .ok (.aload_n 0, 1) := by rw [cc_16]; decide +kernel
theorem D16_11 : decode (cod 16) 11 = .ok (.dup, 1) := by rw [cc_16]; decide +kernel
theorem D16_12 : decode (cod 16) 12 = .ok (.getfield 31, 3) := by rw [cc_16]; decide +kernel
theorem D16_15 : decode (cod 16) 15 = .ok (.iconst 1, 1) := by rw [cc_16]; decide +kernel
theorem D16_16 : decode (cod 16) 16 = .ok (.iadd, 1) := by rw [cc_16]; decide +kernel
theorem D16_17 : decode (cod 16) 17 = .ok (.putfield 31, 3) := by rw [cc_16]; decide +kernel
theorem D16_20 : decode (cod 16) 20 = .ok (.return_, 1) := by rw [cc_16]; decide +kernel
theorem b16_0 {d : Nat} {i0 : Nat} {x1 : Int} {I L : Nat → Nat → Nat → Int} {t : Nat → Nat} (g1 : 0 ≤ x1 ∧ x1 < 8) : Res d 16 0 [vr 2 i0, vi x1] [] (mk I L t) = some (vx, (mk (up3 (up3 I 26 i0 x1.toNat (I 2 i0 5)) 2 i0 6 (w32 (((up3 I 26 i0 x1.toNat (I 2 i0 5)) 2 i0 6) + 1))) L t)) :=
  Eq.trans (e_aload_n D16_0 rfl rfl) <| Eq.trans (e_getP (p := (26, i0)) D16_1 rfl o_16 f_2_21 (sh_2 _) (by decide) (pp_2_3 _ _)) <| Eq.trans (e_iload_n D16_4 rfl rfl) <| Eq.trans (e_aload_n D16_5 rfl rfl) <| Eq.trans (e_getI D16_6 rfl o_16 f_2_27 (sh_2 _) (by decide)) <| Eq.trans (e_iast D16_9 rfl (al_26 _) rfl g1) <| Eq.trans (e_aload_n D16_10 rfl rfl) <| Eq.trans (e_dup D16_11 rfl) <| Eq.trans (e_getI D16_12 rfl o_16 f_2_31 (sh_2 _) (by decide)) <| Eq.trans (e_iconst (x := 1) D16_15 rfl rfl) <| Eq.trans (e_iadd D16_16 rfl) <| Eq.trans (e_putI D16_17 rfl o_16 f_2_31 (sh_2 _) rfl (by decide) (Or.inl (by decide))) <| e_vret D16_20 rfl
/-! Head_add -/
theorem cc_17 : cod 17 = cX2_add := rfl
theorem D17_0 : decode (cod 17) 0 = .ok (.aload_n 0, 1) := by rw [cc_17]; decide +kernel
theorem D17_1 : decode (cod 17) 1 = .ok (.getfield 27, 3) := by rw [cc_17]; decide +kernel
theorem D17_4 : decode (cod 17) 4 = .ok (.sipush 400, 3) := by rw [cc_17]; decide +kernel
theorem D17_7 : decode (cod 17) 7 = .ok (.if_icmp .ge 33, 3) := by rw [cc_17]; decide +kernel
theorem D17_10 : decode (cod 17) 10 = .ok (.aload_n 0, 1) := by rw [cc_17]; decide +kernel
theorem D17_11 : decode (cod 17) 11 = .ok (.getfield 9, 3) := by rw [cc_17]; decide +kernel
theorem D17_14 : decode (cod 17) 14 = .ok (.aload_n 0, 1) := by rw [cc_17]; decide +kernel
theorem D17_15 : decode (cod 17) 15 = .ok (.getfield 27, 3) := by rw [cc_17]; decide +kernel
theorem D17_18 : decode (cod 17) 18 = .ok (.iload_n 1, 1) := by rw [cc_17]; decide +kernel
theorem D17_19 : decode (cod 17) 19 = .ok (.iastore, 1) := by rw [cc_17]; decide +kernel
theorem D17_20 : decode (cod 17) 20 = .ok (.aload_n 0, 1) := by rw [cc_17]; decide +kernel
theorem D17_21 : decode (cod 17) 21 = .ok (.getfield 15, 3) := by rw [cc_17]; decide +kernel
theorem D17_24 : decode (cod 17) 24 = .ok (.aload_n 0, 1) := by rw [cc_17]; decide +kernel
theorem D17_25 : decode (cod 17) 25 = .ok (.getfield 27, 3) := by rw [cc_17]; decide +kernel
theorem D17_28 : decode (cod 17) 28 = .ok (.iload_n 2, 1) := by rw [cc_17]; decide +kernel
theorem D17_29 : decode (cod 17) 29 = .ok (.iastore, 1) := by rw [cc_17]; decide +kernel
theorem D17_30 : decode (cod 17) 30 = .ok (.aload_n 0, 1) := by rw [cc_17]; decide +kernel
theorem D17_31 : decode (cod 17) 31 = .ok (.dup, 1) := by rw [cc_17]; decide +kernel
theorem D17_32 : decode (cod 17) 32 = .ok (.getfield 27, 3) := by rw [cc_17]; decide +kernel
theorem D17_35 : decode (cod 17) 35 = .ok (.iconst 1, 1) := by rw [cc_17]; decide +kernel
theorem D17_36 : decode (cod 17) 36 = .ok (.iadd, 1) := by rw [cc_17]; decide +kernel
theorem D17_37 : decode (cod 17) 37 = .ok (.putfield 27, 3) := by rw [cc_17]; decide +kernel
theorem D17_40 : decode (cod 17) 40 = .ok (.return_, 1) := by rw [cc_17]; decide +kernel
theorem b17_0 {d : Nat} {i0 : Nat} {x1 x2 : Int} {I L : Nat → Nat → Nat → Int} {t : Nat → Nat} : Res d 17 0 [vr 2 i0, vi x1, vi x2] [] (mk I L t) = if 400 ≤ I 2 i0 5 then Res d 17 40 [vr 2 i0, vi x1, vi x2] [] (mk I L t) else Res d 17 10 [vr 2 i0, vi x1, vi x2] [] (mk I L t) :=
  Eq.trans (e_aload_n D17_0 rfl rfl) <| Eq.trans (e_getI D17_1 rfl o_17 f_2_27 (sh_2 _) (by decide)) <| Eq.trans (e_sipush (x := 400) D17_4 rfl rfl) <| e_icge D17_7 rfl rfl
theorem b17_10 {d : Nat} {i0 : Nat} {x1 x2 : Int} {I L : Nat → Nat → Nat → Int} {t : Nat → Nat} (g1 : 0 ≤ I 2 i0 5 ∧ I 2 i0 5 < 400) (g2 : 0 ≤ (up3 I 23 i0 (I 2 i0 5).toNat x1) 2 i0 5 ∧ (up3 I 23 i0 (I 2 i0 5).toNat x1) 2 i0 5 < 400) : Res d 17 10 [vr 2 i0, vi x1, vi x2] [] (mk I L t) = Res d 17 40 [vr 2 i0, vi x1, vi x2] [] (mk (up3 (up3 (up3 I 23 i0 (I 2 i0 5).toNat x1) 24 i0 ((up3 I 23 i0 (I 2 i0 5).toNat x1) 2 i0 5).toNat x2) 2 i0 5 (w32 (((up3 (up3 I 23 i0 (I 2 i0 5).toNat x1) 24 i0 ((up3 I 23 i0 (I 2 i0 5).toNat x1) 2 i0 5).toNat x2) 2 i0 5) + 1))) L t) :=
  Eq.trans (e_aload_n D17_10 rfl rfl) <| Eq.trans (e_getP (p := (23, i0)) D17_11 rfl o_17 f_2_9 (sh_2 _) (by decide) (pp_2_0 _ _)) <| Eq.trans (e_aload_n D17_14 rfl rfl) <| Eq.trans (e_getI D17_15 rfl o_17 f_2_27 (sh_2 _) (by decide)) <| Eq.trans (e_iload_n D17_18 rfl rfl) <| Eq.trans (e_iast D17_19 rfl (al_23 _) rfl g1) <| Eq.trans (e_aload_n D17_20 rfl rfl) <| Eq.trans (e_getP (p := (24, i0)) D17_21 rfl o_17 f_2_15 (sh_2 _) (by decide) (pp_2_1 _ _)) <| Eq.trans (e_aload_n D17_24 rfl rfl) <| Eq.trans (e_getI D17_25 rfl o_17 f_2_27 (sh_2 _) (by decide)) <| Eq.trans (e_iload_n D17_28 rfl rfl) <| Eq.trans (e_iast D17_29 rfl (al_24 _) rfl g2) <| Eq.trans (e_aload_n D17_30 rfl rfl) <| Eq.trans (e_dup D17_31 rfl) <| Eq.trans (e_getI D17_32 rfl o_17 f_2_27 (sh_2 _) (by decide)) <| Eq.trans (e_iconst (x := 1) D17_35 rfl rfl) <| Eq.trans (e_iadd D17_36 rfl) <| e_putI D17_37 rfl o_17 f_2_27 (sh_2 _) rfl (by decide) (Or.inl (by decide))
theorem b17_40 {d : Nat} {i0 : Nat} {x1 x2 : Int} {I L : Nat → Nat → Nat → Int} {t : Nat → Nat} : Res d 17 40 [vr 2 i0, vi x1, vi x2] [] (mk I L t) = some (vx, (mk I L t)) :=
  e_vret D17_40 rfl
/-! Head_answer -/
theorem cc_18 : cod 18 = cX2_answer := rfl
theorem D18_0 : decode (cod 18) 0 = .ok (.getstatic 40, 3) := by rw [cc_18]; decide +kernel
theorem D18_3 : decode (cod 18) 3 = .ok (.iload_n 1, 1) := by rw [cc_18]; decide +kernel
theorem D18_4 : decode (cod 18) 4 = .ok (.iaload, 1) := by rw [cc_18]; decide +kernel
theorem D18_5 : decode (cod 18) 5 = .ok (.istore_n 3, 1) := by rw [cc_18]; decide +kernel
theorem D18_6 : decode (cod 18) 6 = .ok (.aload_n 0, 1) := by rw [cc_18]; decide +kernel
theorem D18_7 : decode (cod 18) 7 = .ok (.iload_n 1, 1) := by rw [cc_18]; decide +kernel
theorem D18_8 : decode (cod 18) 8 = .ok (.invokevirtual 43, 3) := by rw [cc_18]; decide +kernel
theorem D18_11 : decode (cod 18) 11 = .ok (.ifCond .eq 13, 3) := by rw [cc_18]; decide +kernel
theorem D18_14 : decode (cod 18) 14 = .ok (.aload_n 0, 1) := by rw [cc_18]; decide +kernel
theorem D18_15 : decode (cod 18) 15 = .ok (.iload_n 1, 1) := by rw [cc_18]; decide +kernel
theorem D18_16 : decode (cod 18) 16 = .ok (.aload_n 2, 1) := by rw [cc_18]; decide +kernel
theorem D18_17 : decode (cod 18) 17 = .ok (.invokevirtual 47, 3) := by rw [cc_18]; decide +kernel
theorem D18_20 : decode (cod 18) 20 = .ok (.istore_n 3, 1) := by rw [cc_18]; decide +kernel
theorem D18_21 : decode (cod 18) 21 = .ok (.goto 17, 3) := by rw [cc_18]; decide +kernel
theorem D18_24 : decode (cod 18) 24 = .ok (.iload_n 1, 1) := by rw [cc_18]; decide +kernel
theorem D18_25 : decode (cod 18) 25 = .ok (.ifCond .ne 13, 3) := by rw [cc_18]; decide +kernel
theorem D18_28 : decode (cod 18) 28 = .ok (.aload_n 2, 1) := by rw [cc_18]; decide +kernel
theorem D18_29 : decode (cod 18) 29 = .ok (.iconst 0, 1) := by rw [cc_18]; decide +kernel
theorem D18_30 : decode (cod 18) 30 = .ok (.iaload, 1) := by rw [cc_18]; decide +kernel
theorem D18_31 : decode (cod 18) 31 = .ok (.iconst 2, 1) := by rw [cc_18]; decide +kernel
theorem D18_32 : decode (cod 18) 32 = .ok (.aload_n 2, 1) := by rw [cc_18]; decide +kernel
theorem D18_33 : decode (cod 18) 33 = .ok (.iconst 1, 1) := by rw [cc_18]; decide +kernel
theorem D18_34 : decode (cod 18) 34 = .ok (.iaload, 1) := by rw [cc_18]; decide +kernel
theorem D18_35 : decode (cod 18) 35 = .ok (.imul, 1) := by rw [cc_18]; decide +kernel
theorem D18_36 : decode (cod 18) 36 = .ok (.iadd, 1) := by rw [cc_18]; decide +kernel
theorem D18_37 : decode (cod 18) 37 = .ok (.istore_n 3, 1) := by rw [cc_18]; decide +kernel
theorem D18_38 : decode (cod 18) 38 = .ok (.getstatic 51, 3) := by rw [cc_18]; decide +kernel
theorem D18_41 : decode (cod 18) 41 = .ok (.iload_n 1, 1) := by rw [cc_18]; decide +kernel
theorem D18_42 : decode (cod 18) 42 = .ok (.iaload, 1) := by rw [cc_18]; decide +kernel
theorem D18_43 : decode (cod 18) 43 = .ok (.getstatic 54, 3) := by rw [cc_18]; decide +kernel
theorem D18_46 : decode (cod 18) 46 = .ok (.iload_n 1, 1) := by rw [cc_18]; decide +kernel
theorem D18_47 : decode (cod 18) 47 = .ok (.iaload, 1) := by rw [cc_18]; decide +kernel
theorem D18_48 : decode (cod 18) 48 = .ok (.iload_n 3, 1) := by rw [cc_18]; decide +kernel
theorem D18_49 : decode (cod 18) 49 = .ok (.invokestatic 57, 3) := by rw [cc_18]; decide +kernel
theorem D18_52 : decode (cod 18) 52 = .ok (.invokestatic 63, 3) := by rw [cc_18]; decide +kernel
theorem D18_55 : decode (cod 18) 55 = .ok (.ireturn, 1) := by rw [cc_18]; decide +kernel
theorem b18_0 {d : Nat} {i0 i2 r2 : Nat} {x1 : Int} {I L : Nat → Nat → Nat → Int} {t : Nat → Nat} (g1 : 0 ≤ x1 ∧ x1 < 8) : Res (d + 1) 18 0 [vr 2 i0, vi x1, vr r2 i2, vx] [] (mk I L t) = (Cal d 14 [vr 2 i0, vi x1] (mk I L t)).bind fun v => Res (d + 1) 18 11 [vr 2 i0, vi x1, vr r2 i2, vi (rom 2 x1.toNat)] (psh 14 v.1 []) v.2 :=
  Eq.trans (e_getst (n := 2) (w := 756) D18_0 rfl o_18 rfl) <| Eq.trans (e_iload_n D18_3 rfl rfl) <| Eq.trans (e_iald D18_4 rfl (al_116 _) g1) <| Eq.trans (e_istore_n (ls1 := [vr 2 i0, vi x1, vr r2 i2, vi (rom 2 x1.toNat)]) D18_5 rfl (show 3 < 4 by decide) rfl) <| Eq.trans (e_aload_n D18_6 rfl rfl) <| Eq.trans (e_iload_n D18_7 rfl rfl) <| e_callV D18_8 rfl o_18 m_2_43 (by decide) rfl rfl
theorem b18_11 {d : Nat} {i0 i2 r2 : Nat} {x1 x3 xs0 : Int} {I L : Nat → Nat → Nat → Int} {t : Nat → Nat} : Res d 18 11 [vr 2 i0, vi x1, vr r2 i2, vi x3] [vi xs0] (mk I L t) = if xs0 = 0 then Res d 18 24 [vr 2 i0, vi x1, vr r2 i2, vi x3] [] (mk I L t) else Res d 18 14 [vr 2 i0, vi x1, vr r2 i2, vi x3] [] (mk I L t) :=
  e_ifeq D18_11 rfl rfl
theorem b18_14 {d : Nat} {i0 i2 r2 : Nat} {x1 x3 : Int} {I L : Nat → Nat → Nat → Int} {t : Nat → Nat} : Res (d + 1) 18 14 [vr 2 i0, vi x1, vr r2 i2, vi x3] [] (mk I L t) = (Cal d 19 [vr 2 i0, vi x1, vr r2 i2] (mk I L t)).bind fun v => Res (d + 1) 18 20 [vr 2 i0, vi x1, vr r2 i2, vi x3] (psh 19 v.1 []) v.2 :=
  Eq.trans (e_aload_n D18_14 rfl rfl) <| Eq.trans (e_iload_n D18_15 rfl rfl) <| Eq.trans (e_aload_n D18_16 rfl rfl) <| e_callV D18_17 rfl o_18 m_2_47 (by decide) rfl rfl
theorem b18_20 {d : Nat} {i0 i2 r2 : Nat} {x1 x3 xs0 : Int} {I L : Nat → Nat → Nat → Int} {t : Nat → Nat} : Res d 18 20 [vr 2 i0, vi x1, vr r2 i2, vi x3] [vi xs0] (mk I L t) = Res d 18 38 [vr 2 i0, vi x1, vr r2 i2, vi xs0] [] (mk I L t) :=
  Eq.trans (e_istore_n (ls1 := [vr 2 i0, vi x1, vr r2 i2, vi xs0]) D18_20 rfl (show 3 < 4 by decide) rfl) <| e_goto (q1 := 38) D18_21 rfl
theorem b18_24 {d : Nat} {i0 i2 r2 : Nat} {x1 x3 : Int} {I L : Nat → Nat → Nat → Int} {t : Nat → Nat} : Res d 18 24 [vr 2 i0, vi x1, vr r2 i2, vi x3] [] (mk I L t) = if ¬ x1 = 0 then Res d 18 38 [vr 2 i0, vi x1, vr r2 i2, vi x3] [] (mk I L t) else Res d 18 28 [vr 2 i0, vi x1, vr r2 i2, vi x3] [] (mk I L t) :=
  Eq.trans (e_iload_n D18_24 rfl rfl) <| e_ifne D18_25 rfl rfl
theorem b18_28 {d : Nat} {i0 i2 r2 : Nat} {x1 x3 n0 n2 : Int} {I L : Nat → Nat → Nat → Int} {t : Nat → Nat} (g1 : alen 0 r2 i2 = n0) (g2 : (0 : Int) ≤ 0 ∧ 0 < n0) (g3 : alen 0 r2 i2 = n2) (g4 : (0 : Int) ≤ 1 ∧ 1 < n2) : Res d 18 28 [vr 2 i0, vi x1, vr r2 i2, vi x3] [] (mk I L t) = Res d 18 38 [vr 2 i0, vi x1, vr r2 i2, vi (w32 ((ldI (mk I L t) r2 i2 0) + (w32 (2 * (ldI (mk I L t) r2 i2 1)))))] [] (mk I L t) :=
  Eq.trans (e_aload_n D18_28 rfl rfl) <| Eq.trans (e_iconst (x := 0) D18_29 rfl rfl) <| Eq.trans (e_iald D18_30 rfl g1 g2) <| Eq.trans (e_iconst (x := 2) D18_31 rfl rfl) <| Eq.trans (e_aload_n D18_32 rfl rfl) <| Eq.trans (e_iconst (x := 1) D18_33 rfl rfl) <| Eq.trans (e_iald D18_34 rfl g3 g4) <| Eq.trans (e_imul D18_35 rfl) <| Eq.trans (e_iadd D18_36 rfl) <| e_istore_n (ls1 := [vr 2 i0, vi x1, vr r2 i2, vi (w32 ((ldI (mk I L t) r2 i2 0) + (w32 (2 * (ldI (mk I L t) r2 i2 1)))))]) D18_37 rfl (show 3 < 4 by decide) rfl
theorem b18_38 {d : Nat} {i0 i2 r2 : Nat} {x1 x3 : Int} {I L : Nat → Nat → Nat → Int} {t : Nat → Nat} (g1 : 0 ≤ x1 ∧ x1 < 8) : Res (d + 1) 18 38 [vr 2 i0, vi x1, vr r2 i2, vi x3] [] (mk I L t) = some (vi ((if rom 0 x1.toNat < (if x3 < rom 1 x1.toNat then x3 else rom 1 x1.toNat) then (if x3 < rom 1 x1.toNat then x3 else rom 1 x1.toNat) else rom 0 x1.toNat)), (mk I L t)) :=
  Eq.trans (e_getst (n := 0) (w := 763) D18_38 rfl o_18 rfl) <| Eq.trans (e_iload_n D18_41 rfl rfl) <| Eq.trans (e_iald D18_42 rfl (al_116 _) g1) <| Eq.trans (e_getst (n := 1) (w := 765) D18_43 rfl o_18 rfl) <| Eq.trans (e_iload_n D18_46 rfl rfl) <| Eq.trans (e_iald D18_47 rfl (al_116 _) g1) <| Eq.trans (e_iload_n D18_48 rfl rfl) <| Eq.trans (e_min (by omega) D18_49 rfl o_18 m_2_57 (by simp [cw])) <| Eq.trans (e_max (by omega) D18_52 rfl o_18 m_2_63 (by simp [cw])) <| e_iret D18_55 rfl
/-! Head_run -/
theorem cc_19 : cod 19 = cX2_run := rfl
theorem D19_0 : decode (cod 19) 0 = .ok (.iconst 0, 1) := by rw [cc_19]; decide +kernel
theorem D19_1 : decode (cod 19) 1 = .ok (.istore_n 3, 1) := by rw [cc_19]; decide +kernel
theorem D19_2 : decode (cod 19) 2 = .ok (.aload_n 0, 1) := by rw [cc_19]; decide +kernel
theorem D19_3 : decode (cod 19) 3 = .ok (.getfield 18, 3) := by rw [cc_19]; decide +kernel
theorem D19_6 : decode (cod 19) 6 = .ok (.iload_n 1, 1) := by rw [cc_19]; decide +kernel
theorem D19_7 : decode (cod 19) 7 = .ok (.iaload, 1) := by rw [cc_19]; decide +kernel
theorem D19_8 : decode (cod 19) 8 = .ok (.istore 4, 2) := by rw [cc_19]; decide +kernel
theorem D19_10 : decode (cod 19) 10 = .ok (.iload 4, 2) := by rw [cc_19]; decide +kernel
theorem D19_12 : decode (cod 19) 12 = .ok (.aload_n 0, 1) := by rw [cc_19]; decide +kernel
theorem D19_13 : decode (cod 19) 13 = .ok (.getfield 21, 3) := by rw [cc_19]; decide +kernel
theorem D19_16 : decode (cod 19) 16 = .ok (.iload_n 1, 1) := by rw [cc_19]; decide +kernel
theorem D19_17 : decode (cod 19) 17 = .ok (.iaload, 1) := by rw [cc_19]; decide +kernel
theorem D19_18 : decode (cod 19) 18 = .ok (.if_icmp .ge 173, 3) := by rw [cc_19]; decide +kernel
theorem D19_21 : decode (cod 19) 21 = .ok (.iload 4, 2) := by rw [cc_19]; decide +kernel
theorem D19_23 : decode (cod 19) 23 = .ok (.sipush 400, 3) := by rw [cc_19]; decide +kernel
theorem D19_26 : decode (cod 19) 26 = .ok (.if_icmp .ge 165, 3) := by rw [cc_19]; decide +kernel
theorem D19_29 : decode (cod 19) 29 = .ok (.aload_n 0, 1) := by rw [cc_19]; decide +kernel
theorem D19_30 : decode (cod 19) 30 = .ok (.getfield 9, 3) := by rw [cc_19]; decide +kernel
theorem D19_33 : decode (cod 19) 33 = .ok (.iload 4, 2) := by rw [cc_19]; decide +kernel
theorem D19_35 : decode (cod 19) 35 = .ok (.iaload, 1) := by rw [cc_19]; decide +kernel
theorem D19_36 : decode (cod 19) 36 = .ok (.istore 5, 2) := by rw [cc_19]; decide +kernel
theorem D19_38 : decode (cod 19) 38 = .ok (.aload_n 0, 1) := by rw [cc_19]; decide +kernel
theorem D19_39 : decode (cod 19) 39 = .ok (.getfield 15, 3) := by rw [cc_19]; decide +kernel
theorem D19_42 : decode (cod 19) 42 = .ok (.iload 4, 2) := by rw [cc_19]; decide +kernel
theorem D19_44 : decode (cod 19) 44 = .ok (.iaload, 1) := by rw [cc_19]; decide +kernel
theorem D19_45 : decode (cod 19) 45 = .ok (.istore 6, 2) := by rw [cc_19]; decide +kernel
theorem D19_47 : decode (cod 19) 47 = .ok (.iload 5, 2) := by rw [cc_19]; decide +kernel
theorem D19_49 : decode (cod 19) 49 = .ok (.ifCond .eq 9, 3) := by rw [cc_19]; decide +kernel
theorem D19_52 : decode (cod 19) 52 = .ok (.iload 5, 2) := by rw [cc_19]; decide +kernel
theorem D19_54 : decode (cod 19) 54 = .ok (.iconst 1, 1) := by rw [cc_19]; decide +kernel
theorem D19_55 : decode (cod 19) 55 = .ok (.if_icmp .ne 35, 3) := by rw [cc_19]; decide +kernel
theorem D19_58 : decode (cod 19) 58 = .ok (.iload_n 3, 1) := by rw [cc_19]; decide +kernel
theorem D19_59 : decode (cod 19) 59 = .ok (.bipush 24, 2) := by rw [cc_19]; decide +kernel
theorem D19_61 : decode (cod 19) 61 = .ok (.if_icmp .ge 124, 3) := by rw [cc_19]; decide +kernel
theorem D19_64 : decode (cod 19) 64 = .ok (.aload_n 0, 1) := by rw [cc_19]; decide +kernel
theorem D19_65 : decode (cod 19) 65 = .ok (.getfield 24, 3) := by rw [cc_19]; decide +kernel
theorem D19_68 : decode (cod 19) 68 = .ok (.iload_n 3, 1) := by rw [cc_19]; decide +kernel
theorem D19_69 : decode (cod 19) 69 = .ok (.iload 5, 2) := by rw [cc_19]; decide +kernel
theorem D19_71 : decode (cod 19) 71 = .ok (.ifCond .ne 8, 3) := by rw [cc_19]; decide +kernel
theorem D19_74 : decode (cod 19) 74 = .ok (.iload 6, 2) := by rw [cc_19]; decide +kernel
theorem D19_76 : decode (cod 19) 76 = .ok (.goto 7, 3) := by rw [cc_19]; decide +kernel
theorem D19_79 : decode (cod 19) 79 = .ok (.aload_n 2, 1) := by rw [cc_19]; decide +kernel
theorem D19_80 : decode (cod 19) 80 = .ok (.iload 6, 2) := by rw [cc_19]; decide +kernel
theorem D19_82 : decode (cod 19) 82 = .ok (.iaload, 1) := by rw [cc_19]; decide +kernel
theorem D19_83 : decode (cod 19) 83 = .ok (.iastore, 1) := by rw [cc_19]; decide +kernel
theorem D19_84 : decode (cod 19) 84 = .ok (.iinc 3 1, 3) := by rw [cc_19]; decide +kernel
theorem D19_87 : decode (cod 19) 87 = .ok (.goto 98, 3) := by rw [cc_19]; decide +kernel
theorem D19_90 : decode (cod 19) 90 = .ok (.iload 5, 2) := by rw [cc_19]; decide +kernel
theorem D19_92 : decode (cod 19) 92 = .ok (.iconst 5, 1) := by rw [cc_19]; decide +kernel
theorem D19_93 : decode (cod 19) 93 = .ok (.if_icmp .ne 29, 3) := by rw [cc_19]; decide +kernel
theorem D19_96 : decode (cod 19) 96 = .ok (.iload_n 3, 1) := by rw [cc_19]; decide +kernel
theorem D19_97 : decode (cod 19) 97 = .ok (.iconst 1, 1) := by rw [cc_19]; decide +kernel
theorem D19_98 : decode (cod 19) 98 = .ok (.if_icmp .lt 87, 3) := by rw [cc_19]; decide +kernel
theorem D19_101 : decode (cod 19) 101 = .ok (.iload 6, 2) := by rw [cc_19]; decide +kernel
theorem D19_103 : decode (cod 19) 103 = .ok (.ifCond .le 82, 3) := by rw [cc_19]; decide +kernel
theorem D19_106 : decode (cod 19) 106 = .ok (.aload_n 0, 1) := by rw [cc_19]; decide +kernel
theorem D19_107 : decode (cod 19) 107 = .ok (.getfield 24, 3) := by rw [cc_19]; decide +kernel
theorem D19_110 : decode (cod 19) 110 = .ok (.iload_n 3, 1) := by rw [cc_19]; decide +kernel
theorem D19_111 : decode (cod 19) 111 = .ok (.iconst 1, 1) := by rw [cc_19]; decide +kernel
theorem D19_112 : decode (cod 19) 112 = .ok (.isub, 1) := by rw [cc_19]; decide +kernel
theorem D19_113 : decode (cod 19) 113 = .ok (.dup2, 1) := by rw [cc_19]; decide +kernel
theorem D19_114 : decode (cod 19) 114 = .ok (.iaload, 1) := by rw [cc_19]; decide +kernel
theorem D19_115 : decode (cod 19) 115 = .ok (.iload 6, 2) := by rw [cc_19]; decide +kernel
theorem D19_117 : decode (cod 19) 117 = .ok (.idiv, 1) := by rw [cc_19]; decide +kernel
theorem D19_118 : decode (cod 19) 118 = .ok (.iastore, 1) := by rw [cc_19]; decide +kernel
theorem D19_119 : decode (cod 19) 119 = .ok (.goto 66, 3) := by rw [cc_19]; decide +kernel
theorem D19_122 : decode (cod 19) 122 = .ok (.iload_n 3, 1) := by rw [cc_19]; decide +kernel
theorem D19_123 : decode (cod 19) 123 = .ok (.iconst 2, 1) := by rw [cc_19]; decide +kernel
theorem D19_124 : decode (cod 19) 124 = .ok (.if_icmp .lt 61, 3) := by rw [cc_19]; decide +kernel
theorem D19_127 : decode (cod 19) 127 = .ok (.iinc 3 (-1), 3) := by rw [cc_19]; decide +kernel
theorem D19_130 : decode (cod 19) 130 = .ok (.aload_n 0, 1) := by rw [cc_19]; decide +kernel
theorem D19_131 : decode (cod 19) 131 = .ok (.getfield 24, 3) := by rw [cc_19]; decide +kernel
theorem D19_134 : decode (cod 19) 134 = .ok (.iload_n 3, 1) := by rw [cc_19]; decide +kernel
theorem D19_135 : decode (cod 19) 135 = .ok (.iaload, 1) := by rw [cc_19]; decide +kernel
theorem D19_136 : decode (cod 19) 136 = .ok (.istore 7, 2) := by rw [cc_19]; decide +kernel
theorem D19_138 : decode (cod 19) 138 = .ok (.iload 5, 2) := by rw [cc_19]; decide +kernel
theorem D19_140 : decode (cod 19) 140 = .ok (.iconst 4, 1) := by rw [cc_19]; decide +kernel
theorem D19_141 : decode (cod 19) 141 = .ok (.if_icmp .ne 19, 3) := by rw [cc_19]; decide +kernel
theorem D19_144 : decode (cod 19) 144 = .ok (.aload_n 0, 1) := by rw [cc_19]; decide +kernel
theorem D19_145 : decode (cod 19) 145 = .ok (.getfield 24, 3) := by rw [cc_19]; decide +kernel
theorem D19_148 : decode (cod 19) 148 = .ok (.iload_n 3, 1) := by rw [cc_19]; decide +kernel
theorem D19_149 : decode (cod 19) 149 = .ok (.iconst 1, 1) := by rw [cc_19]; decide +kernel
theorem D19_150 : decode (cod 19) 150 = .ok (.isub, 1) := by rw [cc_19]; decide +kernel
theorem D19_151 : decode (cod 19) 151 = .ok (.dup2, 1) := by rw [cc_19]; decide +kernel
theorem D19_152 : decode (cod 19) 152 = .ok (.iaload, 1) := by rw [cc_19]; decide +kernel
theorem D19_153 : decode (cod 19) 153 = .ok (.iload 7, 2) := by rw [cc_19]; decide +kernel
theorem D19_155 : decode (cod 19) 155 = .ok (.imul, 1) := by rw [cc_19]; decide +kernel
theorem D19_156 : decode (cod 19) 156 = .ok (.iastore, 1) := by rw [cc_19]; decide +kernel
theorem D19_157 : decode (cod 19) 157 = .ok (.goto 28, 3) := by rw [cc_19]; decide +kernel
theorem D19_160 : decode (cod 19) 160 = .ok (.aload_n 0, 1) := by rw [cc_19]; decide +kernel
theorem D19_161 : decode (cod 19) 161 = .ok (.getfield 24, 3) := by rw [cc_19]; decide +kernel
theorem D19_164 : decode (cod 19) 164 = .ok (.iload_n 3, 1) := by rw [cc_19]; decide +kernel
theorem D19_165 : decode (cod 19) 165 = .ok (.iconst 1, 1) := by rw [cc_19]; decide +kernel
theorem D19_166 : decode (cod 19) 166 = .ok (.isub, 1) := by rw [cc_19]; decide +kernel
theorem D19_167 : decode (cod 19) 167 = .ok (.dup2, 1) := by rw [cc_19]; decide +kernel
theorem D19_168 : decode (cod 19) 168 = .ok (.iaload, 1) := by rw [cc_19]; decide +kernel
theorem D19_169 : decode (cod 19) 169 = .ok (.iload 5, 2) := by rw [cc_19]; decide +kernel
theorem D19_171 : decode (cod 19) 171 = .ok (.iconst 2, 1) := by rw [cc_19]; decide +kernel
theorem D19_172 : decode (cod 19) 172 = .ok (.if_icmp .ne 8, 3) := by rw [cc_19]; decide +kernel
theorem D19_175 : decode (cod 19) 175 = .ok (.iload 7, 2) := by rw [cc_19]; decide +kernel
theorem D19_177 : decode (cod 19) 177 = .ok (.goto 6, 3) := by rw [cc_19]; decide +kernel
theorem D19_180 : decode (cod 19) 180 = .ok (.iload 7, 2) := by rw [cc_19]; decide +kernel
theorem D19_182 : decode (cod 19) 182 = .ok (.ineg, 1) := by rw [cc_19]; decide +kernel
theorem D19_183 : decode (cod 19) 183 = .ok (.iadd, 1) := by rw [cc_19]; decide +kernel
theorem D19_184 : decode (cod 19) 184 = .ok (.iastore, 1) := by rw [cc_19]; decide +kernel
theorem D19_185 : decode (cod 19) 185 = .ok (.iinc 4 1, 3) := by rw [cc_19]; decide +kernel
theorem D19_188 : decode (cod 19) 188 = .ok (.goto (-178), 3) := by rw [cc_19]; decide +kernel
theorem D19_191 : decode (cod 19) 191 = .ok (.aload_n 0, 1) := by rw [cc_19]; decide +kernel
theorem D19_192 : decode (cod 19) 192 = .ok (.getfield 24, 3) := by rw [cc_19]; decide +kernel
theorem D19_195 : decode (cod 19) 195 = .ok (.iconst 0, 1) := by rw [cc_19]; decide +kernel
theorem D19_196 : decode (cod 19) 196 = .ok (.iaload, 1) := by rw [cc_19]; decide +kernel
theorem D19_197 : decode (cod 19) 197 = .ok (.ireturn, 1) := by rw [cc_19]; decide +kernel
theorem b19_0 {d : Nat} {i0 i2 r2 : Nat} {x1 : Int} {I L : Nat → Nat → Nat → Int} {t : Nat → Nat} (g1 : 0 ≤ x1 ∧ x1 < 8) : Res d 19 0 [vr 2 i0, vi x1, vr r2 i2, vx, vx, vx, vx, vx] [] (mk I L t) = Res d 19 10 [vr 2 i0, vi x1, vr r2 i2, vi 0, vi (I 25 i0 x1.toNat), vx, vx, vx] [] (mk I L t) :=
  Eq.trans (e_iconst (x := 0) D19_0 rfl rfl) <| Eq.trans (e_istore_n (ls1 := [vr 2 i0, vi x1, vr r2 i2, vi 0, vx, vx, vx, vx]) D19_1 rfl (show 3 < 8 by decide) rfl) <| Eq.trans (e_aload_n D19_2 rfl rfl) <| Eq.trans (e_getP (p := (25, i0)) D19_3 rfl o_19 f_2_18 (sh_2 _) (by decide) (pp_2_2 _ _)) <| Eq.trans (e_iload_n D19_6 rfl rfl) <| Eq.trans (e_iald D19_7 rfl (al_25 _) g1) <| e_istore (ls1 := [vr 2 i0, vi x1, vr r2 i2, vi 0, vi (I 25 i0 x1.toNat), vx, vx, vx]) D19_8 rfl (show 4 < 8 by decide) rfl
theorem b19_10 {d : Nat} {i0 i2 r2 : Nat} {x1 x3 x4 : Int} {u5 u6 u7 : MV} {I L : Nat → Nat → Nat → Int} {t : Nat → Nat} (g1 : 0 ≤ x1 ∧ x1 < 8) : Res d 19 10 [vr 2 i0, vi x1, vr r2 i2, vi x3, vi x4, u5, u6, u7] [] (mk I L t) = if I 26 i0 x1.toNat ≤ x4 then Res d 19 191 [vr 2 i0, vi x1, vr r2 i2, vi x3, vi x4, u5, u6, u7] [] (mk I L t) else Res d 19 21 [vr 2 i0, vi x1, vr r2 i2, vi x3, vi x4, u5, u6, u7] [] (mk I L t) :=
  Eq.trans (e_iload D19_10 rfl rfl) <| Eq.trans (e_aload_n D19_12 rfl rfl) <| Eq.trans (e_getP (p := (26, i0)) D19_13 rfl o_19 f_2_21 (sh_2 _) (by decide) (pp_2_3 _ _)) <| Eq.trans (e_iload_n D19_16 rfl rfl) <| Eq.trans (e_iald D19_17 rfl (al_26 _) g1) <| e_icge D19_18 rfl rfl
theorem b19_21 {d : Nat} {i0 i2 r2 : Nat} {x1 x3 x4 : Int} {u5 u6 u7 : MV} {I L : Nat → Nat → Nat → Int} {t : Nat → Nat} : Res d 19 21 [vr 2 i0, vi x1, vr r2 i2, vi x3, vi x4, u5, u6, u7] [] (mk I L t) = if 400 ≤ x4 then Res d 19 191 [vr 2 i0, vi x1, vr r2 i2, vi x3, vi x4, u5, u6, u7] [] (mk I L t) else Res d 19 29 [vr 2 i0, vi x1, vr r2 i2, vi x3, vi x4, u5, u6, u7] [] (mk I L t) :=
  Eq.trans (e_iload D19_21 rfl rfl) <| Eq.trans (e_sipush (x := 400) D19_23 rfl rfl) <| e_icge D19_26 rfl rfl
theorem b19_29 {d : Nat} {i0 i2 r2 : Nat} {x1 x3 x4 : Int} {u5 u6 u7 : MV} {I L : Nat → Nat → Nat → Int} {t : Nat → Nat} (g1 : 0 ≤ x4 ∧ x4 < 400) : Res d 19 29 [vr 2 i0, vi x1, vr r2 i2, vi x3, vi x4, u5, u6, u7] [] (mk I L t) = if I 23 i0 x4.toNat = 0 then Res d 19 58 [vr 2 i0, vi x1, vr r2 i2, vi x3, vi x4, vi (I 23 i0 x4.toNat), vi (I 24 i0 x4.toNat), u7] [] (mk I L t) else Res d 19 52 [vr 2 i0, vi x1, vr r2 i2, vi x3, vi x4, vi (I 23 i0 x4.toNat), vi (I 24 i0 x4.toNat), u7] [] (mk I L t) :=
  Eq.trans (e_aload_n D19_29 rfl rfl) <| Eq.trans (e_getP (p := (23, i0)) D19_30 rfl o_19 f_2_9 (sh_2 _) (by decide) (pp_2_0 _ _)) <| Eq.trans (e_iload D19_33 rfl rfl) <| Eq.trans (e_iald D19_35 rfl (al_23 _) g1) <| Eq.trans (e_istore (ls1 := [vr 2 i0, vi x1, vr r2 i2, vi x3, vi x4, vi (I 23 i0 x4.toNat), u6, u7]) D19_36 rfl (show 5 < 8 by decide) rfl) <| Eq.trans (e_aload_n D19_38 rfl rfl) <| Eq.trans (e_getP (p := (24, i0)) D19_39 rfl o_19 f_2_15 (sh_2 _) (by decide) (pp_2_1 _ _)) <| Eq.trans (e_iload D19_42 rfl rfl) <| Eq.trans (e_iald D19_44 rfl (al_24 _) g1) <| Eq.trans (e_istore (ls1 := [vr 2 i0, vi x1, vr r2 i2, vi x3, vi x4, vi (I 23 i0 x4.toNat), vi (I 24 i0 x4.toNat), u7]) D19_45 rfl (show 6 < 8 by decide) rfl) <| Eq.trans (e_iload D19_47 rfl rfl) <| e_ifeq D19_49 rfl rfl
theorem b19_52 {d : Nat} {i0 i2 r2 : Nat} {x1 x3 x4 x5 x6 : Int} {u7 : MV} {I L : Nat → Nat → Nat → Int} {t : Nat → Nat} : Res d 19 52 [vr 2 i0, vi x1, vr r2 i2, vi x3, vi x4, vi x5, vi x6, u7] [] (mk I L t) = if ¬ x5 = 1 then Res d 19 90 [vr 2 i0, vi x1, vr r2 i2, vi x3, vi x4, vi x5, vi x6, u7] [] (mk I L t) else Res d 19 58 [vr 2 i0, vi x1, vr r2 i2, vi x3, vi x4, vi x5, vi x6, u7] [] (mk I L t) :=
  Eq.trans (e_iload D19_52 rfl rfl) <| Eq.trans (e_iconst (x := 1) D19_54 rfl rfl) <| e_icne D19_55 rfl rfl
theorem b19_58 {d : Nat} {i0 i2 r2 : Nat} {x1 x3 x4 x5 x6 : Int} {u7 : MV} {I L : Nat → Nat → Nat → Int} {t : Nat → Nat} : Res d 19 58 [vr 2 i0, vi x1, vr r2 i2, vi x3, vi x4, vi x5, vi x6, u7] [] (mk I L t) = if 24 ≤ x3 then Res d 19 185 [vr 2 i0, vi x1, vr r2 i2, vi x3, vi x4, vi x5, vi x6, u7] [] (mk I L t) else Res d 19 64 [vr 2 i0, vi x1, vr r2 i2, vi x3, vi x4, vi x5, vi x6, u7] [] (mk I L t) :=
  Eq.trans (e_iload_n D19_58 rfl rfl) <| Eq.trans (e_bipush (x := 24) D19_59 rfl rfl) <| e_icge D19_61 rfl rfl
theorem b19_64 {d : Nat} {i0 i2 r2 : Nat} {x1 x3 x4 x5 x6 : Int} {u7 : MV} {I L : Nat → Nat → Nat → Int} {t : Nat → Nat} : Res d 19 64 [vr 2 i0, vi x1, vr r2 i2, vi x3, vi x4, vi x5, vi x6, u7] [] (mk I L t) = if ¬ x5 = 0 then Res d 19 79 [vr 2 i0, vi x1, vr r2 i2, vi x3, vi x4, vi x5, vi x6, u7] [vi x3, vr 27 i0] (mk I L t) else Res d 19 74 [vr 2 i0, vi x1, vr r2 i2, vi x3, vi x4, vi x5, vi x6, u7] [vi x3, vr 27 i0] (mk I L t) :=
  Eq.trans (e_aload_n D19_64 rfl rfl) <| Eq.trans (e_getP (p := (27, i0)) D19_65 rfl o_19 f_2_24 (sh_2 _) (by decide) (pp_2_4 _ _)) <| Eq.trans (e_iload_n D19_68 rfl rfl) <| Eq.trans (e_iload D19_69 rfl rfl) <| e_ifne D19_71 rfl rfl
theorem b19_74 {d : Nat} {i0 i2 r2 is0 : Nat} {x1 x3 x4 x5 x6 xs1 : Int} {u7 : MV} {I L : Nat → Nat → Nat → Int} {t : Nat → Nat} : Res d 19 74 [vr 2 i0, vi x1, vr r2 i2, vi x3, vi x4, vi x5, vi x6, u7] [vi xs1, vr 27 is0] (mk I L t) = Res d 19 83 [vr 2 i0, vi x1, vr r2 i2, vi x3, vi x4, vi x5, vi x6, u7] [vi x6, vi xs1, vr 27 is0] (mk I L t) :=
  Eq.trans (e_iload D19_74 rfl rfl) <| e_goto (q1 := 83) D19_76 rfl
theorem b19_79 {d : Nat} {i0 i2 r2 is0 : Nat} {x1 x3 x4 x5 x6 xs1 n0 : Int} {u7 : MV} {I L : Nat → Nat → Nat → Int} {t : Nat → Nat} (g1 : alen 0 r2 i2 = n0) (g2 : (0 : Int) ≤ x6 ∧ x6 < n0) : Res d 19 79 [vr 2 i0, vi x1, vr r2 i2, vi x3, vi x4, vi x5, vi x6, u7] [vi xs1, vr 27 is0] (mk I L t) = Res d 19 83 [vr 2 i0, vi x1, vr r2 i2, vi x3, vi x4, vi x5, vi x6, u7] [vi (ldI (mk I L t) r2 i2 x6.toNat), vi xs1, vr 27 is0] (mk I L t) :=
  Eq.trans (e_aload_n D19_79 rfl rfl) <| Eq.trans (e_iload D19_80 rfl rfl) <| e_iald D19_82 rfl g1 g2
theorem b19_83 {d : Nat} {i0 i2 r2 is0 : Nat} {x1 x3 x4 x5 x6 xs2 xs1 : Int} {u7 : MV} {I L : Nat → Nat → Nat → Int} {t : Nat → Nat} (g1 : 0 ≤ xs1 ∧ xs1 < 24) : Res d 19 83 [vr 2 i0, vi x1, vr r2 i2, vi x3, vi x4, vi x5, vi x6, u7] [vi xs2, vi xs1, vr 27 is0] (mk I L t) = Res d 19 185 [vr 2 i0, vi x1, vr r2 i2, vi (w32 (x3 + 1)), vi x4, vi x5, vi x6, u7] [] (mk (up3 I 27 is0 xs1.toNat xs2) L t) :=
  Eq.trans (e_iast D19_83 rfl (al_27 _) rfl g1) <| Eq.trans (e_iinc (ls1 := [vr 2 i0, vi x1, vr r2 i2, vi (w32 (x3 + 1)), vi x4, vi x5, vi x6, u7]) D19_84 rfl rfl rfl) <| e_goto (q1 := 185) D19_87 rfl
theorem b19_90 {d : Nat} {i0 i2 r2 : Nat} {x1 x3 x4 x5 x6 : Int} {u7 : MV} {I L : Nat → Nat → Nat → Int} {t : Nat → Nat} : Res d 19 90 [vr 2 i0, vi x1, vr r2 i2, vi x3, vi x4, vi x5, vi x6, u7] [] (mk I L t) = if ¬ x5 = 5 then Res d 19 122 [vr 2 i0, vi x1, vr r2 i2, vi x3, vi x4, vi x5, vi x6, u7] [] (mk I L t) else Res d 19 96 [vr 2 i0, vi x1, vr r2 i2, vi x3, vi x4, vi x5, vi x6, u7] [] (mk I L t) :=
  Eq.trans (e_iload D19_90 rfl rfl) <| Eq.trans (e_iconst (x := 5) D19_92 rfl rfl) <| e_icne D19_93 rfl rfl
theorem b19_96 {d : Nat} {i0 i2 r2 : Nat} {x1 x3 x4 x5 x6 : Int} {u7 : MV} {I L : Nat → Nat → Nat → Int} {t : Nat → Nat} : Res d 19 96 [vr 2 i0, vi x1, vr r2 i2, vi x3, vi x4, vi x5, vi x6, u7] [] (mk I L t) = if x3 < 1 then Res d 19 185 [vr 2 i0, vi x1, vr r2 i2, vi x3, vi x4, vi x5, vi x6, u7] [] (mk I L t) else Res d 19 101 [vr 2 i0, vi x1, vr r2 i2, vi x3, vi x4, vi x5, vi x6, u7] [] (mk I L t) :=
  Eq.trans (e_iload_n D19_96 rfl rfl) <| Eq.trans (e_iconst (x := 1) D19_97 rfl rfl) <| e_iclt D19_98 rfl rfl
theorem b19_101 {d : Nat} {i0 i2 r2 : Nat} {x1 x3 x4 x5 x6 : Int} {u7 : MV} {I L : Nat → Nat → Nat → Int} {t : Nat → Nat} : Res d 19 101 [vr 2 i0, vi x1, vr r2 i2, vi x3, vi x4, vi x5, vi x6, u7] [] (mk I L t) = if x6 ≤ 0 then Res d 19 185 [vr 2 i0, vi x1, vr r2 i2, vi x3, vi x4, vi x5, vi x6, u7] [] (mk I L t) else Res d 19 106 [vr 2 i0, vi x1, vr r2 i2, vi x3, vi x4, vi x5, vi x6, u7] [] (mk I L t) :=
  Eq.trans (e_iload D19_101 rfl rfl) <| e_ifle D19_103 rfl rfl
theorem b19_106 {d : Nat} {i0 i2 r2 : Nat} {x1 x3 x4 x5 x6 : Int} {u7 : MV} {I L : Nat → Nat → Nat → Int} {t : Nat → Nat} (g1 : 0 ≤ w32 (x3 - 1) ∧ w32 (x3 - 1) < 24) (g2 : x6 ≠ 0) : Res d 19 106 [vr 2 i0, vi x1, vr r2 i2, vi x3, vi x4, vi x5, vi x6, u7] [] (mk I L t) = Res d 19 185 [vr 2 i0, vi x1, vr r2 i2, vi x3, vi x4, vi x5, vi x6, u7] [] (mk (up3 I 27 i0 (w32 (x3 - 1)).toNat (vIdiv (I 27 i0 (w32 (x3 - 1)).toNat) x6)) L t) :=
  Eq.trans (e_aload_n D19_106 rfl rfl) <| Eq.trans (e_getP (p := (27, i0)) D19_107 rfl o_19 f_2_24 (sh_2 _) (by decide) (pp_2_4 _ _)) <| Eq.trans (e_iload_n D19_110 rfl rfl) <| Eq.trans (e_iconst (x := 1) D19_111 rfl rfl) <| Eq.trans (e_isub D19_112 rfl) <| Eq.trans (e_dup2 D19_113 rfl) <| Eq.trans (e_iald D19_114 rfl (al_27 _) g1) <| Eq.trans (e_iload D19_115 rfl rfl) <| Eq.trans (e_idiv D19_117 rfl g2) <| Eq.trans (e_iast D19_118 rfl (al_27 _) rfl g1) <| e_goto (q1 := 185) D19_119 rfl
theorem b19_122 {d : Nat} {i0 i2 r2 : Nat} {x1 x3 x4 x5 x6 : Int} {u7 : MV} {I L : Nat → Nat → Nat → Int} {t : Nat → Nat} : Res d 19 122 [vr 2 i0, vi x1, vr r2 i2, vi x3, vi x4, vi x5, vi x6, u7] [] (mk I L t) = if x3 < 2 then Res d 19 185 [vr 2 i0, vi x1, vr r2 i2, vi x3, vi x4, vi x5, vi x6, u7] [] (mk I L t) else Res d 19 127 [vr 2 i0, vi x1, vr r2 i2, vi x3, vi x4, vi x5, vi x6, u7] [] (mk I L t) :=
  Eq.trans (e_iload_n D19_122 rfl rfl) <| Eq.trans (e_iconst (x := 2) D19_123 rfl rfl) <| e_iclt D19_124 rfl rfl
theorem b19_127 {d : Nat} {i0 i2 r2 : Nat} {x1 x3 x4 x5 x6 : Int} {u7 : MV} {I L : Nat → Nat → Nat → Int} {t : Nat → Nat} (g1 : 0 ≤ w32 (x3 + (-1)) ∧ w32 (x3 + (-1)) < 24) : Res d 19 127 [vr 2 i0, vi x1, vr r2 i2, vi x3, vi x4, vi x5, vi x6, u7] [] (mk I L t) = if ¬ x5 = 4 then Res d 19 160 [vr 2 i0, vi x1, vr r2 i2, vi (w32 (x3 + (-1))), vi x4, vi x5, vi x6, vi (I 27 i0 (w32 (x3 + (-1))).toNat)] [] (mk I L t) else Res d 19 144 [vr 2 i0, vi x1, vr r2 i2, vi (w32 (x3 + (-1))), vi x4, vi x5, vi x6, vi (I 27 i0 (w32 (x3 + (-1))).toNat)] [] (mk I L t) :=
  Eq.trans (e_iinc (ls1 := [vr 2 i0, vi x1, vr r2 i2, vi (w32 (x3 + (-1))), vi x4, vi x5, vi x6, u7]) D19_127 rfl rfl rfl) <| Eq.trans (e_aload_n D19_130 rfl rfl) <| Eq.trans (e_getP (p := (27, i0)) D19_131 rfl o_19 f_2_24 (sh_2 _) (by decide) (pp_2_4 _ _)) <| Eq.trans (e_iload_n D19_134 rfl rfl) <| Eq.trans (e_iald D19_135 rfl (al_27 _) g1) <| Eq.trans (e_istore (ls1 := [vr 2 i0, vi x1, vr r2 i2, vi (w32 (x3 + (-1))), vi x4, vi x5, vi x6, vi (I 27 i0 (w32 (x3 + (-1))).toNat)]) D19_136 rfl (show 7 < 8 by decide) rfl) <| Eq.trans (e_iload D19_138 rfl rfl) <| Eq.trans (e_iconst (x := 4) D19_140 rfl rfl) <| e_icne D19_141 rfl rfl
theorem b19_144 {d : Nat} {i0 i2 r2 : Nat} {x1 x3 x4 x5 x6 x7 : Int} {I L : Nat → Nat → Nat → Int} {t : Nat → Nat} (g1 : 0 ≤ w32 (x3 - 1) ∧ w32 (x3 - 1) < 24) : Res d 19 144 [vr 2 i0, vi x1, vr r2 i2, vi x3, vi x4, vi x5, vi x6, vi x7] [] (mk I L t) = Res d 19 185 [vr 2 i0, vi x1, vr r2 i2, vi x3, vi x4, vi x5, vi x6, vi x7] [] (mk (up3 I 27 i0 (w32 (x3 - 1)).toNat (w32 ((I 27 i0 (w32 (x3 - 1)).toNat) * x7))) L t) :=
  Eq.trans (e_aload_n D19_144 rfl rfl) <| Eq.trans (e_getP (p := (27, i0)) D19_145 rfl o_19 f_2_24 (sh_2 _) (by decide) (pp_2_4 _ _)) <| Eq.trans (e_iload_n D19_148 rfl rfl) <| Eq.trans (e_iconst (x := 1) D19_149 rfl rfl) <| Eq.trans (e_isub D19_150 rfl) <| Eq.trans (e_dup2 D19_151 rfl) <| Eq.trans (e_iald D19_152 rfl (al_27 _) g1) <| Eq.trans (e_iload D19_153 rfl rfl) <| Eq.trans (e_imul D19_155 rfl) <| Eq.trans (e_iast D19_156 rfl (al_27 _) rfl g1) <| e_goto (q1 := 185) D19_157 rfl
theorem b19_160 {d : Nat} {i0 i2 r2 : Nat} {x1 x3 x4 x5 x6 x7 : Int} {I L : Nat → Nat → Nat → Int} {t : Nat → Nat} (g1 : 0 ≤ w32 (x3 - 1) ∧ w32 (x3 - 1) < 24) : Res d 19 160 [vr 2 i0, vi x1, vr r2 i2, vi x3, vi x4, vi x5, vi x6, vi x7] [] (mk I L t) = if ¬ x5 = 2 then Res d 19 180 [vr 2 i0, vi x1, vr r2 i2, vi x3, vi x4, vi x5, vi x6, vi x7] [vi (I 27 i0 (w32 (x3 - 1)).toNat), vi (w32 (x3 - 1)), vr 27 i0] (mk I L t) else Res d 19 175 [vr 2 i0, vi x1, vr r2 i2, vi x3, vi x4, vi x5, vi x6, vi x7] [vi (I 27 i0 (w32 (x3 - 1)).toNat), vi (w32 (x3 - 1)), vr 27 i0] (mk I L t) :=
  Eq.trans (e_aload_n D19_160 rfl rfl) <| Eq.trans (e_getP (p := (27, i0)) D19_161 rfl o_19 f_2_24 (sh_2 _) (by decide) (pp_2_4 _ _)) <| Eq.trans (e_iload_n D19_164 rfl rfl) <| Eq.trans (e_iconst (x := 1) D19_165 rfl rfl) <| Eq.trans (e_isub D19_166 rfl) <| Eq.trans (e_dup2 D19_167 rfl) <| Eq.trans (e_iald D19_168 rfl (al_27 _) g1) <| Eq.trans (e_iload D19_169 rfl rfl) <| Eq.trans (e_iconst (x := 2) D19_171 rfl rfl) <| e_icne D19_172 rfl rfl
theorem b19_175 {d : Nat} {i0 i2 r2 is0 : Nat} {x1 x3 x4 x5 x6 x7 xs2 xs1 : Int} {I L : Nat → Nat → Nat → Int} {t : Nat → Nat} : Res d 19 175 [vr 2 i0, vi x1, vr r2 i2, vi x3, vi x4, vi x5, vi x6, vi x7] [vi xs2, vi xs1, vr 27 is0] (mk I L t) = Res d 19 183 [vr 2 i0, vi x1, vr r2 i2, vi x3, vi x4, vi x5, vi x6, vi x7] [vi x7, vi xs2, vi xs1, vr 27 is0] (mk I L t) :=
  Eq.trans (e_iload D19_175 rfl rfl) <| e_goto (q1 := 183) D19_177 rfl
theorem b19_180 {d : Nat} {i0 i2 r2 is0 : Nat} {x1 x3 x4 x5 x6 x7 xs2 xs1 : Int} {I L : Nat → Nat → Nat → Int} {t : Nat → Nat} : Res d 19 180 [vr 2 i0, vi x1, vr r2 i2, vi x3, vi x4, vi x5, vi x6, vi x7] [vi xs2, vi xs1, vr 27 is0] (mk I L t) = Res d 19 183 [vr 2 i0, vi x1, vr r2 i2, vi x3, vi x4, vi x5, vi x6, vi x7] [vi (w32 (-x7)), vi xs2, vi xs1, vr 27 is0] (mk I L t) :=
  Eq.trans (e_iload D19_180 rfl rfl) <| e_ineg D19_182 rfl
theorem b19_183 {d : Nat} {i0 i2 r2 is0 : Nat} {x1 x3 x4 x5 x6 x7 xs3 xs2 xs1 : Int} {I L : Nat → Nat → Nat → Int} {t : Nat → Nat} (g1 : 0 ≤ xs1 ∧ xs1 < 24) : Res d 19 183 [vr 2 i0, vi x1, vr r2 i2, vi x3, vi x4, vi x5, vi x6, vi x7] [vi xs3, vi xs2, vi xs1, vr 27 is0] (mk I L t) = Res d 19 185 [vr 2 i0, vi x1, vr r2 i2, vi x3, vi x4, vi x5, vi x6, vi x7] [] (mk (up3 I 27 is0 xs1.toNat (w32 (xs2 + xs3))) L t) :=
  Eq.trans (e_iadd D19_183 rfl) <| e_iast D19_184 rfl (al_27 _) rfl g1
theorem b19_185 {d : Nat} {i0 i2 r2 : Nat} {x1 x3 x4 x5 x6 : Int} {u7 : MV} {I L : Nat → Nat → Nat → Int} {t : Nat → Nat} : Res d 19 185 [vr 2 i0, vi x1, vr r2 i2, vi x3, vi x4, vi x5, vi x6, u7] [] (mk I L t) = Res d 19 10 [vr 2 i0, vi x1, vr r2 i2, vi x3, vi (w32 (x4 + 1)), vi x5, vi x6, u7] [] (mk I L t) :=
  Eq.trans (e_iinc (ls1 := [vr 2 i0, vi x1, vr r2 i2, vi x3, vi (w32 (x4 + 1)), vi x5, vi x6, u7]) D19_185 rfl rfl rfl) <| e_goto (q1 := 10) D19_188 rfl
theorem b19_191 {d : Nat} {i0 i2 r2 : Nat} {x1 x3 x4 : Int} {u5 u6 u7 : MV} {I L : Nat → Nat → Nat → Int} {t : Nat → Nat} : Res d 19 191 [vr 2 i0, vi x1, vr r2 i2, vi x3, vi x4, u5, u6, u7] [] (mk I L t) = some (vi (I 27 i0 0), (mk I L t)) :=
  Eq.trans (e_aload_n D19_191 rfl rfl) <| Eq.trans (e_getP (p := (27, i0)) D19_192 rfl o_19 f_2_24 (sh_2 _) (by decide) (pp_2_4 _ _)) <| Eq.trans (e_iconst (x := 0) D19_195 rfl rfl) <| Eq.trans (e_iald D19_196 rfl (al_27 _) (by decide)) <| e_iret D19_197 rfl
/-! Mind_setSight -/
theorem cc_21 : cod 21 = cX3_setSight := rfl
theorem D21_0 : decode (cod 21) 0 = .ok (.aload_n 0, 1) := by rw [cc_21]; decide +kernel
theorem D21_1 : decode (cod 21) 1 = .ok (.iload_n 1, 1) := by rw [cc_21]; decide +kernel
theorem D21_2 : decode (cod 21) 2 = .ok (.putfield 18, 3) := by rw [cc_21]; decide +kernel
theorem D21_5 : decode (cod 21) 5 = .ok (.aload_n 0, 1) := by rw [cc_21]; decide +kernel
theorem D21_6 : decode (cod 21) 6 = .ok (.iload_n 2, 1) := by rw [cc_21]; decide +kernel
theorem D21_7 : decode (cod 21) 7 = .ok (.putfield 22, 3) := by rw [cc_21]; decide +kernel
theorem D21_10 : decode (cod 21) 10 = .ok (.aload_n 0, 1) := by rw [cc_21]; decide +kernel
theorem D21_11 : decode (cod 21) 11 = .ok (.iload_n 3, 1) := by rw [cc_21]; decide +kernel
theorem D21_12 : decode (cod 21) 12 = .ok (.putfield 25, 3) := by rw [cc_21]; decide +kernel
theorem D21_15 : decode (cod 21) 15 = .ok (.aload_n 0, 1) := by rw [cc_21]; decide +kernel
theorem D21_16 : decode (cod 21) 16 = .ok (.iload 4, 2) := by rw [cc_21]; decide +kernel
theorem D21_18 : decode (cod 21) 18 = .ok (.putfield 28, 3) := by rw [cc_21]; decide +kernel
theorem D21_21 : decode (cod 21) 21 = .ok (.aload_n 0, 1) := by rw [cc_21]; decide +kernel
theorem D21_22 : decode (cod 21) 22 = .ok (.iload 5, 2) := by rw [cc_21]; decide +kernel
theorem D21_24 : decode (cod 21) 24 = .ok (.putfield 31, 3) := by rw [cc_21]; decide +kernel
theorem D21_27 : decode (cod 21) 27 = .ok (.aload_n 0, 1) := by rw [cc_21]; decide +kernel
theorem D21_28 : decode (cod 21) 28 = .ok (.iload 6, 2) := by rw [cc_21]; decide +kernel
theorem D21_30 : decode (cod 21) 30 = .ok (.putfield 34, 3) := by rw [cc_21]; decide +kernel
theorem D21_33 : decode (cod 21) 33 = .ok (.return_, 1) := by rw [cc_21]; decide +kernel
theorem b21_0 {d : Nat} {i0 : Nat} {x1 x2 x3 x4 x5 x6 : Int} {I L : Nat → Nat → Nat → Int} {t : Nat → Nat} : Res d 21 0 [vr 3 i0, vi x1, vi x2, vi x3, vi x4, vi x5, vi x6] [] (mk I L t) = some (vx, (mk (up3 (up3 (up3 (up3 (up3 (up3 I 3 i0 2 x1) 3 i0 3 x2) 3 i0 4 x3) 3 i0 5 x4) 3 i0 6 x5) 3 i0 7 x6) L t)) :=
  Eq.trans (e_aload_n D21_0 rfl rfl) <| Eq.trans (e_iload_n D21_1 rfl rfl) <| Eq.trans (e_putI D21_2 rfl o_21 f_3_18 (sh_3 _) rfl (by decide) (Or.inl (by decide))) <| Eq.trans (e_aload_n D21_5 rfl rfl) <| Eq.trans (e_iload_n D21_6 rfl rfl) <| Eq.trans (e_putI D21_7 rfl o_21 f_3_22 (sh_3 _) rfl (by decide) (Or.inl (by decide))) <| Eq.trans (e_aload_n D21_10 rfl rfl) <| Eq.trans (e_iload_n D21_11 rfl rfl) <| Eq.trans (e_putI D21_12 rfl o_21 f_3_25 (sh_3 _) rfl (by decide) (Or.inl (by decide))) <| Eq.trans (e_aload_n D21_15 rfl rfl) <| Eq.trans (e_iload D21_16 rfl rfl) <| Eq.trans (e_putI D21_18 rfl o_21 f_3_28 (sh_3 _) rfl (by decide) (Or.inl (by decide))) <| Eq.trans (e_aload_n D21_21 rfl rfl) <| Eq.trans (e_iload D21_22 rfl rfl) <| Eq.trans (e_putI D21_24 rfl o_21 f_3_31 (sh_3 _) rfl (by decide) (Or.inl (by decide))) <| Eq.trans (e_aload_n D21_27 rfl rfl) <| Eq.trans (e_iload D21_28 rfl rfl) <| Eq.trans (e_putI D21_30 rfl o_21 f_3_34 (sh_3 _) rfl (by decide) (Or.inl (by decide))) <| e_vret D21_33 rfl
/-! Mind_copySight -/
theorem cc_22 : cod 22 = cX3_copySight := rfl
theorem D22_0 : decode (cod 22) 0 = .ok (.aload_n 0, 1) := by rw [cc_22]; decide +kernel
theorem D22_1 : decode (cod 22) 1 = .ok (.aload_n 1, 1) := by rw [cc_22]; decide +kernel
theorem D22_2 : decode (cod 22) 2 = .ok (.getfield 18, 3) := by rw [cc_22]; decide +kernel
theorem D22_5 : decode (cod 22) 5 = .ok (.aload_n 1, 1) := by rw [cc_22]; decide +kernel
theorem D22_6 : decode (cod 22) 6 = .ok (.getfield 22, 3) := by rw [cc_22]; decide +kernel
theorem D22_9 : decode (cod 22) 9 = .ok (.aload_n 1, 1) := by rw [cc_22]; decide +kernel
theorem D22_10 : decode (cod 22) 10 = .ok (.getfield 25, 3) := by rw [cc_22]; decide +kernel
theorem D22_13 : decode (cod 22) 13 = .ok (.aload_n 1, 1) := by rw [cc_22]; decide +kernel
theorem D22_14 : decode (cod 22) 14 = .ok (.getfield 28, 3) := by rw [cc_22]; decide +kernel
theorem D22_17 : decode (cod 22) 17 = .ok (.aload_n 1, 1) := by rw [cc_22]; decide +kernel
theorem D22_18 : decode (cod 22) 18 = .ok (.getfield 31, 3) := by rw [cc_22]; decide +kernel
theorem D22_21 : decode (cod 22) 21 = .ok (.aload_n 1, 1) := by rw [cc_22]; decide +kernel
theorem D22_22 : decode (cod 22) 22 = .ok (.getfield 34, 3) := by rw [cc_22]; decide +kernel
theorem D22_25 : decode (cod 22) 25 = .ok (.invokevirtual 37, 3) := by rw [cc_22]; decide +kernel
theorem D22_28 : decode (cod 22) 28 = .ok (.return_, 1) := by rw [cc_22]; decide +kernel
theorem b22_0 {d : Nat} {i0 i1 : Nat} {I L : Nat → Nat → Nat → Int} {t : Nat → Nat} : Res (d + 1) 22 0 [vr 3 i0, vr 3 i1] [] (mk I L t) = (Cal d 21 [vr 3 i0, vi (I 3 i1 2), vi (I 3 i1 3), vi (I 3 i1 4), vi (I 3 i1 5), vi (I 3 i1 6), vi (I 3 i1 7)] (mk I L t)).bind fun v => Res (d + 1) 22 28 [vr 3 i0, vr 3 i1] (psh 21 v.1 []) v.2 :=
  Eq.trans (e_aload_n D22_0 rfl rfl) <| Eq.trans (e_aload_n D22_1 rfl rfl) <| Eq.trans (e_getI D22_2 rfl o_22 f_3_18 (sh_3 _) (by decide)) <| Eq.trans (e_aload_n D22_5 rfl rfl) <| Eq.trans (e_getI D22_6 rfl o_22 f_3_22 (sh_3 _) (by decide)) <| Eq.trans (e_aload_n D22_9 rfl rfl) <| Eq.trans (e_getI D22_10 rfl o_22 f_3_25 (sh_3 _) (by decide)) <| Eq.trans (e_aload_n D22_13 rfl rfl) <| Eq.trans (e_getI D22_14 rfl o_22 f_3_28 (sh_3 _) (by decide)) <| Eq.trans (e_aload_n D22_17 rfl rfl) <| Eq.trans (e_getI D22_18 rfl o_22 f_3_31 (sh_3 _) (by decide)) <| Eq.trans (e_aload_n D22_21 rfl rfl) <| Eq.trans (e_getI D22_22 rfl o_22 f_3_34 (sh_3 _) (by decide)) <| e_callV D22_25 rfl o_22 m_3_37 (by decide) rfl rfl
theorem b22_28 {d : Nat} {i0 i1 : Nat} {I L : Nat → Nat → Nat → Int} {t : Nat → Nat} : Res d 22 28 [vr 3 i0, vr 3 i1] [] (mk I L t) = some (vx, (mk I L t)) :=
  e_vret D22_28 rfl
/-! Mind_pullTo -/
theorem cc_23 : cod 23 = cX3_pullTo := rfl
theorem D23_0 : decode (cod 23) 0 = .ok (.iconst 0, 1) := by rw [cc_23]; decide +kernel
theorem D23_1 : decode (cod 23) 1 = .ok (.istore_n 3, 1) := by rw [cc_23]; decide +kernel
theorem D23_2 : decode (cod 23) 2 = .ok (.iload_n 3, 1) := by rw [cc_23]; decide +kernel
theorem D23_3 : decode (cod 23) 3 = .ok (.bipush 16, 2) := by rw [cc_23]; decide +kernel
theorem D23_5 : decode (cod 23) 5 = .ok (.if_icmp .ge 37, 3) := by rw [cc_23]; decide +kernel
theorem D23_8 : decode (cod 23) 8 = .ok (.iload_n 2, 1) := by rw [cc_23]; decide +kernel
theorem D23_9 : decode (cod 23) 9 = .ok (.ifCond .eq 33, 3) := by rw [cc_23]; decide +kernel
theorem D23_12 : decode (cod 23) 12 = .ok (.aload_n 0, 1) := by rw [cc_23]; decide +kernel
theorem D23_13 : decode (cod 23) 13 = .ok (.getfield 9, 3) := by rw [cc_23]; decide +kernel
theorem D23_16 : decode (cod 23) 16 = .ok (.iload_n 3, 1) := by rw [cc_23]; decide +kernel
theorem D23_17 : decode (cod 23) 17 = .ok (.dup2, 1) := by rw [cc_23]; decide +kernel
theorem D23_18 : decode (cod 23) 18 = .ok (.iaload, 1) := by rw [cc_23]; decide +kernel
theorem D23_19 : decode (cod 23) 19 = .ok (.iload_n 2, 1) := by rw [cc_23]; decide +kernel
theorem D23_20 : decode (cod 23) 20 = .ok (.aload_n 1, 1) := by rw [cc_23]; decide +kernel
theorem D23_21 : decode (cod 23) 21 = .ok (.iload_n 3, 1) := by rw [cc_23]; decide +kernel
theorem D23_22 : decode (cod 23) 22 = .ok (.iaload, 1) := by rw [cc_23]; decide +kernel
theorem D23_23 : decode (cod 23) 23 = .ok (.aload_n 0, 1) := by rw [cc_23]; decide +kernel
theorem D23_24 : decode (cod 23) 24 = .ok (.getfield 9, 3) := by rw [cc_23]; decide +kernel
theorem D23_27 : decode (cod 23) 27 = .ok (.iload_n 3, 1) := by rw [cc_23]; decide +kernel
theorem D23_28 : decode (cod 23) 28 = .ok (.iaload, 1) := by rw [cc_23]; decide +kernel
theorem D23_29 : decode (cod 23) 29 = .ok (.isub, 1) := by rw [cc_23]; decide +kernel
theorem D23_30 : decode (cod 23) 30 = .ok (.imul, 1) := by rw [cc_23]; decide +kernel
theorem D23_31 : decode (cod 23) 31 = .ok (.bipush 100, 2) := by rw [cc_23]; decide +kernel
theorem D23_33 : decode (cod 23) 33 = .ok (.idiv, 1) := by rw [cc_23]; decide +kernel
theorem D23_34 : decode (cod 23) 34 = .ok (.iadd, 1) := by rw [cc_23]; decide +kernel
theorem D23_35 : decode (cod 23) 35 = .ok (.iastore, 1) := by rw [cc_23]; decide +kernel
theorem D23_36 : decode (cod 23) 36 = .ok (.iinc 3 1, 3) := by rw [cc_23]; decide +kernel
theorem D23_39 : decode (cod 23) 39 = .ok (.goto (-37), 3) := by rw [cc_23]; decide +kernel
theorem D23_42 : decode (cod 23) 42 = .ok (.return_, 1) := by rw [cc_23]; decide +kernel
theorem b23_0 {d : Nat} {i0 i1 r1 : Nat} {x2 : Int} {I L : Nat → Nat → Nat → Int} {t : Nat → Nat} : Res d 23 0 [vr 3 i0, vr r1 i1, vi x2, vx] [] (mk I L t) = Res d 23 2 [vr 3 i0, vr r1 i1, vi x2, vi 0] [] (mk I L t) :=
  Eq.trans (e_iconst (x := 0) D23_0 rfl rfl) <| e_istore_n (ls1 := [vr 3 i0, vr r1 i1, vi x2, vi 0]) D23_1 rfl (show 3 < 4 by decide) rfl
theorem b23_2 {d : Nat} {i0 i1 r1 : Nat} {x2 x3 : Int} {I L : Nat → Nat → Nat → Int} {t : Nat → Nat} : Res d 23 2 [vr 3 i0, vr r1 i1, vi x2, vi x3] [] (mk I L t) = if 16 ≤ x3 then Res d 23 42 [vr 3 i0, vr r1 i1, vi x2, vi x3] [] (mk I L t) else Res d 23 8 [vr 3 i0, vr r1 i1, vi x2, vi x3] [] (mk I L t) :=
  Eq.trans (e_iload_n D23_2 rfl rfl) <| Eq.trans (e_bipush (x := 16) D23_3 rfl rfl) <| e_icge D23_5 rfl rfl
theorem b23_8 {d : Nat} {i0 i1 r1 : Nat} {x2 x3 : Int} {I L : Nat → Nat → Nat → Int} {t : Nat → Nat} : Res d 23 8 [vr 3 i0, vr r1 i1, vi x2, vi x3] [] (mk I L t) = if x2 = 0 then Res d 23 42 [vr 3 i0, vr r1 i1, vi x2, vi x3] [] (mk I L t) else Res d 23 12 [vr 3 i0, vr r1 i1, vi x2, vi x3] [] (mk I L t) :=
  Eq.trans (e_iload_n D23_8 rfl rfl) <| e_ifeq D23_9 rfl rfl
theorem b23_12 {d : Nat} {i0 i1 r1 : Nat} {x2 x3 n1 : Int} {I L : Nat → Nat → Nat → Int} {t : Nat → Nat} (g1 : 0 ≤ x3 ∧ x3 < 16) (g2 : alen 0 r1 i1 = n1) (g3 : (0 : Int) ≤ x3 ∧ x3 < n1) : Res d 23 12 [vr 3 i0, vr r1 i1, vi x2, vi x3] [] (mk I L t) = Res d 23 2 [vr 3 i0, vr r1 i1, vi x2, vi (w32 (x3 + 1))] [] (mk (up3 I 28 i0 x3.toNat (w32 ((I 28 i0 x3.toNat) + (vIdiv (w32 (x2 * (w32 ((ldI (mk I L t) r1 i1 x3.toNat) - (I 28 i0 x3.toNat))))) 100)))) L t) :=
  Eq.trans (e_aload_n D23_12 rfl rfl) <| Eq.trans (e_getP (p := (28, i0)) D23_13 rfl o_23 f_3_9 (sh_3 _) (by decide) (pp_3_0 _ _)) <| Eq.trans (e_iload_n D23_16 rfl rfl) <| Eq.trans (e_dup2 D23_17 rfl) <| Eq.trans (e_iald D23_18 rfl (al_28 _) g1) <| Eq.trans (e_iload_n D23_19 rfl rfl) <| Eq.trans (e_aload_n D23_20 rfl rfl) <| Eq.trans (e_iload_n D23_21 rfl rfl) <| Eq.trans (e_iald D23_22 rfl g2 g3) <| Eq.trans (e_aload_n D23_23 rfl rfl) <| Eq.trans (e_getP (p := (28, i0)) D23_24 rfl o_23 f_3_9 (sh_3 _) (by decide) (pp_3_0 _ _)) <| Eq.trans (e_iload_n D23_27 rfl rfl) <| Eq.trans (e_iald D23_28 rfl (al_28 _) g1) <| Eq.trans (e_isub D23_29 rfl) <| Eq.trans (e_imul D23_30 rfl) <| Eq.trans (e_bipush (x := 100) D23_31 rfl rfl) <| Eq.trans (e_idiv D23_33 rfl (by decide)) <| Eq.trans (e_iadd D23_34 rfl) <| Eq.trans (e_iast D23_35 rfl (al_28 _) rfl g1) <| Eq.trans (e_iinc (ls1 := [vr 3 i0, vr r1 i1, vi x2, vi (w32 (x3 + 1))]) D23_36 rfl rfl rfl) <| e_goto (q1 := 2) D23_39 rfl
theorem b23_42 {d : Nat} {i0 i1 r1 : Nat} {x2 x3 : Int} {I L : Nat → Nat → Nat → Int} {t : Nat → Nat} : Res d 23 42 [vr 3 i0, vr r1 i1, vi x2, vi x3] [] (mk I L t) = some (vx, (mk I L t)) :=
  e_vret D23_42 rfl
/-! Row_has -/
theorem cc_25 : cod 25 = cX4_has := rfl
theorem D25_0 : decode (cod 25) 0 = .ok (.iload_n 1, 1) := by rw [cc_25]; decide +kernel
theorem D25_1 : decode (cod 25) 1 = .ok (.ifCond .lt 15, 3) := by rw [cc_25]; decide +kernel
theorem D25_4 : decode (cod 25) 4 = .ok (.iload_n 1, 1) := by rw [cc_25]; decide +kernel
theorem D25_5 : decode (cod 25) 5 = .ok (.aload_n 0, 1) := by rw [cc_25]; decide +kernel
theorem D25_6 : decode (cod 25) 6 = .ok (.getfield 15, 3) := by rw [cc_25]; decide +kernel
theorem D25_9 : decode (cod 25) 9 = .ok (.if_icmp .ge 7, 3) := by rw [cc_25]; decide +kernel
theorem D25_12 : decode (cod 25) 12 = .ok (.iconst 1, 1) := by rw [cc_25]; decide +kernel
theorem D25_13 : decode (cod 25) 13 = .ok (.goto 4, 3) := by rw [cc_25]; decide +kernel
theorem D25_16 : decode (cod 25) 16 = .ok (.iconst 0, 1) := by rw [cc_25]; decide +kernel
theorem D25_17 : decode (cod 25) 17 = .ok (.ireturn, 1) := by rw [cc_25]; decide +kernel
theorem b25_0 {d : Nat} {i0 : Nat} {x1 : Int} {I L : Nat → Nat → Nat → Int} {t : Nat → Nat} : Res d 25 0 [vr 4 i0, vi x1] [] (mk I L t) = if x1 < 0 then Res d 25 16 [vr 4 i0, vi x1] [] (mk I L t) else Res d 25 4 [vr 4 i0, vi x1] [] (mk I L t) :=
  Eq.trans (e_iload_n D25_0 rfl rfl) <| e_iflt D25_1 rfl rfl
theorem b25_4 {d : Nat} {i0 : Nat} {x1 : Int} {I L : Nat → Nat → Nat → Int} {t : Nat → Nat} : Res d 25 4 [vr 4 i0, vi x1] [] (mk I L t) = if I 4 i0 1 ≤ x1 then Res d 25 16 [vr 4 i0, vi x1] [] (mk I L t) else Res d 25 12 [vr 4 i0, vi x1] [] (mk I L t) :=
  Eq.trans (e_iload_n D25_4 rfl rfl) <| Eq.trans (e_aload_n D25_5 rfl rfl) <| Eq.trans (e_getI D25_6 rfl o_25 f_4_15 (sh_4 _) (by decide)) <| e_icge D25_9 rfl rfl
theorem b25_12 {d : Nat} {i0 : Nat} {x1 : Int} {I L : Nat → Nat → Nat → Int} {t : Nat → Nat} : Res d 25 12 [vr 4 i0, vi x1] [] (mk I L t) = Res d 25 17 [vr 4 i0, vi x1] [vi 1] (mk I L t) :=
  Eq.trans (e_iconst (x := 1) D25_12 rfl rfl) <| e_goto (q1 := 17) D25_13 rfl
theorem b25_16 {d : Nat} {i0 : Nat} {x1 : Int} {I L : Nat → Nat → Nat → Int} {t : Nat → Nat} : Res d 25 16 [vr 4 i0, vi x1] [] (mk I L t) = Res d 25 17 [vr 4 i0, vi x1] [vi 0] (mk I L t) :=
  e_iconst (x := 0) D25_16 rfl rfl
theorem b25_17 {d : Nat} {i0 : Nat} {x1 xs0 : Int} {I L : Nat → Nat → Nat → Int} {t : Nat → Nat} (g1 : xs0 = 0 ∨ xs0 = 1) : Res d 25 17 [vr 4 i0, vi x1] [vi xs0] (mk I L t) = some (vi xs0, (mk I L t)) :=
  e_iret D25_17 (nrz rfl g1)
/-! Row_faceAt -/
theorem cc_26 : cod 26 = cX4_faceAt := rfl
theorem D26_0 : decode (cod 26) 0 = .ok (.iload_n 1, 1) := by rw [cc_26]; decide +kernel
theorem D26_1 : decode (cod 26) 1 = .ok (.ifCond .lt 20, 3) := by rw [cc_26]; decide +kernel
theorem D26_4 : decode (cod 26) 4 = .ok (.iload_n 1, 1) := by rw [cc_26]; decide +kernel
theorem D26_5 : decode (cod 26) 5 = .ok (.aload_n 0, 1) := by rw [cc_26]; decide +kernel
theorem D26_6 : decode (cod 26) 6 = .ok (.getfield 15, 3) := by rw [cc_26]; decide +kernel
theorem D26_9 : decode (cod 26) 9 = .ok (.if_icmp .ge 12, 3) := by rw [cc_26]; decide +kernel
theorem D26_12 : decode (cod 26) 12 = .ok (.aload_n 0, 1) := by rw [cc_26]; decide +kernel
theorem D26_13 : decode (cod 26) 13 = .ok (.getfield 9, 3) := by rw [cc_26]; decide +kernel
theorem D26_16 : decode (cod 26) 16 = .ok (.iload_n 1, 1) := by rw [cc_26]; decide +kernel
theorem D26_17 : decode (cod 26) 17 = .ok (.iaload, 1) := by rw [cc_26]; decide +kernel
theorem D26_18 : decode (cod 26) 18 = .ok (.goto 4, 3) := by rw [cc_26]; decide +kernel
theorem D26_21 : decode (cod 26) 21 = .ok (.iconst (-1), 1) := by rw [cc_26]; decide +kernel
theorem D26_22 : decode (cod 26) 22 = .ok (.ireturn, 1) := by rw [cc_26]; decide +kernel
theorem b26_0 {d : Nat} {i0 : Nat} {x1 : Int} {I L : Nat → Nat → Nat → Int} {t : Nat → Nat} : Res d 26 0 [vr 4 i0, vi x1] [] (mk I L t) = if x1 < 0 then Res d 26 21 [vr 4 i0, vi x1] [] (mk I L t) else Res d 26 4 [vr 4 i0, vi x1] [] (mk I L t) :=
  Eq.trans (e_iload_n D26_0 rfl rfl) <| e_iflt D26_1 rfl rfl
theorem b26_4 {d : Nat} {i0 : Nat} {x1 : Int} {I L : Nat → Nat → Nat → Int} {t : Nat → Nat} : Res d 26 4 [vr 4 i0, vi x1] [] (mk I L t) = if I 4 i0 1 ≤ x1 then Res d 26 21 [vr 4 i0, vi x1] [] (mk I L t) else Res d 26 12 [vr 4 i0, vi x1] [] (mk I L t) :=
  Eq.trans (e_iload_n D26_4 rfl rfl) <| Eq.trans (e_aload_n D26_5 rfl rfl) <| Eq.trans (e_getI D26_6 rfl o_26 f_4_15 (sh_4 _) (by decide)) <| e_icge D26_9 rfl rfl
theorem b26_12 {d : Nat} {i0 : Nat} {x1 : Int} {I L : Nat → Nat → Nat → Int} {t : Nat → Nat} (g1 : 0 ≤ x1 ∧ x1 < 9) : Res d 26 12 [vr 4 i0, vi x1] [] (mk I L t) = Res d 26 22 [vr 4 i0, vi x1] [vi (I 30 i0 x1.toNat)] (mk I L t) :=
  Eq.trans (e_aload_n D26_12 rfl rfl) <| Eq.trans (e_getP (p := (30, i0)) D26_13 rfl o_26 f_4_9 (sh_4 _) (by decide) (pp_4_0 _ _)) <| Eq.trans (e_iload_n D26_16 rfl rfl) <| Eq.trans (e_iald D26_17 rfl (al_30 _) g1) <| e_goto (q1 := 22) D26_18 rfl
theorem b26_21 {d : Nat} {i0 : Nat} {x1 : Int} {I L : Nat → Nat → Nat → Int} {t : Nat → Nat} : Res d 26 21 [vr 4 i0, vi x1] [] (mk I L t) = Res d 26 22 [vr 4 i0, vi x1] [vi (-1)] (mk I L t) :=
  e_iconst (x := -1) D26_21 rfl rfl
theorem b26_22 {d : Nat} {i0 : Nat} {x1 xs0 : Int} {I L : Nat → Nat → Nat → Int} {t : Nat → Nat} : Res d 26 22 [vr 4 i0, vi x1] [vi xs0] (mk I L t) = some (vi xs0, (mk I L t)) :=
  e_iret D26_22 rfl
/-! Row_countFaces -/
theorem cc_27 : cod 27 = cX4_countFaces := rfl
theorem D27_0 : decode (cod 27) 0 = .ok (.iconst 0, 1) := by rw [cc_27]; decide +kernel
theorem D27_1 : decode (cod 27) 1 = .ok (.istore_n 1, 1) := by rw [cc_27]; decide +kernel
theorem D27_2 : decode (cod 27) 2 = .ok (.iconst 0, 1) := by rw [cc_27]; decide +kernel
theorem D27_3 : decode (cod 27) 3 = .ok (.istore_n 2, 1) := by rw [cc_27]; decide +kernel
theorem D27_4 : decode (cod 27) 4 = .ok (.iload_n 2, 1) := by rw [cc_27]; decide +kernel
theorem D27_5 : decode (cod 27) 5 = .ok (.aload_n 0, 1) := by rw [cc_27]; decide +kernel
theorem D27_6 : decode (cod 27) 6 = .ok (.getfield 15, 3) := by rw [cc_27]; decide +kernel
theorem D27_9 : decode (cod 27) 9 = .ok (.if_icmp .ge 27, 3) := by rw [cc_27]; decide +kernel
theorem D27_12 : decode (cod 27) 12 = .ok (.iload_n 1, 1) := by rw [cc_27]; decide +kernel
theorem D27_13 : decode (cod 27) 13 = .ok (.aload_n 0, 1) := by rw [cc_27]; decide +kernel
theorem D27_14 : decode (cod 27) 14 = .ok (.getfield 9, 3) := by rw [cc_27]; decide +kernel
theorem D27_17 : decode (cod 27) 17 = .ok (.iload_n 2, 1) := by rw [cc_27]; decide +kernel
theorem D27_18 : decode (cod 27) 18 = .ok (.iaload, 1) := by rw [cc_27]; decide +kernel
theorem D27_19 : decode (cod 27) 19 = .ok (.iconst (-1), 1) := by rw [cc_27]; decide +kernel
theorem D27_20 : decode (cod 27) 20 = .ok (.if_icmp .ne 7, 3) := by rw [cc_27]; decide +kernel
theorem D27_23 : decode (cod 27) 23 = .ok (.iconst 0, 1) := by rw [cc_27]; decide +kernel
theorem D27_24 : decode (cod 27) 24 = .ok (.goto 4, 3) := by rw [cc_27]; decide +kernel
theorem D27_27 : decode (cod 27) 27 = .ok (.iconst 1, 1) := by rw [cc_27]; decide +kernel
theorem D27_28 : decode (cod 27) 28 = .ok (.iadd, 1) := by rw [cc_27]; decide +kernel
theorem D27_29 : decode (cod 27) 29 = .ok (.istore_n 1, 1) := by rw [cc_27]; decide +kernel
theorem D27_30 : decode (cod 27) 30 = .ok (.iinc 2 1, 3) := by rw [cc_27]; decide +kernel
theorem D27_33 : decode (cod 27) 33 = .ok (.goto (-29), 3) := by rw [cc_27]; decide +kernel
theorem D27_36 : decode (cod 27) 36 = .ok (.iload_n 1, 1) := by rw [cc_27]; decide +kernel
theorem D27_37 : decode (cod 27) 37 = .ok (.ireturn, 1) := by rw [cc_27]; decide +kernel
theorem b27_0 {d : Nat} {i0 : Nat} {I L : Nat → Nat → Nat → Int} {t : Nat → Nat} : Res d 27 0 [vr 4 i0, vx, vx] [] (mk I L t) = Res d 27 4 [vr 4 i0, vi 0, vi 0] [] (mk I L t) :=
  Eq.trans (e_iconst (x := 0) D27_0 rfl rfl) <| Eq.trans (e_istore_n (ls1 := [vr 4 i0, vi 0, vx]) D27_1 rfl (show 1 < 3 by decide) rfl) <| Eq.trans (e_iconst (x := 0) D27_2 rfl rfl) <| e_istore_n (ls1 := [vr 4 i0, vi 0, vi 0]) D27_3 rfl (show 2 < 3 by decide) rfl
theorem b27_4 {d : Nat} {i0 : Nat} {x1 x2 : Int} {I L : Nat → Nat → Nat → Int} {t : Nat → Nat} : Res d 27 4 [vr 4 i0, vi x1, vi x2] [] (mk I L t) = if I 4 i0 1 ≤ x2 then Res d 27 36 [vr 4 i0, vi x1, vi x2] [] (mk I L t) else Res d 27 12 [vr 4 i0, vi x1, vi x2] [] (mk I L t) :=
  Eq.trans (e_iload_n D27_4 rfl rfl) <| Eq.trans (e_aload_n D27_5 rfl rfl) <| Eq.trans (e_getI D27_6 rfl o_27 f_4_15 (sh_4 _) (by decide)) <| e_icge D27_9 rfl rfl
theorem b27_12 {d : Nat} {i0 : Nat} {x1 x2 : Int} {I L : Nat → Nat → Nat → Int} {t : Nat → Nat} (g1 : 0 ≤ x2 ∧ x2 < 9) : Res d 27 12 [vr 4 i0, vi x1, vi x2] [] (mk I L t) = if ¬ I 30 i0 x2.toNat = -1 then Res d 27 27 [vr 4 i0, vi x1, vi x2] [vi x1] (mk I L t) else Res d 27 23 [vr 4 i0, vi x1, vi x2] [vi x1] (mk I L t) :=
  Eq.trans (e_iload_n D27_12 rfl rfl) <| Eq.trans (e_aload_n D27_13 rfl rfl) <| Eq.trans (e_getP (p := (30, i0)) D27_14 rfl o_27 f_4_9 (sh_4 _) (by decide) (pp_4_0 _ _)) <| Eq.trans (e_iload_n D27_17 rfl rfl) <| Eq.trans (e_iald D27_18 rfl (al_30 _) g1) <| Eq.trans (e_iconst (x := -1) D27_19 rfl rfl) <| e_icne D27_20 rfl rfl
theorem b27_23 {d : Nat} {i0 : Nat} {x1 x2 xs0 : Int} {I L : Nat → Nat → Nat → Int} {t : Nat → Nat} : Res d 27 23 [vr 4 i0, vi x1, vi x2] [vi xs0] (mk I L t) = Res d 27 28 [vr 4 i0, vi x1, vi x2] [vi 0, vi xs0] (mk I L t) :=
  Eq.trans (e_iconst (x := 0) D27_23 rfl rfl) <| e_goto (q1 := 28) D27_24 rfl
theorem b27_27 {d : Nat} {i0 : Nat} {x1 x2 xs0 : Int} {I L : Nat → Nat → Nat → Int} {t : Nat → Nat} : Res d 27 27 [vr 4 i0, vi x1, vi x2] [vi xs0] (mk I L t) = Res d 27 28 [vr 4 i0, vi x1, vi x2] [vi 1, vi xs0] (mk I L t) :=
  e_iconst (x := 1) D27_27 rfl rfl
theorem b27_28 {d : Nat} {i0 : Nat} {x1 x2 xs1 xs0 : Int} {I L : Nat → Nat → Nat → Int} {t : Nat → Nat} : Res d 27 28 [vr 4 i0, vi x1, vi x2] [vi xs1, vi xs0] (mk I L t) = Res d 27 4 [vr 4 i0, vi (w32 (xs0 + xs1)), vi (w32 (x2 + 1))] [] (mk I L t) :=
  Eq.trans (e_iadd D27_28 rfl) <| Eq.trans (e_istore_n (ls1 := [vr 4 i0, vi (w32 (xs0 + xs1)), vi x2]) D27_29 rfl (show 1 < 3 by decide) rfl) <| Eq.trans (e_iinc (ls1 := [vr 4 i0, vi (w32 (xs0 + xs1)), vi (w32 (x2 + 1))]) D27_30 rfl rfl rfl) <| e_goto (q1 := 4) D27_33 rfl
theorem b27_36 {d : Nat} {i0 : Nat} {x1 x2 : Int} {I L : Nat → Nat → Nat → Int} {t : Nat → Nat} : Res d 27 36 [vr 4 i0, vi x1, vi x2] [] (mk I L t) = some (vi x1, (mk I L t)) :=
  Eq.trans (e_iload_n D27_36 rfl rfl) <| e_iret D27_37 rfl
/-! Row_copy -/
theorem cc_28 : cod 28 = cX4_copy := rfl
theorem D28_0 : decode (cod 28) 0 = .ok (.aload_n 0, 1) := by rw [cc_28]; decide +kernel
theorem D28_1 : decode (cod 28) 1 = .ok (.aload_n 1, 1) := by rw [cc_28]; decide +kernel
theorem D28_2 : decode (cod 28) 2 = .ok (.getfield 15, 3) := by rw [cc_28]; decide +kernel
theorem D28_5 : decode (cod 28) 5 = .ok (.putfield 15, 3) := by rw [cc_28]; decide +kernel
theorem D28_8 : decode (cod 28) 8 = .ok (.aload_n 1, 1) := by rw [cc_28]; decide +kernel
theorem D28_9 : decode (cod 28) 9 = .ok (.getfield 9, 3) := by rw [cc_28]; decide +kernel
theorem D28_12 : decode (cod 28) 12 = .ok (.iconst 0, 1) := by rw [cc_28]; decide +kernel
theorem D28_13 : decode (cod 28) 13 = .ok (.aload_n 0, 1) := by rw [cc_28]; decide +kernel
theorem D28_14 : decode (cod 28) 14 = .ok (.getfield 9, 3) := by rw [cc_28]; decide +kernel
theorem D28_17 : decode (cod 28) 17 = .ok (.iconst 0, 1) := by rw [cc_28]; decide +kernel
theorem D28_18 : decode (cod 28) 18 = .ok (.bipush 9, 2) := by rw [cc_28]; decide +kernel
theorem D28_20 : decode (cod 28) 20 = .ok (.invokestatic 19, 3) := by rw [cc_28]; decide +kernel
theorem D28_23 : decode (cod 28) 23 = .ok (.return_, 1) := by rw [cc_28]; decide +kernel
theorem b28_0 {d : Nat} {i0 i1 : Nat} {I L : Nat → Nat → Nat → Int} {t : Nat → Nat} : Res (d + 1) 28 0 [vr 4 i0, vr 4 i1] [] (mk I L t) = some (vx, (mk (cpI (up3 I 4 i0 1 (I 4 i1 1)) 30 i1 0 30 i0 0 9) L t)) :=
  Eq.trans (e_aload_n D28_0 rfl rfl) <| Eq.trans (e_aload_n D28_1 rfl rfl) <| Eq.trans (e_getI D28_2 rfl o_28 f_4_15 (sh_4 _) (by decide)) <| Eq.trans (e_putI D28_5 rfl o_28 f_4_15 (sh_4 _) rfl (by decide) (Or.inl (by decide))) <| Eq.trans (e_aload_n D28_8 rfl rfl) <| Eq.trans (e_getP (p := (30, i1)) D28_9 rfl o_28 f_4_9 (sh_4 _) (by decide) (pp_4_0 _ _)) <| Eq.trans (e_iconst (x := 0) D28_12 rfl rfl) <| Eq.trans (e_aload_n D28_13 rfl rfl) <| Eq.trans (e_getP (p := (30, i0)) D28_14 rfl o_28 f_4_9 (sh_4 _) (by decide) (pp_4_0 _ _)) <| Eq.trans (e_iconst (x := 0) D28_17 rfl rfl) <| Eq.trans (e_bipush (x := 9) D28_18 rfl rfl) <| Eq.trans (e_acpy (by omega) D28_20 rfl o_28 m_4_19 rfl rfl (al_30 _) (al_30 _) (by decide)) <| e_vret D28_23 rfl
/-! Said_set -/
theorem cc_30 : cod 30 = cX5_set := rfl
theorem D30_0 : decode (cod 30) 0 = .ok (.iload_n 1, 1) := by rw [cc_30]; decide +kernel
theorem D30_1 : decode (cod 30) 1 = .ok (.iconst 0, 1) := by rw [cc_30]; decide +kernel
theorem D30_2 : decode (cod 30) 2 = .ok (.bipush 11, 2) := by rw [cc_30]; decide +kernel
theorem D30_4 : decode (cod 30) 4 = .ok (.invokestatic 21, 3) := by rw [cc_30]; decide +kernel
theorem D30_7 : decode (cod 30) 7 = .ok (.ifCond .eq 25, 3) := by rw [cc_30]; decide +kernel
theorem D30_10 : decode (cod 30) 10 = .ok (.aload_n 0, 1) := by rw [cc_30]; decide +kernel
theorem D30_11 : decode (cod 30) 11 = .ok (.getfield 11, 3) := by rw [cc_30]; decide +kernel
theorem D30_14 : decode (cod 30) 14 = .ok (.iload_n 1, 1) := by rw [cc_30]; decide +kernel
theorem D30_15 : decode (cod 30) 15 = .ok (.iload_n 2, 1) := by rw [cc_30]; decide +kernel
theorem D30_16 : decode (cod 30) 16 = .ok (.iastore, 1) := by rw [cc_30]; decide +kernel
theorem D30_17 : decode (cod 30) 17 = .ok (.aload_n 0, 1) := by rw [cc_30]; decide +kernel
theorem D30_18 : decode (cod 30) 18 = .ok (.getfield 15, 3) := by rw [cc_30]; decide +kernel
theorem D30_21 : decode (cod 30) 21 = .ok (.iload_n 1, 1) := by rw [cc_30]; decide +kernel
theorem D30_22 : decode (cod 30) 22 = .ok (.iload_n 3, 1) := by rw [cc_30]; decide +kernel
theorem D30_23 : decode (cod 30) 23 = .ok (.iastore, 1) := by rw [cc_30]; decide +kernel
theorem D30_24 : decode (cod 30) 24 = .ok (.aload_n 0, 1) := by rw [cc_30]; decide +kernel
theorem D30_25 : decode (cod 30) 25 = .ok (.getfield 18, 3) := by rw [cc_30]; decide +kernel
theorem D30_28 : decode (cod 30) 28 = .ok (.iload_n 1, 1) := by rw [cc_30]; decide +kernel
theorem D30_29 : decode (cod 30) 29 = .ok (.iload 4, 2) := by rw [cc_30]; decide +kernel
theorem D30_31 : decode (cod 30) 31 = .ok (.iastore, 1) := by rw [cc_30]; decide +kernel
theorem D30_32 : decode (cod 30) 32 = .ok (.return_, 1) := by rw [cc_30]; decide +kernel
theorem b30_0 {d : Nat} {i0 : Nat} {x1 x2 x3 x4 : Int} {I L : Nat → Nat → Nat → Int} {t : Nat → Nat} : Res (d + 1) 30 0 [vr 5 i0, vi x1, vi x2, vi x3, vi x4] [] (mk I L t) = (Cal d 102 [vi x1, vi 0, vi 11] (mk I L t)).bind fun v => Res (d + 1) 30 7 [vr 5 i0, vi x1, vi x2, vi x3, vi x4] (psh 102 v.1 []) v.2 :=
  Eq.trans (e_iload_n D30_0 rfl rfl) <| Eq.trans (e_iconst (x := 0) D30_1 rfl rfl) <| Eq.trans (e_bipush (x := 11) D30_2 rfl rfl) <| e_callS D30_4 rfl o_30 m_5_21 (by decide) rfl rfl
theorem b30_7 {d : Nat} {i0 : Nat} {x1 x2 x3 x4 xs0 : Int} {I L : Nat → Nat → Nat → Int} {t : Nat → Nat} : Res d 30 7 [vr 5 i0, vi x1, vi x2, vi x3, vi x4] [vi xs0] (mk I L t) = if xs0 = 0 then Res d 30 32 [vr 5 i0, vi x1, vi x2, vi x3, vi x4] [] (mk I L t) else Res d 30 10 [vr 5 i0, vi x1, vi x2, vi x3, vi x4] [] (mk I L t) :=
  e_ifeq D30_7 rfl rfl
theorem b30_10 {d : Nat} {i0 : Nat} {x1 x2 x3 x4 : Int} {I L : Nat → Nat → Nat → Int} {t : Nat → Nat} (g1 : 0 ≤ x1 ∧ x1 < 12) : Res d 30 10 [vr 5 i0, vi x1, vi x2, vi x3, vi x4] [] (mk I L t) = Res d 30 32 [vr 5 i0, vi x1, vi x2, vi x3, vi x4] [] (mk (up3 (up3 (up3 I 31 i0 x1.toNat x2) 32 i0 x1.toNat x3) 33 i0 x1.toNat x4) L t) :=
  Eq.trans (e_aload_n D30_10 rfl rfl) <| Eq.trans (e_getP (p := (31, i0)) D30_11 rfl o_30 f_5_11 (sh_5 _) (by decide) (pp_5_0 _ _)) <| Eq.trans (e_iload_n D30_14 rfl rfl) <| Eq.trans (e_iload_n D30_15 rfl rfl) <| Eq.trans (e_iast D30_16 rfl (al_31 _) rfl g1) <| Eq.trans (e_aload_n D30_17 rfl rfl) <| Eq.trans (e_getP (p := (32, i0)) D30_18 rfl o_30 f_5_15 (sh_5 _) (by decide) (pp_5_1 _ _)) <| Eq.trans (e_iload_n D30_21 rfl rfl) <| Eq.trans (e_iload_n D30_22 rfl rfl) <| Eq.trans (e_iast D30_23 rfl (al_32 _) rfl g1) <| Eq.trans (e_aload_n D30_24 rfl rfl) <| Eq.trans (e_getP (p := (33, i0)) D30_25 rfl o_30 f_5_18 (sh_5 _) (by decide) (pp_5_2 _ _)) <| Eq.trans (e_iload_n D30_28 rfl rfl) <| Eq.trans (e_iload D30_29 rfl rfl) <| e_iast D30_31 rfl (al_33 _) rfl g1
theorem b30_32 {d : Nat} {i0 : Nat} {x1 x2 x3 x4 : Int} {I L : Nat → Nat → Nat → Int} {t : Nat → Nat} : Res d 30 32 [vr 5 i0, vi x1, vi x2, vi x3, vi x4] [] (mk I L t) = some (vx, (mk I L t)) :=
  e_vret D30_32 rfl
/-! Said_countSo -/
theorem cc_31 : cod 31 = cX5_countSo := rfl
theorem D31_0 : decode (cod 31) 0 = .ok (.iconst 0, 1) := by rw [cc_31]; decide +kernel
theorem D31_1 : decode (cod 31) 1 = .ok (.istore_n 2, 1) := by rw [cc_31]; decide +kernel
theorem D31_2 : decode (cod 31) 2 = .ok (.iconst 0, 1) := by rw [cc_31]; decide +kernel
theorem D31_3 : decode (cod 31) 3 = .ok (.istore_n 3, 1) := by rw [cc_31]; decide +kernel
theorem D31_4 : decode (cod 31) 4 = .ok (.iload_n 3, 1) := by rw [cc_31]; decide +kernel
theorem D31_5 : decode (cod 31) 5 = .ok (.aload_n 0, 1) := by rw [cc_31]; decide +kernel
theorem D31_6 : decode (cod 31) 6 = .ok (.getfield 25, 3) := by rw [cc_31]; decide +kernel
theorem D31_9 : decode (cod 31) 9 = .ok (.if_icmp .ge 32, 3) := by rw [cc_31]; decide +kernel
theorem D31_12 : decode (cod 31) 12 = .ok (.iload_n 3, 1) := by rw [cc_31]; decide +kernel
theorem D31_13 : decode (cod 31) 13 = .ok (.bipush 12, 2) := by rw [cc_31]; decide +kernel
theorem D31_15 : decode (cod 31) 15 = .ok (.if_icmp .ge 26, 3) := by rw [cc_31]; decide +kernel
theorem D31_18 : decode (cod 31) 18 = .ok (.iload_n 2, 1) := by rw [cc_31]; decide +kernel
theorem D31_19 : decode (cod 31) 19 = .ok (.aload_n 0, 1) := by rw [cc_31]; decide +kernel
theorem D31_20 : decode (cod 31) 20 = .ok (.iload_n 3, 1) := by rw [cc_31]; decide +kernel
theorem D31_21 : decode (cod 31) 21 = .ok (.aload_n 1, 1) := by rw [cc_31]; decide +kernel
theorem D31_22 : decode (cod 31) 22 = .ok (.invokevirtual 29, 3) := by rw [cc_31]; decide +kernel
theorem D31_25 : decode (cod 31) 25 = .ok (.ifCond .eq 7, 3) := by rw [cc_31]; decide +kernel
theorem D31_28 : decode (cod 31) 28 = .ok (.iconst 1, 1) := by rw [cc_31]; decide +kernel
theorem D31_29 : decode (cod 31) 29 = .ok (.goto 4, 3) := by rw [cc_31]; decide +kernel
theorem D31_32 : decode (cod 31) 32 = .ok (.iconst 0, 1) := by rw [cc_31]; decide +kernel
theorem D31_33 : decode (cod 31) 33 = .ok (.iadd, 1) := by rw [cc_31]; decide +kernel
theorem D31_34 : decode (cod 31) 34 = .ok (.istore_n 2, 1) := by rw [cc_31]; decide +kernel
theorem D31_35 : decode (cod 31) 35 = .ok (.iinc 3 1, 3) := by rw [cc_31]; decide +kernel
theorem D31_38 : decode (cod 31) 38 = .ok (.goto (-34), 3) := by rw [cc_31]; decide +kernel
theorem D31_41 : decode (cod 31) 41 = .ok (.iload_n 2, 1) := by rw [cc_31]; decide +kernel
theorem D31_42 : decode (cod 31) 42 = .ok (.ireturn, 1) := by rw [cc_31]; decide +kernel
theorem b31_0 {d : Nat} {i0 i1 r1 : Nat} {I L : Nat → Nat → Nat → Int} {t : Nat → Nat} : Res d 31 0 [vr 5 i0, vr r1 i1, vx, vx] [] (mk I L t) = Res d 31 4 [vr 5 i0, vr r1 i1, vi 0, vi 0] [] (mk I L t) :=
  Eq.trans (e_iconst (x := 0) D31_0 rfl rfl) <| Eq.trans (e_istore_n (ls1 := [vr 5 i0, vr r1 i1, vi 0, vx]) D31_1 rfl (show 2 < 4 by decide) rfl) <| Eq.trans (e_iconst (x := 0) D31_2 rfl rfl) <| e_istore_n (ls1 := [vr 5 i0, vr r1 i1, vi 0, vi 0]) D31_3 rfl (show 3 < 4 by decide) rfl
theorem b31_4 {d : Nat} {i0 i1 r1 : Nat} {x2 x3 : Int} {I L : Nat → Nat → Nat → Int} {t : Nat → Nat} : Res d 31 4 [vr 5 i0, vr r1 i1, vi x2, vi x3] [] (mk I L t) = if I 5 i0 3 ≤ x3 then Res d 31 41 [vr 5 i0, vr r1 i1, vi x2, vi x3] [] (mk I L t) else Res d 31 12 [vr 5 i0, vr r1 i1, vi x2, vi x3] [] (mk I L t) :=
  Eq.trans (e_iload_n D31_4 rfl rfl) <| Eq.trans (e_aload_n D31_5 rfl rfl) <| Eq.trans (e_getI D31_6 rfl o_31 f_5_25 (sh_5 _) (by decide)) <| e_icge D31_9 rfl rfl
theorem b31_12 {d : Nat} {i0 i1 r1 : Nat} {x2 x3 : Int} {I L : Nat → Nat → Nat → Int} {t : Nat → Nat} : Res d 31 12 [vr 5 i0, vr r1 i1, vi x2, vi x3] [] (mk I L t) = if 12 ≤ x3 then Res d 31 41 [vr 5 i0, vr r1 i1, vi x2, vi x3] [] (mk I L t) else Res d 31 18 [vr 5 i0, vr r1 i1, vi x2, vi x3] [] (mk I L t) :=
  Eq.trans (e_iload_n D31_12 rfl rfl) <| Eq.trans (e_bipush (x := 12) D31_13 rfl rfl) <| e_icge D31_15 rfl rfl
theorem b31_18 {d : Nat} {i0 i1 r1 : Nat} {x2 x3 : Int} {I L : Nat → Nat → Nat → Int} {t : Nat → Nat} : Res (d + 1) 31 18 [vr 5 i0, vr r1 i1, vi x2, vi x3] [] (mk I L t) = (Cal d 32 [vr 5 i0, vi x3, vr r1 i1] (mk I L t)).bind fun v => Res (d + 1) 31 25 [vr 5 i0, vr r1 i1, vi x2, vi x3] (psh 32 v.1 [vi x2]) v.2 :=
  Eq.trans (e_iload_n D31_18 rfl rfl) <| Eq.trans (e_aload_n D31_19 rfl rfl) <| Eq.trans (e_iload_n D31_20 rfl rfl) <| Eq.trans (e_aload_n D31_21 rfl rfl) <| e_callV D31_22 rfl o_31 m_5_29 (by decide) rfl rfl
theorem b31_25 {d : Nat} {i0 i1 r1 : Nat} {x2 x3 xs1 xs0 : Int} {I L : Nat → Nat → Nat → Int} {t : Nat → Nat} : Res d 31 25 [vr 5 i0, vr r1 i1, vi x2, vi x3] [vi xs1, vi xs0] (mk I L t) = if xs1 = 0 then Res d 31 32 [vr 5 i0, vr r1 i1, vi x2, vi x3] [vi xs0] (mk I L t) else Res d 31 28 [vr 5 i0, vr r1 i1, vi x2, vi x3] [vi xs0] (mk I L t) :=
  e_ifeq D31_25 rfl rfl
theorem b31_28 {d : Nat} {i0 i1 r1 : Nat} {x2 x3 xs0 : Int} {I L : Nat → Nat → Nat → Int} {t : Nat → Nat} : Res d 31 28 [vr 5 i0, vr r1 i1, vi x2, vi x3] [vi xs0] (mk I L t) = Res d 31 33 [vr 5 i0, vr r1 i1, vi x2, vi x3] [vi 1, vi xs0] (mk I L t) :=
  Eq.trans (e_iconst (x := 1) D31_28 rfl rfl) <| e_goto (q1 := 33) D31_29 rfl
theorem b31_32 {d : Nat} {i0 i1 r1 : Nat} {x2 x3 xs0 : Int} {I L : Nat → Nat → Nat → Int} {t : Nat → Nat} : Res d 31 32 [vr 5 i0, vr r1 i1, vi x2, vi x3] [vi xs0] (mk I L t) = Res d 31 33 [vr 5 i0, vr r1 i1, vi x2, vi x3] [vi 0, vi xs0] (mk I L t) :=
  e_iconst (x := 0) D31_32 rfl rfl
theorem b31_33 {d : Nat} {i0 i1 r1 : Nat} {x2 x3 xs1 xs0 : Int} {I L : Nat → Nat → Nat → Int} {t : Nat → Nat} : Res d 31 33 [vr 5 i0, vr r1 i1, vi x2, vi x3] [vi xs1, vi xs0] (mk I L t) = Res d 31 4 [vr 5 i0, vr r1 i1, vi (w32 (xs0 + xs1)), vi (w32 (x3 + 1))] [] (mk I L t) :=
  Eq.trans (e_iadd D31_33 rfl) <| Eq.trans (e_istore_n (ls1 := [vr 5 i0, vr r1 i1, vi (w32 (xs0 + xs1)), vi x3]) D31_34 rfl (show 2 < 4 by decide) rfl) <| Eq.trans (e_iinc (ls1 := [vr 5 i0, vr r1 i1, vi (w32 (xs0 + xs1)), vi (w32 (x3 + 1))]) D31_35 rfl rfl rfl) <| e_goto (q1 := 4) D31_38 rfl
theorem b31_41 {d : Nat} {i0 i1 r1 : Nat} {x2 x3 : Int} {I L : Nat → Nat → Nat → Int} {t : Nat → Nat} : Res d 31 41 [vr 5 i0, vr r1 i1, vi x2, vi x3] [] (mk I L t) = some (vi x2, (mk I L t)) :=
  Eq.trans (e_iload_n D31_41 rfl rfl) <| e_iret D31_42 rfl
/-! Said_isSo -/
theorem cc_32 : cod 32 = cX5_isSo := rfl
theorem D32_0 : decode (cod 32) 0 = .ok (.aload_n 0, 1) := by rw [cc_32]; decide +kernel
theorem D32_1 : decode (cod 32) 1 = .ok (.getfield 11, 3) := by rw [cc_32]; decide +kernel
theorem D32_4 : decode (cod 32) 4 = .ok (.iload_n 1, 1) := by rw [cc_32]; decide +kernel
theorem D32_5 : decode (cod 32) 5 = .ok (.iaload, 1) := by rw [cc_32]; decide +kernel
theorem D32_6 : decode (cod 32) 6 = .ok (.iconst 0, 1) := by rw [cc_32]; decide +kernel
theorem D32_7 : decode (cod 32) 7 = .ok (.bipush 15, 2) := by rw [cc_32]; decide +kernel
theorem D32_9 : decode (cod 32) 9 = .ok (.invokestatic 21, 3) := by rw [cc_32]; decide +kernel
theorem D32_12 : decode (cod 32) 12 = .ok (.ifCond .ne 5, 3) := by rw [cc_32]; decide +kernel
theorem D32_15 : decode (cod 32) 15 = .ok (.iconst 0, 1) := by rw [cc_32]; decide +kernel
theorem D32_16 : decode (cod 32) 16 = .ok (.ireturn, 1) := by rw [cc_32]; decide +kernel
theorem D32_17 : decode (cod 32) 17 = .ok (.aload_n 2, 1) := by rw [cc_32]; decide +kernel
theorem D32_18 : decode (cod 32) 18 = .ok (.aload_n 0, 1) := by rw [cc_32]; decide +kernel
theorem D32_19 : decode (cod 32) 19 = .ok (.getfield 11, 3) := by rw [cc_32]; decide +kernel
theorem D32_22 : decode (cod 32) 22 = .ok (.iload_n 1, 1) := by rw [cc_32]; decide +kernel
theorem D32_23 : decode (cod 32) 23 = .ok (.iaload, 1) := by rw [cc_32]; decide +kernel
theorem D32_24 : decode (cod 32) 24 = .ok (.iaload, 1) := by rw [cc_32]; decide +kernel
theorem D32_25 : decode (cod 32) 25 = .ok (.aload_n 0, 1) := by rw [cc_32]; decide +kernel
theorem D32_26 : decode (cod 32) 26 = .ok (.getfield 18, 3) := by rw [cc_32]; decide +kernel
theorem D32_29 : decode (cod 32) 29 = .ok (.iload_n 1, 1) := by rw [cc_32]; decide +kernel
theorem D32_30 : decode (cod 32) 30 = .ok (.iaload, 1) := by rw [cc_32]; decide +kernel
theorem D32_31 : decode (cod 32) 31 = .ok (.invokestatic 33, 3) := by rw [cc_32]; decide +kernel
theorem D32_34 : decode (cod 32) 34 = .ok (.istore_n 3, 1) := by rw [cc_32]; decide +kernel
theorem D32_35 : decode (cod 32) 35 = .ok (.aload_n 0, 1) := by rw [cc_32]; decide +kernel
theorem D32_36 : decode (cod 32) 36 = .ok (.getfield 15, 3) := by rw [cc_32]; decide +kernel
theorem D32_39 : decode (cod 32) 39 = .ok (.iload_n 1, 1) := by rw [cc_32]; decide +kernel
theorem D32_40 : decode (cod 32) 40 = .ok (.iaload, 1) := by rw [cc_32]; decide +kernel
theorem D32_41 : decode (cod 32) 41 = .ok (.lookupswitch 47 #[(60, 27), (61, 37)], 27) := by rw [cc_32]; decide +kernel
theorem D32_68 : decode (cod 32) 68 = .ok (.iload_n 3, 1) := by rw [cc_32]; decide +kernel
theorem D32_69 : decode (cod 32) 69 = .ok (.ifCond .ge 7, 3) := by rw [cc_32]; decide +kernel
theorem D32_72 : decode (cod 32) 72 = .ok (.iconst 1, 1) := by rw [cc_32]; decide +kernel
theorem D32_73 : decode (cod 32) 73 = .ok (.goto 4, 3) := by rw [cc_32]; decide +kernel
theorem D32_76 : decode (cod 32) 76 = .ok (.iconst 0, 1) := by rw [cc_32]; decide +kernel
theorem D32_77 : decode (cod 32) 77 = .ok (.ireturn, 1) := by rw [cc_32]; decide +kernel
theorem D32_78 : decode (cod 32) 78 = .ok (.iload_n 3, 1) := by rw [cc_32]; decide +kernel
theorem D32_79 : decode (cod 32) 79 = .ok (.ifCond .ne 7, 3) := by rw [cc_32]; decide +kernel
theorem D32_82 : decode (cod 32) 82 = .ok (.iconst 1, 1) := by rw [cc_32]; decide +kernel
theorem D32_83 : decode (cod 32) 83 = .ok (.goto 4, 3) := by rw [cc_32]; decide +kernel
theorem D32_86 : decode (cod 32) 86 = .ok (.iconst 0, 1) := by rw [cc_32]; decide +kernel
theorem D32_87 : decode (cod 32) 87 = .ok (.ireturn, 1) := by rw [cc_32]; decide +kernel
theorem D32_88 : decode (cod 32) 88 = .ok (.iload_n 3, 1) := by rw [cc_32]; decide +kernel
theorem D32_89 : decode (cod 32) 89 = .ok (.ifCond .le 7, 3) := by rw [cc_32]; decide +kernel
theorem D32_92 : decode (cod 32) 92 = .ok (.iconst 1, 1) := by rw [cc_32]; decide +kernel
theorem D32_93 : decode (cod 32) 93 = .ok (.goto 4, 3) := by rw [cc_32]; decide +kernel
theorem D32_96 : decode (cod 32) 96 = .ok (.iconst 0, 1) := by rw [cc_32]; decide +kernel
theorem D32_97 : decode (cod 32) 97 = .ok (.ireturn, 1) := by rw [cc_32]; decide +kernel
theorem b32_0 {d : Nat} {i0 i2 r2 : Nat} {x1 : Int} {I L : Nat → Nat → Nat → Int} {t : Nat → Nat} (g1 : 0 ≤ x1 ∧ x1 < 12) : Res (d + 1) 32 0 [vr 5 i0, vi x1, vr r2 i2, vx] [] (mk I L t) = (Cal d 102 [vi (I 31 i0 x1.toNat), vi 0, vi 15] (mk I L t)).bind fun v => Res (d + 1) 32 12 [vr 5 i0, vi x1, vr r2 i2, vx] (psh 102 v.1 []) v.2 :=
  Eq.trans (e_aload_n D32_0 rfl rfl) <| Eq.trans (e_getP (p := (31, i0)) D32_1 rfl o_32 f_5_11 (sh_5 _) (by decide) (pp_5_0 _ _)) <| Eq.trans (e_iload_n D32_4 rfl rfl) <| Eq.trans (e_iald D32_5 rfl (al_31 _) g1) <| Eq.trans (e_iconst (x := 0) D32_6 rfl rfl) <| Eq.trans (e_bipush (x := 15) D32_7 rfl rfl) <| e_callS D32_9 rfl o_32 m_5_21 (by decide) rfl rfl
theorem b32_12 {d : Nat} {i0 i2 r2 : Nat} {x1 xs0 : Int} {I L : Nat → Nat → Nat → Int} {t : Nat → Nat} : Res d 32 12 [vr 5 i0, vi x1, vr r2 i2, vx] [vi xs0] (mk I L t) = if ¬ xs0 = 0 then Res d 32 17 [vr 5 i0, vi x1, vr r2 i2, vx] [] (mk I L t) else Res d 32 15 [vr 5 i0, vi x1, vr r2 i2, vx] [] (mk I L t) :=
  e_ifne D32_12 rfl rfl
theorem b32_15 {d : Nat} {i0 i2 r2 : Nat} {x1 : Int} {I L : Nat → Nat → Nat → Int} {t : Nat → Nat} : Res d 32 15 [vr 5 i0, vi x1, vr r2 i2, vx] [] (mk I L t) = some (vi 0, (mk I L t)) :=
  Eq.trans (e_iconst (x := 0) D32_15 rfl rfl) <| e_iret D32_16 rfl
theorem b32_17 {d : Nat} {i0 i2 r2 : Nat} {x1 n1 : Int} {I L : Nat → Nat → Nat → Int} {t : Nat → Nat} (g1 : 0 ≤ x1 ∧ x1 < 12) (g2 : alen 0 r2 i2 = n1) (g3 : (0 : Int) ≤ I 31 i0 x1.toNat ∧ I 31 i0 x1.toNat < n1) : Res (d + 1) 32 17 [vr 5 i0, vi x1, vr r2 i2, vx] [] (mk I L t) = (Cal d 243 [vi (ldI (mk I L t) r2 i2 (I 31 i0 x1.toNat).toNat), vi (I 33 i0 x1.toNat)] (mk I L t)).bind fun v => Res (d + 1) 32 34 [vr 5 i0, vi x1, vr r2 i2, vx] (psh 243 v.1 []) v.2 :=
  Eq.trans (e_aload_n D32_17 rfl rfl) <| Eq.trans (e_aload_n D32_18 rfl rfl) <| Eq.trans (e_getP (p := (31, i0)) D32_19 rfl o_32 f_5_11 (sh_5 _) (by decide) (pp_5_0 _ _)) <| Eq.trans (e_iload_n D32_22 rfl rfl) <| Eq.trans (e_iald D32_23 rfl (al_31 _) g1) <| Eq.trans (e_iald D32_24 rfl g2 g3) <| Eq.trans (e_aload_n D32_25 rfl rfl) <| Eq.trans (e_getP (p := (33, i0)) D32_26 rfl o_32 f_5_18 (sh_5 _) (by decide) (pp_5_2 _ _)) <| Eq.trans (e_iload_n D32_29 rfl rfl) <| Eq.trans (e_iald D32_30 rfl (al_33 _) g1) <| e_callS D32_31 rfl o_32 m_5_33 (by decide) rfl rfl
theorem b32_34 {d : Nat} {i0 i2 r2 : Nat} {x1 xs0 : Int} {I L : Nat → Nat → Nat → Int} {t : Nat → Nat} (g1 : 0 ≤ x1 ∧ x1 < 12) : Res d 32 34 [vr 5 i0, vi x1, vr r2 i2, vx] [vi xs0] (mk I L t) = Res d 32 41 [vr 5 i0, vi x1, vr r2 i2, vi xs0] [vi (I 32 i0 x1.toNat)] (mk I L t) :=
  Eq.trans (e_istore_n (ls1 := [vr 5 i0, vi x1, vr r2 i2, vi xs0]) D32_34 rfl (show 3 < 4 by decide) rfl) <| Eq.trans (e_aload_n D32_35 rfl rfl) <| Eq.trans (e_getP (p := (32, i0)) D32_36 rfl o_32 f_5_15 (sh_5 _) (by decide) (pp_5_1 _ _)) <| Eq.trans (e_iload_n D32_39 rfl rfl) <| e_iald D32_40 rfl (al_32 _) g1 -- stops at 41: lookupswitch
/-! Tape_addFour -/
theorem cc_35 : cod 35 = cX7_addFour := rfl
theorem D35_0 : decode (cod 35) 0 = .ok (.iconst 0, 1) := by rw [cc_35]; decide +kernel
theorem D35_1 : decode (cod 35) 1 = .ok (.istore_n 2, 1) := by rw [cc_35]; decide +kernel
theorem D35_2 : decode (cod 35) 2 = .ok (.iload_n 2, 1) := by rw [cc_35]; decide +kernel
theorem D35_3 : decode (cod 35) 3 = .ok (.iconst 4, 1) := by rw [cc_35]; decide +kernel
theorem D35_4 : decode (cod 35) 4 = .ok (.if_icmp .ge 51, 3) := by rw [cc_35]; decide +kernel
theorem D35_7 : decode (cod 35) 7 = .ok (.aload_n 0, 1) := by rw [cc_35]; decide +kernel
theorem D35_8 : decode (cod 35) 8 = .ok (.getfield 28, 3) := by rw [cc_35]; decide +kernel
theorem D35_11 : decode (cod 35) 11 = .ok (.sipush 400, 3) := by rw [cc_35]; decide +kernel
theorem D35_14 : decode (cod 35) 14 = .ok (.if_icmp .ge 41, 3) := by rw [cc_35]; decide +kernel
theorem D35_17 : decode (cod 35) 17 = .ok (.aload_n 0, 1) := by rw [cc_35]; decide +kernel
theorem D35_18 : decode (cod 35) 18 = .ok (.getfield 9, 3) := by rw [cc_35]; decide +kernel
theorem D35_21 : decode (cod 35) 21 = .ok (.aload_n 0, 1) := by rw [cc_35]; decide +kernel
theorem D35_22 : decode (cod 35) 22 = .ok (.getfield 28, 3) := by rw [cc_35]; decide +kernel
theorem D35_25 : decode (cod 35) 25 = .ok (.iload_n 1, 1) := by rw [cc_35]; decide +kernel
theorem D35_26 : decode (cod 35) 26 = .ok (.bipush 24, 2) := by rw [cc_35]; decide +kernel
theorem D35_28 : decode (cod 35) 28 = .ok (.bipush 8, 2) := by rw [cc_35]; decide +kernel
theorem D35_30 : decode (cod 35) 30 = .ok (.iload_n 2, 1) := by rw [cc_35]; decide +kernel
theorem D35_31 : decode (cod 35) 31 = .ok (.imul, 1) := by rw [cc_35]; decide +kernel
theorem D35_32 : decode (cod 35) 32 = .ok (.isub, 1) := by rw [cc_35]; decide +kernel
theorem D35_33 : decode (cod 35) 33 = .ok (.ishr, 1) := by rw [cc_35]; decide +kernel
theorem D35_34 : decode (cod 35) 34 = .ok (.sipush 255, 3) := by rw [cc_35]; decide +kernel
theorem D35_37 : decode (cod 35) 37 = .ok (.iand, 1) := by rw [cc_35]; decide +kernel
theorem D35_38 : decode (cod 35) 38 = .ok (.iastore, 1) := by rw [cc_35]; decide +kernel
theorem D35_39 : decode (cod 35) 39 = .ok (.aload_n 0, 1) := by rw [cc_35]; decide +kernel
theorem D35_40 : decode (cod 35) 40 = .ok (.dup, 1) := by rw [cc_35]; decide +kernel
theorem D35_41 : decode (cod 35) 41 = .ok (.getfield 28, 3) := by rw [cc_35]; decide +kernel
theorem D35_44 : decode (cod 35) 44 = .ok (.iconst 1, 1) := by rw [cc_35]; decide +kernel
theorem D35_45 : decode (cod 35) 45 = .ok (.iadd, 1) := by rw [cc_35]; decide +kernel
theorem D35_46 : decode (cod 35) 46 = .ok (.putfield 28, 3) := by rw [cc_35]; decide +kernel
theorem D35_49 : decode (cod 35) 49 = .ok (.iinc 2 1, 3) := by rw [cc_35]; decide +kernel
theorem D35_52 : decode (cod 35) 52 = .ok (.goto (-50), 3) := by rw [cc_35]; decide +kernel
theorem D35_55 : decode (cod 35) 55 = .ok (.return_, 1) := by rw [cc_35]; decide +kernel
theorem b35_0 {d : Nat} {i0 : Nat} {x1 : Int} {I L : Nat → Nat → Nat → Int} {t : Nat → Nat} : Res d 35 0 [vr 7 i0, vi x1, vx] [] (mk I L t) = Res d 35 2 [vr 7 i0, vi x1, vi 0] [] (mk I L t) :=
  Eq.trans (e_iconst (x := 0) D35_0 rfl rfl) <| e_istore_n (ls1 := [vr 7 i0, vi x1, vi 0]) D35_1 rfl (show 2 < 3 by decide) rfl
theorem b35_2 {d : Nat} {i0 : Nat} {x1 x2 : Int} {I L : Nat → Nat → Nat → Int} {t : Nat → Nat} : Res d 35 2 [vr 7 i0, vi x1, vi x2] [] (mk I L t) = if 4 ≤ x2 then Res d 35 55 [vr 7 i0, vi x1, vi x2] [] (mk I L t) else Res d 35 7 [vr 7 i0, vi x1, vi x2] [] (mk I L t) :=
  Eq.trans (e_iload_n D35_2 rfl rfl) <| Eq.trans (e_iconst (x := 4) D35_3 rfl rfl) <| e_icge D35_4 rfl rfl
theorem b35_7 {d : Nat} {i0 : Nat} {x1 x2 : Int} {I L : Nat → Nat → Nat → Int} {t : Nat → Nat} : Res d 35 7 [vr 7 i0, vi x1, vi x2] [] (mk I L t) = if 400 ≤ I 7 i0 4 then Res d 35 55 [vr 7 i0, vi x1, vi x2] [] (mk I L t) else Res d 35 17 [vr 7 i0, vi x1, vi x2] [] (mk I L t) :=
  Eq.trans (e_aload_n D35_7 rfl rfl) <| Eq.trans (e_getI D35_8 rfl o_35 f_7_28 (sh_7 _) (by decide)) <| Eq.trans (e_sipush (x := 400) D35_11 rfl rfl) <| e_icge D35_14 rfl rfl
theorem b35_17 {d : Nat} {i0 : Nat} {x1 x2 : Int} {I L : Nat → Nat → Nat → Int} {t : Nat → Nat} (g1 : 0 ≤ I 7 i0 4 ∧ I 7 i0 4 < 400) : Res d 35 17 [vr 7 i0, vi x1, vi x2] [] (mk I L t) = Res d 35 2 [vr 7 i0, vi x1, vi (w32 (x2 + 1))] [] (mk (up3 (up3 I 34 i0 (I 7 i0 4).toNat (vIand (vIshr x1 (w32 (24 - (w32 (8 * x2))))) 255)) 7 i0 4 (w32 (((up3 I 34 i0 (I 7 i0 4).toNat (vIand (vIshr x1 (w32 (24 - (w32 (8 * x2))))) 255)) 7 i0 4) + 1))) L t) :=
  Eq.trans (e_aload_n D35_17 rfl rfl) <| Eq.trans (e_getP (p := (34, i0)) D35_18 rfl o_35 f_7_9 (sh_7 _) (by decide) (pp_7_0 _ _)) <| Eq.trans (e_aload_n D35_21 rfl rfl) <| Eq.trans (e_getI D35_22 rfl o_35 f_7_28 (sh_7 _) (by decide)) <| Eq.trans (e_iload_n D35_25 rfl rfl) <| Eq.trans (e_bipush (x := 24) D35_26 rfl rfl) <| Eq.trans (e_bipush (x := 8) D35_28 rfl rfl) <| Eq.trans (e_iload_n D35_30 rfl rfl) <| Eq.trans (e_imul D35_31 rfl) <| Eq.trans (e_isub D35_32 rfl) <| Eq.trans (e_ishr D35_33 rfl) <| Eq.trans (e_sipush (x := 255) D35_34 rfl rfl) <| Eq.trans (e_iand D35_37 rfl) <| Eq.trans (e_iast D35_38 rfl (al_34 _) rfl g1) <| Eq.trans (e_aload_n D35_39 rfl rfl) <| Eq.trans (e_dup D35_40 rfl) <| Eq.trans (e_getI D35_41 rfl o_35 f_7_28 (sh_7 _) (by decide)) <| Eq.trans (e_iconst (x := 1) D35_44 rfl rfl) <| Eq.trans (e_iadd D35_45 rfl) <| Eq.trans (e_putI D35_46 rfl o_35 f_7_28 (sh_7 _) rfl (by decide) (Or.inl (by decide))) <| Eq.trans (e_iinc (ls1 := [vr 7 i0, vi x1, vi (w32 (x2 + 1))]) D35_49 rfl rfl rfl) <| e_goto (q1 := 2) D35_52 rfl
theorem b35_55 {d : Nat} {i0 : Nat} {x1 x2 : Int} {I L : Nat → Nat → Nat → Int} {t : Nat → Nat} : Res d 35 55 [vr 7 i0, vi x1, vi x2] [] (mk I L t) = some (vx, (mk I L t)) :=
  e_vret D35_55 rfl
/-! Tape_forgetFault -/
theorem cc_36 : cod 36 = cX7_forgetFault := rfl
theorem D36_0 : decode (cod 36) 0 = .ok (.aload_n 0, 1) := by rw [cc_36]; decide +kernel
theorem D36_1 : decode (cod 36) 1 = .ok (.iconst 0, 1) := by rw [cc_36]; decide +kernel
theorem D36_2 : decode (cod 36) 2 = .ok (.putfield 31, 3) := by rw [cc_36]; decide +kernel
theorem D36_5 : decode (cod 36) 5 = .ok (.aload_n 0, 1) := by rw [cc_36]; decide +kernel
theorem D36_6 : decode (cod 36) 6 = .ok (.iconst (-1), 1) := by rw [cc_36]; decide +kernel
theorem D36_7 : decode (cod 36) 7 = .ok (.putfield 24, 3) := by rw [cc_36]; decide +kernel
theorem D36_10 : decode (cod 36) 10 = .ok (.return_, 1) := by rw [cc_36]; decide +kernel
theorem b36_0 {d : Nat} {i0 : Nat} {I L : Nat → Nat → Nat → Int} {t : Nat → Nat} : Res d 36 0 [vr 7 i0] [] (mk I L t) = some (vx, (mk (up3 (up3 I 7 i0 11 0) 7 i0 12 (-1)) L t)) :=
  Eq.trans (e_aload_n D36_0 rfl rfl) <| Eq.trans (e_iconst (x := 0) D36_1 rfl rfl) <| Eq.trans (e_putI D36_2 rfl o_36 f_7_31 (sh_7 _) rfl (by decide) (Or.inl (by decide))) <| Eq.trans (e_aload_n D36_5 rfl rfl) <| Eq.trans (e_iconst (x := -1) D36_6 rfl rfl) <| Eq.trans (e_putI D36_7 rfl o_36 f_7_24 (sh_7 _) rfl (by decide) (Or.inl (by decide))) <| e_vret D36_10 rfl
/-! Tape_refuse -/
theorem cc_37 : cod 37 = cX7_refuse := rfl
theorem D37_0 : decode (cod 37) 0 = .ok (.aload_n 0, 1) := by rw [cc_37]; decide +kernel
theorem D37_1 : decode (cod 37) 1 = .ok (.iload_n 1, 1) := by rw [cc_37]; decide +kernel
theorem D37_2 : decode (cod 37) 2 = .ok (.putfield 31, 3) := by rw [cc_37]; decide +kernel
theorem D37_5 : decode (cod 37) 5 = .ok (.aload_n 0, 1) := by rw [cc_37]; decide +kernel
theorem D37_6 : decode (cod 37) 6 = .ok (.aload_n 0, 1) := by rw [cc_37]; decide +kernel
theorem D37_7 : decode (cod 37) 7 = .ok (.getfield 34, 3) := by rw [cc_37]; decide +kernel
theorem D37_10 : decode (cod 37) 10 = .ok (.putfield 24, 3) := by rw [cc_37]; decide +kernel
theorem D37_13 : decode (cod 37) 13 = .ok (.iconst 0, 1) := by rw [cc_37]; decide +kernel
theorem D37_14 : decode (cod 37) 14 = .ok (.ireturn, 1) := by rw [cc_37]; decide +kernel
theorem b37_0 {d : Nat} {i0 : Nat} {x1 : Int} {I L : Nat → Nat → Nat → Int} {t : Nat → Nat} : Res d 37 0 [vr 7 i0, vi x1] [] (mk I L t) = some (vi 0, (mk (up3 (up3 I 7 i0 11 x1) 7 i0 12 ((up3 I 7 i0 11 x1) 7 i0 9)) L t)) :=
  Eq.trans (e_aload_n D37_0 rfl rfl) <| Eq.trans (e_iload_n D37_1 rfl rfl) <| Eq.trans (e_putI D37_2 rfl o_37 f_7_31 (sh_7 _) rfl (by decide) (Or.inl (by decide))) <| Eq.trans (e_aload_n D37_5 rfl rfl) <| Eq.trans (e_aload_n D37_6 rfl rfl) <| Eq.trans (e_getI D37_7 rfl o_37 f_7_34 (sh_7 _) (by decide)) <| Eq.trans (e_putI D37_10 rfl o_37 f_7_24 (sh_7 _) rfl (by decide) (Or.inl (by decide))) <| Eq.trans (e_iconst (x := 0) D37_13 rfl rfl) <| e_iret D37_14 rfl
/-! Tape_step -/
theorem cc_38 : cod 38 = cX7_step := rfl
theorem D38_0 : decode (cod 38) 0 = .ok (.aload_n 0, 1) := by rw [cc_38]; decide +kernel
theorem D38_1 : decode (cod 38) 1 = .ok (.getfield 37, 3) := by rw [cc_38]; decide +kernel
theorem D38_4 : decode (cod 38) 4 = .ok (.aload_n 0, 1) := by rw [cc_38]; decide +kernel
theorem D38_5 : decode (cod 38) 5 = .ok (.getfield 40, 3) := by rw [cc_38]; decide +kernel
theorem D38_8 : decode (cod 38) 8 = .ok (.if_icmp .ge 52, 3) := by rw [cc_38]; decide +kernel
theorem D38_11 : decode (cod 38) 11 = .ok (.aload_n 0, 1) := by rw [cc_38]; decide +kernel
theorem D38_12 : decode (cod 38) 12 = .ok (.aload_n 0, 1) := by rw [cc_38]; decide +kernel
theorem D38_13 : decode (cod 38) 13 = .ok (.getfield 15, 3) := by rw [cc_38]; decide +kernel
theorem D38_16 : decode (cod 38) 16 = .ok (.aload_n 0, 1) := by rw [cc_38]; decide +kernel
theorem D38_17 : decode (cod 38) 17 = .ok (.getfield 37, 3) := by rw [cc_38]; decide +kernel
theorem D38_20 : decode (cod 38) 20 = .ok (.iaload, 1) := by rw [cc_38]; decide +kernel
theorem D38_21 : decode (cod 38) 21 = .ok (.putfield 43, 3) := by rw [cc_38]; decide +kernel
theorem D38_24 : decode (cod 38) 24 = .ok (.aload_n 0, 1) := by rw [cc_38]; decide +kernel
theorem D38_25 : decode (cod 38) 25 = .ok (.aload_n 0, 1) := by rw [cc_38]; decide +kernel
theorem D38_26 : decode (cod 38) 26 = .ok (.getfield 18, 3) := by rw [cc_38]; decide +kernel
theorem D38_29 : decode (cod 38) 29 = .ok (.aload_n 0, 1) := by rw [cc_38]; decide +kernel
theorem D38_30 : decode (cod 38) 30 = .ok (.getfield 37, 3) := by rw [cc_38]; decide +kernel
theorem D38_33 : decode (cod 38) 33 = .ok (.iaload, 1) := by rw [cc_38]; decide +kernel
theorem D38_34 : decode (cod 38) 34 = .ok (.putfield 34, 3) := by rw [cc_38]; decide +kernel
theorem D38_37 : decode (cod 38) 37 = .ok (.aload_n 0, 1) := by rw [cc_38]; decide +kernel
theorem D38_38 : decode (cod 38) 38 = .ok (.aload_n 0, 1) := by rw [cc_38]; decide +kernel
theorem D38_39 : decode (cod 38) 39 = .ok (.getfield 21, 3) := by rw [cc_38]; decide +kernel
theorem D38_42 : decode (cod 38) 42 = .ok (.aload_n 0, 1) := by rw [cc_38]; decide +kernel
theorem D38_43 : decode (cod 38) 43 = .ok (.getfield 37, 3) := by rw [cc_38]; decide +kernel
theorem D38_46 : decode (cod 38) 46 = .ok (.iaload, 1) := by rw [cc_38]; decide +kernel
theorem D38_47 : decode (cod 38) 47 = .ok (.putfield 46, 3) := by rw [cc_38]; decide +kernel
theorem D38_50 : decode (cod 38) 50 = .ok (.aload_n 0, 1) := by rw [cc_38]; decide +kernel
theorem D38_51 : decode (cod 38) 51 = .ok (.dup, 1) := by rw [cc_38]; decide +kernel
theorem D38_52 : decode (cod 38) 52 = .ok (.getfield 37, 3) := by rw [cc_38]; decide +kernel
theorem D38_55 : decode (cod 38) 55 = .ok (.iconst 1, 1) := by rw [cc_38]; decide +kernel
theorem D38_56 : decode (cod 38) 56 = .ok (.iadd, 1) := by rw [cc_38]; decide +kernel
theorem D38_57 : decode (cod 38) 57 = .ok (.putfield 37, 3) := by rw [cc_38]; decide +kernel
theorem D38_60 : decode (cod 38) 60 = .ok (.return_, 1) := by rw [cc_38]; decide +kernel
theorem b38_0 {d : Nat} {i0 : Nat} {I L : Nat → Nat → Nat → Int} {t : Nat → Nat} : Res d 38 0 [vr 7 i0] [] (mk I L t) = if I 7 i0 6 ≤ I 7 i0 7 then Res d 38 60 [vr 7 i0] [] (mk I L t) else Res d 38 11 [vr 7 i0] [] (mk I L t) :=
  Eq.trans (e_aload_n D38_0 rfl rfl) <| Eq.trans (e_getI D38_1 rfl o_38 f_7_37 (sh_7 _) (by decide)) <| Eq.trans (e_aload_n D38_4 rfl rfl) <| Eq.trans (e_getI D38_5 rfl o_38 f_7_40 (sh_7 _) (by decide)) <| e_icge D38_8 rfl rfl
theorem b38_11 {d : Nat} {i0 : Nat} {I L : Nat → Nat → Nat → Int} {t : Nat → Nat} (g1 : 0 ≤ I 7 i0 7 ∧ I 7 i0 7 < 401) (g2 : 0 ≤ (up3 I 7 i0 8 (I 35 i0 (I 7 i0 7).toNat)) 7 i0 7 ∧ (up3 I 7 i0 8 (I 35 i0 (I 7 i0 7).toNat)) 7 i0 7 < 401) (g3 : 0 ≤ (up3 (up3 I 7 i0 8 (I 35 i0 (I 7 i0 7).toNat)) 7 i0 9 ((up3 I 7 i0 8 (I 35 i0 (I 7 i0 7).toNat)) 36 i0 ((up3 I 7 i0 8 (I 35 i0 (I 7 i0 7).toNat)) 7 i0 7).toNat)) 7 i0 7 ∧ (up3 (up3 I 7 i0 8 (I 35 i0 (I 7 i0 7).toNat)) 7 i0 9 ((up3 I 7 i0 8 (I 35 i0 (I 7 i0 7).toNat)) 36 i0 ((up3 I 7 i0 8 (I 35 i0 (I 7 i0 7).toNat)) 7 i0 7).toNat)) 7 i0 7 < 401) : Res d 38 11 [vr 7 i0] [] (mk I L t) = Res d 38 60 [vr 7 i0] [] (mk (up3 (up3 (up3 (up3 I 7 i0 8 (I 35 i0 (I 7 i0 7).toNat)) 7 i0 9 ((up3 I 7 i0 8 (I 35 i0 (I 7 i0 7).toNat)) 36 i0 ((up3 I 7 i0 8 (I 35 i0 (I 7 i0 7).toNat)) 7 i0 7).toNat)) 7 i0 10 ((up3 (up3 I 7 i0 8 (I 35 i0 (I 7 i0 7).toNat)) 7 i0 9 ((up3 I 7 i0 8 (I 35 i0 (I 7 i0 7).toNat)) 36 i0 ((up3 I 7 i0 8 (I 35 i0 (I 7 i0 7).toNat)) 7 i0 7).toNat)) 37 i0 ((up3 (up3 I 7 i0 8 (I 35 i0 (I 7 i0 7).toNat)) 7 i0 9 ((up3 I 7 i0 8 (I 35 i0 (I 7 i0 7).toNat)) 36 i0 ((up3 I 7 i0 8 (I 35 i0 (I 7 i0 7).toNat)) 7 i0 7).toNat)) 7 i0 7).toNat)) 7 i0 7 (w32 (((up3 (up3 (up3 I 7 i0 8 (I 35 i0 (I 7 i0 7).toNat)) 7 i0 9 ((up3 I 7 i0 8 (I 35 i0 (I 7 i0 7).toNat)) 36 i0 ((up3 I 7 i0 8 (I 35 i0 (I 7 i0 7).toNat)) 7 i0 7).toNat)) 7 i0 10 ((up3 (up3 I 7 i0 8 (I 35 i0 (I 7 i0 7).toNat)) 7 i0 9 ((up3 I 7 i0 8 (I 35 i0 (I 7 i0 7).toNat)) 36 i0 ((up3 I 7 i0 8 (I 35 i0 (I 7 i0 7).toNat)) 7 i0 7).toNat)) 37 i0 ((up3 (up3 I 7 i0 8 (I 35 i0 (I 7 i0 7).toNat)) 7 i0 9 ((up3 I 7 i0 8 (I 35 i0 (I 7 i0 7).toNat)) 36 i0 ((up3 I 7 i0 8 (I 35 i0 (I 7 i0 7).toNat)) 7 i0 7).toNat)) 7 i0 7).toNat)) 7 i0 7) + 1))) L t) :=
  Eq.trans (e_aload_n D38_11 rfl rfl) <| Eq.trans (e_aload_n D38_12 rfl rfl) <| Eq.trans (e_getP (p := (35, i0)) D38_13 rfl o_38 f_7_15 (sh_7 _) (by decide) (pp_7_1 _ _)) <| Eq.trans (e_aload_n D38_16 rfl rfl) <| Eq.trans (e_getI D38_17 rfl o_38 f_7_37 (sh_7 _) (by decide)) <| Eq.trans (e_iald D38_20 rfl (al_35 _) g1) <| Eq.trans (e_putI D38_21 rfl o_38 f_7_43 (sh_7 _) rfl (by decide) (Or.inl (by decide))) <| Eq.trans (e_aload_n D38_24 rfl rfl) <| Eq.trans (e_aload_n D38_25 rfl rfl) <| Eq.trans (e_getP (p := (36, i0)) D38_26 rfl o_38 f_7_18 (sh_7 _) (by decide) (pp_7_2 _ _)) <| Eq.trans (e_aload_n D38_29 rfl rfl) <| Eq.trans (e_getI D38_30 rfl o_38 f_7_37 (sh_7 _) (by decide)) <| Eq.trans (e_iald D38_33 rfl (al_36 _) g2) <| Eq.trans (e_putI D38_34 rfl o_38 f_7_34 (sh_7 _) rfl (by decide) (Or.inl (by decide))) <| Eq.trans (e_aload_n D38_37 rfl rfl) <| Eq.trans (e_aload_n D38_38 rfl rfl) <| Eq.trans (e_getP (p := (37, i0)) D38_39 rfl o_38 f_7_21 (sh_7 _) (by decide) (pp_7_3 _ _)) <| Eq.trans (e_aload_n D38_42 rfl rfl) <| Eq.trans (e_getI D38_43 rfl o_38 f_7_37 (sh_7 _) (by decide)) <| Eq.trans (e_iald D38_46 rfl (al_37 _) g3) <| Eq.trans (e_putI D38_47 rfl o_38 f_7_46 (sh_7 _) rfl (by decide) (Or.inl (by decide))) <| Eq.trans (e_aload_n D38_50 rfl rfl) <| Eq.trans (e_dup D38_51 rfl) <| Eq.trans (e_getI D38_52 rfl o_38 f_7_37 (sh_7 _) (by decide)) <| Eq.trans (e_iconst (x := 1) D38_55 rfl rfl) <| Eq.trans (e_iadd D38_56 rfl) <| e_putI D38_57 rfl o_38 f_7_37 (sh_7 _) rfl (by decide) (Or.inl (by decide))
theorem b38_60 {d : Nat} {i0 : Nat} {I L : Nat → Nat → Nat → Int} {t : Nat → Nat} : Res d 38 60 [vr 7 i0] [] (mk I L t) = some (vx, (mk I L t)) :=
  e_vret D38_60 rfl
/-! Tape_split -/
theorem cc_39 : cod 39 = cX7_split := rfl
theorem D39_0 : decode (cod 39) 0 = .ok (.aload_n 0, 1) := by rw [cc_39]; decide +kernel
theorem D39_1 : decode (cod 39) 1 = .ok (.iconst 0, 1) := by rw [cc_39]; decide +kernel
theorem D39_2 : decode (cod 39) 2 = .ok (.putfield 49, 3) := by rw [cc_39]; decide +kernel
theorem D39_5 : decode (cod 39) 5 = .ok (.aload_n 0, 1) := by rw [cc_39]; decide +kernel
theorem D39_6 : decode (cod 39) 6 = .ok (.iconst 0, 1) := by rw [cc_39]; decide +kernel
theorem D39_7 : decode (cod 39) 7 = .ok (.putfield 40, 3) := by rw [cc_39]; decide +kernel
theorem D39_10 : decode (cod 39) 10 = .ok (.iconst 0, 1) := by rw [cc_39]; decide +kernel
theorem D39_11 : decode (cod 39) 11 = .ok (.istore_n 1, 1) := by rw [cc_39]; decide +kernel
theorem D39_12 : decode (cod 39) 12 = .ok (.iload_n 1, 1) := by rw [cc_39]; decide +kernel
theorem D39_13 : decode (cod 39) 13 = .ok (.sipush 400, 3) := by rw [cc_39]; decide +kernel
theorem D39_16 : decode (cod 39) 16 = .ok (.if_icmp .ge 131, 3) := by rw [cc_39]; decide +kernel
theorem D39_19 : decode (cod 39) 19 = .ok (.aload_n 0, 1) := by rw [cc_39]; decide +kernel
theorem D39_20 : decode (cod 39) 20 = .ok (.getfield 49, 3) := by rw [cc_39]; decide +kernel
theorem D39_23 : decode (cod 39) 23 = .ok (.aload_n 0, 1) := by rw [cc_39]; decide +kernel
theorem D39_24 : decode (cod 39) 24 = .ok (.getfield 28, 3) := by rw [cc_39]; decide +kernel
theorem D39_27 : decode (cod 39) 27 = .ok (.if_icmp .ge 120, 3) := by rw [cc_39]; decide +kernel
theorem D39_30 : decode (cod 39) 30 = .ok (.aload_n 0, 1) := by rw [cc_39]; decide +kernel
theorem D39_31 : decode (cod 39) 31 = .ok (.getfield 49, 3) := by rw [cc_39]; decide +kernel
theorem D39_34 : decode (cod 39) 34 = .ok (.istore_n 2, 1) := by rw [cc_39]; decide +kernel
theorem D39_35 : decode (cod 39) 35 = .ok (.aload_n 0, 1) := by rw [cc_39]; decide +kernel
theorem D39_36 : decode (cod 39) 36 = .ok (.getfield 9, 3) := by rw [cc_39]; decide +kernel
theorem D39_39 : decode (cod 39) 39 = .ok (.iload_n 2, 1) := by rw [cc_39]; decide +kernel
theorem D39_40 : decode (cod 39) 40 = .ok (.iaload, 1) := by rw [cc_39]; decide +kernel
theorem D39_41 : decode (cod 39) 41 = .ok (.istore_n 3, 1) := by rw [cc_39]; decide +kernel
theorem D39_42 : decode (cod 39) 42 = .ok (.iload_n 3, 1) := by rw [cc_39]; decide +kernel
theorem D39_43 : decode (cod 39) 43 = .ok (.bipush 32, 2) := by rw [cc_39]; decide +kernel
theorem D39_45 : decode (cod 39) 45 = .ok (.if_icmp .eq 9, 3) := by rw [cc_39]; decide +kernel
theorem D39_48 : decode (cod 39) 48 = .ok (.iload_n 3, 1) := by rw [cc_39]; decide +kernel
theorem D39_49 : decode (cod 39) 49 = .ok (.bipush 10, 2) := by rw [cc_39]; decide +kernel
theorem D39_51 : decode (cod 39) 51 = .ok (.if_icmp .ne 16, 3) := by rw [cc_39]; decide +kernel
theorem D39_54 : decode (cod 39) 54 = .ok (.aload_n 0, 1) := by rw [cc_39]; decide +kernel
theorem D39_55 : decode (cod 39) 55 = .ok (.dup, 1) := by rw [cc_39]; decide +kernel
theorem D39_56 : decode (cod 39) 56 = .ok (.getfield 49, 3) := by rw [cc_39]; decide +kernel
theorem D39_59 : decode (cod 39) 59 = .ok (.iconst 1, 1) := by rw [cc_39]; decide +kernel
theorem D39_60 : decode (cod 39) 60 = .ok (.iadd, 1) := by rw [cc_39]; decide +kernel
theorem D39_61 : decode (cod 39) 61 = .ok (.putfield 49, 3) := by rw [cc_39]; decide +kernel
theorem D39_64 : decode (cod 39) 64 = .ok (.goto 77, 3) := by rw [cc_39]; decide +kernel
theorem D39_67 : decode (cod 39) 67 = .ok (.iload_n 3, 1) := by rw [cc_39]; decide +kernel
theorem D39_68 : decode (cod 39) 68 = .ok (.invokestatic 52, 3) := by rw [cc_39]; decide +kernel
theorem D39_71 : decode (cod 39) 71 = .ok (.ifCond .eq 17, 3) := by rw [cc_39]; decide +kernel
theorem D39_74 : decode (cod 39) 74 = .ok (.aload_n 0, 1) := by rw [cc_39]; decide +kernel
theorem D39_75 : decode (cod 39) 75 = .ok (.aload_n 0, 1) := by rw [cc_39]; decide +kernel
theorem D39_76 : decode (cod 39) 76 = .ok (.iload_n 2, 1) := by rw [cc_39]; decide +kernel
theorem D39_77 : decode (cod 39) 77 = .ok (.invokevirtual 56, 3) := by rw [cc_39]; decide +kernel
theorem D39_80 : decode (cod 39) 80 = .ok (.iload_n 2, 1) := by rw [cc_39]; decide +kernel
theorem D39_81 : decode (cod 39) 81 = .ok (.iconst 0, 1) := by rw [cc_39]; decide +kernel
theorem D39_82 : decode (cod 39) 82 = .ok (.invokevirtual 60, 3) := by rw [cc_39]; decide +kernel
theorem D39_85 : decode (cod 39) 85 = .ok (.goto 56, 3) := by rw [cc_39]; decide +kernel
theorem D39_88 : decode (cod 39) 88 = .ok (.iload_n 3, 1) := by rw [cc_39]; decide +kernel
theorem D39_89 : decode (cod 39) 89 = .ok (.invokestatic 64, 3) := by rw [cc_39]; decide +kernel
theorem D39_92 : decode (cod 39) 92 = .ok (.ifCond .eq 20, 3) := by rw [cc_39]; decide +kernel
theorem D39_95 : decode (cod 39) 95 = .ok (.aload_n 0, 1) := by rw [cc_39]; decide +kernel
theorem D39_96 : decode (cod 39) 96 = .ok (.aload_n 0, 1) := by rw [cc_39]; decide +kernel
theorem D39_97 : decode (cod 39) 97 = .ok (.iload_n 2, 1) := by rw [cc_39]; decide +kernel
theorem D39_98 : decode (cod 39) 98 = .ok (.invokevirtual 67, 3) := by rw [cc_39]; decide +kernel
theorem D39_101 : decode (cod 39) 101 = .ok (.iload_n 2, 1) := by rw [cc_39]; decide +kernel
theorem D39_102 : decode (cod 39) 102 = .ok (.aload_n 0, 1) := by rw [cc_39]; decide +kernel
theorem D39_103 : decode (cod 39) 103 = .ok (.getfield 46, 3) := by rw [cc_39]; decide +kernel
theorem D39_106 : decode (cod 39) 106 = .ok (.invokevirtual 60, 3) := by rw [cc_39]; decide +kernel
theorem D39_109 : decode (cod 39) 109 = .ok (.goto 32, 3) := by rw [cc_39]; decide +kernel
theorem D39_112 : decode (cod 39) 112 = .ok (.aload_n 0, 1) := by rw [cc_39]; decide +kernel
theorem D39_113 : decode (cod 39) 113 = .ok (.dup, 1) := by rw [cc_39]; decide +kernel
theorem D39_114 : decode (cod 39) 114 = .ok (.getfield 49, 3) := by rw [cc_39]; decide +kernel
theorem D39_117 : decode (cod 39) 117 = .ok (.iconst 1, 1) := by rw [cc_39]; decide +kernel
theorem D39_118 : decode (cod 39) 118 = .ok (.iadd, 1) := by rw [cc_39]; decide +kernel
theorem D39_119 : decode (cod 39) 119 = .ok (.putfield 49, 3) := by rw [cc_39]; decide +kernel
theorem D39_122 : decode (cod 39) 122 = .ok (.aload_n 0, 1) := by rw [cc_39]; decide +kernel
theorem D39_123 : decode (cod 39) 123 = .ok (.iload_n 3, 1) := by rw [cc_39]; decide +kernel
theorem D39_124 : decode (cod 39) 124 = .ok (.invokestatic 70, 3) := by rw [cc_39]; decide +kernel
theorem D39_127 : decode (cod 39) 127 = .ok (.ifCond .eq 7, 3) := by rw [cc_39]; decide +kernel
theorem D39_130 : decode (cod 39) 130 = .ok (.iload_n 3, 1) := by rw [cc_39]; decide +kernel
theorem D39_131 : decode (cod 39) 131 = .ok (.goto 5, 3) := by rw [cc_39]; decide +kernel
theorem D39_134 : decode (cod 39) 134 = .ok (.bipush 25, 2) := by rw [cc_39]; decide +kernel
theorem D39_136 : decode (cod 39) 136 = .ok (.iload_n 2, 1) := by rw [cc_39]; decide +kernel
theorem D39_137 : decode (cod 39) 137 = .ok (.iconst 0, 1) := by rw [cc_39]; decide +kernel
theorem D39_138 : decode (cod 39) 138 = .ok (.invokevirtual 60, 3) := by rw [cc_39]; decide +kernel
theorem D39_141 : decode (cod 39) 141 = .ok (.iinc 1 1, 3) := by rw [cc_39]; decide +kernel
theorem D39_144 : decode (cod 39) 144 = .ok (.goto (-132), 3) := by rw [cc_39]; decide +kernel
theorem D39_147 : decode (cod 39) 147 = .ok (.aload_n 0, 1) := by rw [cc_39]; decide +kernel
theorem D39_148 : decode (cod 39) 148 = .ok (.bipush 24, 2) := by rw [cc_39]; decide +kernel
theorem D39_150 : decode (cod 39) 150 = .ok (.aload_n 0, 1) := by rw [cc_39]; decide +kernel
theorem D39_151 : decode (cod 39) 151 = .ok (.getfield 28, 3) := by rw [cc_39]; decide +kernel
theorem D39_154 : decode (cod 39) 154 = .ok (.iconst 0, 1) := by rw [cc_39]; decide +kernel
theorem D39_155 : decode (cod 39) 155 = .ok (.invokevirtual 60, 3) := by rw [cc_39]; decide +kernel
theorem D39_158 : decode (cod 39) 158 = .ok (.aload_n 0, 1) := by rw [cc_39]; decide +kernel
theorem D39_159 : decode (cod 39) 159 = .ok (.iconst 0, 1) := by rw [cc_39]; decide +kernel
theorem D39_160 : decode (cod 39) 160 = .ok (.putfield 37, 3) := by rw [cc_39]; decide +kernel
theorem D39_163 : decode (cod 39) 163 = .ok (.aload_n 0, 1) := by rw [cc_39]; decide +kernel
theorem D39_164 : decode (cod 39) 164 = .ok (.invokevirtual 73, 3) := by rw [cc_39]; decide +kernel
theorem D39_167 : decode (cod 39) 167 = .ok (.return_, 1) := by rw [cc_39]; decide +kernel
theorem b39_0 {d : Nat} {i0 : Nat} {I L : Nat → Nat → Nat → Int} {t : Nat → Nat} : Res d 39 0 [vr 7 i0, vx, vx, vx] [] (mk I L t) = Res d 39 12 [vr 7 i0, vi 0, vx, vx] [] (mk (up3 (up3 I 7 i0 5 0) 7 i0 6 0) L t) :=
  Eq.trans (e_aload_n D39_0 rfl rfl) <| Eq.trans (e_iconst (x := 0) D39_1 rfl rfl) <| Eq.trans (e_putI D39_2 rfl o_39 f_7_49 (sh_7 _) rfl (by decide) (Or.inl (by decide))) <| Eq.trans (e_aload_n D39_5 rfl rfl) <| Eq.trans (e_iconst (x := 0) D39_6 rfl rfl) <| Eq.trans (e_putI D39_7 rfl o_39 f_7_40 (sh_7 _) rfl (by decide) (Or.inl (by decide))) <| Eq.trans (e_iconst (x := 0) D39_10 rfl rfl) <| e_istore_n (ls1 := [vr 7 i0, vi 0, vx, vx]) D39_11 rfl (show 1 < 4 by decide) rfl
theorem b39_12 {d : Nat} {i0 : Nat} {x1 : Int} {u2 u3 : MV} {I L : Nat → Nat → Nat → Int} {t : Nat → Nat} : Res d 39 12 [vr 7 i0, vi x1, u2, u3] [] (mk I L t) = if 400 ≤ x1 then Res d 39 147 [vr 7 i0, vi x1, u2, u3] [] (mk I L t) else Res d 39 19 [vr 7 i0, vi x1, u2, u3] [] (mk I L t) :=
  Eq.trans (e_iload_n D39_12 rfl rfl) <| Eq.trans (e_sipush (x := 400) D39_13 rfl rfl) <| e_icge D39_16 rfl rfl
theorem b39_19 {d : Nat} {i0 : Nat} {x1 : Int} {u2 u3 : MV} {I L : Nat → Nat → Nat → Int} {t : Nat → Nat} : Res d 39 19 [vr 7 i0, vi x1, u2, u3] [] (mk I L t) = if I 7 i0 4 ≤ I 7 i0 5 then Res d 39 147 [vr 7 i0, vi x1, u2, u3] [] (mk I L t) else Res d 39 30 [vr 7 i0, vi x1, u2, u3] [] (mk I L t) :=
  Eq.trans (e_aload_n D39_19 rfl rfl) <| Eq.trans (e_getI D39_20 rfl o_39 f_7_49 (sh_7 _) (by decide)) <| Eq.trans (e_aload_n D39_23 rfl rfl) <| Eq.trans (e_getI D39_24 rfl o_39 f_7_28 (sh_7 _) (by decide)) <| e_icge D39_27 rfl rfl
theorem b39_30 {d : Nat} {i0 : Nat} {x1 : Int} {u2 u3 : MV} {I L : Nat → Nat → Nat → Int} {t : Nat → Nat} (g1 : 0 ≤ I 7 i0 5 ∧ I 7 i0 5 < 400) : Res d 39 30 [vr 7 i0, vi x1, u2, u3] [] (mk I L t) = if I 34 i0 (I 7 i0 5).toNat = 32 then Res d 39 54 [vr 7 i0, vi x1, vi (I 7 i0 5), vi (I 34 i0 (I 7 i0 5).toNat)] [] (mk I L t) else Res d 39 48 [vr 7 i0, vi x1, vi (I 7 i0 5), vi (I 34 i0 (I 7 i0 5).toNat)] [] (mk I L t) :=
  Eq.trans (e_aload_n D39_30 rfl rfl) <| Eq.trans (e_getI D39_31 rfl o_39 f_7_49 (sh_7 _) (by decide)) <| Eq.trans (e_istore_n (ls1 := [vr 7 i0, vi x1, vi (I 7 i0 5), u3]) D39_34 rfl (show 2 < 4 by decide) rfl) <| Eq.trans (e_aload_n D39_35 rfl rfl) <| Eq.trans (e_getP (p := (34, i0)) D39_36 rfl o_39 f_7_9 (sh_7 _) (by decide) (pp_7_0 _ _)) <| Eq.trans (e_iload_n D39_39 rfl rfl) <| Eq.trans (e_iald D39_40 rfl (al_34 _) g1) <| Eq.trans (e_istore_n (ls1 := [vr 7 i0, vi x1, vi (I 7 i0 5), vi (I 34 i0 (I 7 i0 5).toNat)]) D39_41 rfl (show 3 < 4 by decide) rfl) <| Eq.trans (e_iload_n D39_42 rfl rfl) <| Eq.trans (e_bipush (x := 32) D39_43 rfl rfl) <| e_iceq D39_45 rfl rfl
theorem b39_48 {d : Nat} {i0 : Nat} {x1 x2 x3 : Int} {I L : Nat → Nat → Nat → Int} {t : Nat → Nat} : Res d 39 48 [vr 7 i0, vi x1, vi x2, vi x3] [] (mk I L t) = if ¬ x3 = 10 then Res d 39 67 [vr 7 i0, vi x1, vi x2, vi x3] [] (mk I L t) else Res d 39 54 [vr 7 i0, vi x1, vi x2, vi x3] [] (mk I L t) :=
  Eq.trans (e_iload_n D39_48 rfl rfl) <| Eq.trans (e_bipush (x := 10) D39_49 rfl rfl) <| e_icne D39_51 rfl rfl
theorem b39_54 {d : Nat} {i0 : Nat} {x1 x2 x3 : Int} {I L : Nat → Nat → Nat → Int} {t : Nat → Nat} : Res d 39 54 [vr 7 i0, vi x1, vi x2, vi x3] [] (mk I L t) = Res d 39 141 [vr 7 i0, vi x1, vi x2, vi x3] [] (mk (up3 I 7 i0 5 (w32 ((I 7 i0 5) + 1))) L t) :=
  Eq.trans (e_aload_n D39_54 rfl rfl) <| Eq.trans (e_dup D39_55 rfl) <| Eq.trans (e_getI D39_56 rfl o_39 f_7_49 (sh_7 _) (by decide)) <| Eq.trans (e_iconst (x := 1) D39_59 rfl rfl) <| Eq.trans (e_iadd D39_60 rfl) <| Eq.trans (e_putI D39_61 rfl o_39 f_7_49 (sh_7 _) rfl (by decide) (Or.inl (by decide))) <| e_goto (q1 := 141) D39_64 rfl
theorem b39_67 {d : Nat} {i0 : Nat} {x1 x2 x3 : Int} {I L : Nat → Nat → Nat → Int} {t : Nat → Nat} : Res (d + 1) 39 67 [vr 7 i0, vi x1, vi x2, vi x3] [] (mk I L t) = (Cal d 44 [vi x3] (mk I L t)).bind fun v => Res (d + 1) 39 71 [vr 7 i0, vi x1, vi x2, vi x3] (psh 44 v.1 []) v.2 :=
  Eq.trans (e_iload_n D39_67 rfl rfl) <| e_callS D39_68 rfl o_39 m_7_52 (by decide) rfl rfl
theorem b39_71 {d : Nat} {i0 : Nat} {x1 x2 x3 xs0 : Int} {I L : Nat → Nat → Nat → Int} {t : Nat → Nat} : Res d 39 71 [vr 7 i0, vi x1, vi x2, vi x3] [vi xs0] (mk I L t) = if xs0 = 0 then Res d 39 88 [vr 7 i0, vi x1, vi x2, vi x3] [] (mk I L t) else Res d 39 74 [vr 7 i0, vi x1, vi x2, vi x3] [] (mk I L t) :=
  e_ifeq D39_71 rfl rfl
theorem b39_74 {d : Nat} {i0 : Nat} {x1 x2 x3 : Int} {I L : Nat → Nat → Nat → Int} {t : Nat → Nat} : Res (d + 1) 39 74 [vr 7 i0, vi x1, vi x2, vi x3] [] (mk I L t) = (Cal d 42 [vr 7 i0, vi x2] (mk I L t)).bind fun v => Res (d + 1) 39 80 [vr 7 i0, vi x1, vi x2, vi x3] (psh 42 v.1 [vr 7 i0]) v.2 :=
  Eq.trans (e_aload_n D39_74 rfl rfl) <| Eq.trans (e_aload_n D39_75 rfl rfl) <| Eq.trans (e_iload_n D39_76 rfl rfl) <| e_callV D39_77 rfl o_39 m_7_56 (by decide) rfl rfl
theorem b39_80 {d : Nat} {i0 is0 : Nat} {x1 x2 x3 xs1 : Int} {I L : Nat → Nat → Nat → Int} {t : Nat → Nat} : Res (d + 1) 39 80 [vr 7 i0, vi x1, vi x2, vi x3] [vi xs1, vr 7 is0] (mk I L t) = (Cal d 40 [vr 7 is0, vi xs1, vi x2, vi 0] (mk I L t)).bind fun v => Res (d + 1) 39 85 [vr 7 i0, vi x1, vi x2, vi x3] (psh 40 v.1 []) v.2 :=
  Eq.trans (e_iload_n D39_80 rfl rfl) <| Eq.trans (e_iconst (x := 0) D39_81 rfl rfl) <| e_callV D39_82 rfl o_39 m_7_60 (by decide) rfl rfl
theorem b39_85 {d : Nat} {i0 : Nat} {x1 x2 x3 : Int} {I L : Nat → Nat → Nat → Int} {t : Nat → Nat} : Res d 39 85 [vr 7 i0, vi x1, vi x2, vi x3] [] (mk I L t) = Res d 39 141 [vr 7 i0, vi x1, vi x2, vi x3] [] (mk I L t) :=
  e_goto (q1 := 141) D39_85 rfl
theorem b39_88 {d : Nat} {i0 : Nat} {x1 x2 x3 : Int} {I L : Nat → Nat → Nat → Int} {t : Nat → Nat} : Res (d + 1) 39 88 [vr 7 i0, vi x1, vi x2, vi x3] [] (mk I L t) = (Cal d 45 [vi x3] (mk I L t)).bind fun v => Res (d + 1) 39 92 [vr 7 i0, vi x1, vi x2, vi x3] (psh 45 v.1 []) v.2 :=
  Eq.trans (e_iload_n D39_88 rfl rfl) <| e_callS D39_89 rfl o_39 m_7_64 (by decide) rfl rfl
theorem b39_92 {d : Nat} {i0 : Nat} {x1 x2 x3 xs0 : Int} {I L : Nat → Nat → Nat → Int} {t : Nat → Nat} : Res d 39 92 [vr 7 i0, vi x1, vi x2, vi x3] [vi xs0] (mk I L t) = if xs0 = 0 then Res d 39 112 [vr 7 i0, vi x1, vi x2, vi x3] [] (mk I L t) else Res d 39 95 [vr 7 i0, vi x1, vi x2, vi x3] [] (mk I L t) :=
  e_ifeq D39_92 rfl rfl
theorem b39_95 {d : Nat} {i0 : Nat} {x1 x2 x3 : Int} {I L : Nat → Nat → Nat → Int} {t : Nat → Nat} : Res (d + 1) 39 95 [vr 7 i0, vi x1, vi x2, vi x3] [] (mk I L t) = (Cal d 41 [vr 7 i0, vi x2] (mk I L t)).bind fun v => Res (d + 1) 39 101 [vr 7 i0, vi x1, vi x2, vi x3] (psh 41 v.1 [vr 7 i0]) v.2 :=
  Eq.trans (e_aload_n D39_95 rfl rfl) <| Eq.trans (e_aload_n D39_96 rfl rfl) <| Eq.trans (e_iload_n D39_97 rfl rfl) <| e_callV D39_98 rfl o_39 m_7_67 (by decide) rfl rfl
theorem b39_101 {d : Nat} {i0 is0 : Nat} {x1 x2 x3 xs1 : Int} {I L : Nat → Nat → Nat → Int} {t : Nat → Nat} : Res (d + 1) 39 101 [vr 7 i0, vi x1, vi x2, vi x3] [vi xs1, vr 7 is0] (mk I L t) = (Cal d 40 [vr 7 is0, vi xs1, vi x2, vi (I 7 i0 10)] (mk I L t)).bind fun v => Res (d + 1) 39 109 [vr 7 i0, vi x1, vi x2, vi x3] (psh 40 v.1 []) v.2 :=
  Eq.trans (e_iload_n D39_101 rfl rfl) <| Eq.trans (e_aload_n D39_102 rfl rfl) <| Eq.trans (e_getI D39_103 rfl o_39 f_7_46 (sh_7 _) (by decide)) <| e_callV D39_106 rfl o_39 m_7_60 (by decide) rfl rfl
theorem b39_109 {d : Nat} {i0 : Nat} {x1 x2 x3 : Int} {I L : Nat → Nat → Nat → Int} {t : Nat → Nat} : Res d 39 109 [vr 7 i0, vi x1, vi x2, vi x3] [] (mk I L t) = Res d 39 141 [vr 7 i0, vi x1, vi x2, vi x3] [] (mk I L t) :=
  e_goto (q1 := 141) D39_109 rfl
theorem b39_112 {d : Nat} {i0 : Nat} {x1 x2 x3 : Int} {I L : Nat → Nat → Nat → Int} {t : Nat → Nat} : Res (d + 1) 39 112 [vr 7 i0, vi x1, vi x2, vi x3] [] (mk I L t) = (Cal d 46 [vi x3] (mk (up3 I 7 i0 5 (w32 ((I 7 i0 5) + 1))) L t)).bind fun v => Res (d + 1) 39 127 [vr 7 i0, vi x1, vi x2, vi x3] (psh 46 v.1 [vr 7 i0]) v.2 :=
  Eq.trans (e_aload_n D39_112 rfl rfl) <| Eq.trans (e_dup D39_113 rfl) <| Eq.trans (e_getI D39_114 rfl o_39 f_7_49 (sh_7 _) (by decide)) <| Eq.trans (e_iconst (x := 1) D39_117 rfl rfl) <| Eq.trans (e_iadd D39_118 rfl) <| Eq.trans (e_putI D39_119 rfl o_39 f_7_49 (sh_7 _) rfl (by decide) (Or.inl (by decide))) <| Eq.trans (e_aload_n D39_122 rfl rfl) <| Eq.trans (e_iload_n D39_123 rfl rfl) <| e_callS D39_124 rfl o_39 m_7_70 (by decide) rfl rfl
theorem b39_127 {d : Nat} {i0 is0 : Nat} {x1 x2 x3 xs1 : Int} {I L : Nat → Nat → Nat → Int} {t : Nat → Nat} : Res d 39 127 [vr 7 i0, vi x1, vi x2, vi x3] [vi xs1, vr 7 is0] (mk I L t) = if xs1 = 0 then Res d 39 134 [vr 7 i0, vi x1, vi x2, vi x3] [vr 7 is0] (mk I L t) else Res d 39 130 [vr 7 i0, vi x1, vi x2, vi x3] [vr 7 is0] (mk I L t) :=
  e_ifeq D39_127 rfl rfl
theorem b39_130 {d : Nat} {i0 is0 : Nat} {x1 x2 x3 : Int} {I L : Nat → Nat → Nat → Int} {t : Nat → Nat} : Res d 39 130 [vr 7 i0, vi x1, vi x2, vi x3] [vr 7 is0] (mk I L t) = Res d 39 136 [vr 7 i0, vi x1, vi x2, vi x3] [vi x3, vr 7 is0] (mk I L t) :=
  Eq.trans (e_iload_n D39_130 rfl rfl) <| e_goto (q1 := 136) D39_131 rfl
theorem b39_134 {d : Nat} {i0 is0 : Nat} {x1 x2 x3 : Int} {I L : Nat → Nat → Nat → Int} {t : Nat → Nat} : Res d 39 134 [vr 7 i0, vi x1, vi x2, vi x3] [vr 7 is0] (mk I L t) = Res d 39 136 [vr 7 i0, vi x1, vi x2, vi x3] [vi 25, vr 7 is0] (mk I L t) :=
  e_bipush (x := 25) D39_134 rfl rfl
theorem b39_136 {d : Nat} {i0 is0 : Nat} {x1 x2 x3 xs1 : Int} {I L : Nat → Nat → Nat → Int} {t : Nat → Nat} : Res (d + 1) 39 136 [vr 7 i0, vi x1, vi x2, vi x3] [vi xs1, vr 7 is0] (mk I L t) = (Cal d 40 [vr 7 is0, vi xs1, vi x2, vi 0] (mk I L t)).bind fun v => Res (d + 1) 39 141 [vr 7 i0, vi x1, vi x2, vi x3] (psh 40 v.1 []) v.2 :=
  Eq.trans (e_iload_n D39_136 rfl rfl) <| Eq.trans (e_iconst (x := 0) D39_137 rfl rfl) <| e_callV D39_138 rfl o_39 m_7_60 (by decide) rfl rfl
theorem b39_141 {d : Nat} {i0 : Nat} {x1 x2 x3 : Int} {I L : Nat → Nat → Nat → Int} {t : Nat → Nat} : Res d 39 141 [vr 7 i0, vi x1, vi x2, vi x3] [] (mk I L t) = Res d 39 12 [vr 7 i0, vi (w32 (x1 + 1)), vi x2, vi x3] [] (mk I L t) :=
  Eq.trans (e_iinc (ls1 := [vr 7 i0, vi (w32 (x1 + 1)), vi x2, vi x3]) D39_141 rfl rfl rfl) <| e_goto (q1 := 12) D39_144 rfl
theorem b39_147 {d : Nat} {i0 : Nat} {x1 : Int} {u2 u3 : MV} {I L : Nat → Nat → Nat → Int} {t : Nat → Nat} : Res (d + 1) 39 147 [vr 7 i0, vi x1, u2, u3] [] (mk I L t) = (Cal d 40 [vr 7 i0, vi 24, vi (I 7 i0 4), vi 0] (mk I L t)).bind fun v => Res (d + 1) 39 158 [vr 7 i0, vi x1, u2, u3] (psh 40 v.1 []) v.2 :=
  Eq.trans (e_aload_n D39_147 rfl rfl) <| Eq.trans (e_bipush (x := 24) D39_148 rfl rfl) <| Eq.trans (e_aload_n D39_150 rfl rfl) <| Eq.trans (e_getI D39_151 rfl o_39 f_7_28 (sh_7 _) (by decide)) <| Eq.trans (e_iconst (x := 0) D39_154 rfl rfl) <| e_callV D39_155 rfl o_39 m_7_60 (by decide) rfl rfl
theorem b39_158 {d : Nat} {i0 : Nat} {x1 : Int} {u2 u3 : MV} {I L : Nat → Nat → Nat → Int} {t : Nat → Nat} : Res (d + 1) 39 158 [vr 7 i0, vi x1, u2, u3] [] (mk I L t) = (Cal d 38 [vr 7 i0] (mk (up3 I 7 i0 7 0) L t)).bind fun v => Res (d + 1) 39 167 [vr 7 i0, vi x1, u2, u3] (psh 38 v.1 []) v.2 :=
  Eq.trans (e_aload_n D39_158 rfl rfl) <| Eq.trans (e_iconst (x := 0) D39_159 rfl rfl) <| Eq.trans (e_putI D39_160 rfl o_39 f_7_37 (sh_7 _) rfl (by decide) (Or.inl (by decide))) <| Eq.trans (e_aload_n D39_163 rfl rfl) <| e_callV D39_164 rfl o_39 m_7_73 (by decide) rfl rfl
theorem b39_167 {d : Nat} {i0 : Nat} {x1 : Int} {u2 u3 : MV} {I L : Nat → Nat → Nat → Int} {t : Nat → Nat} : Res d 39 167 [vr 7 i0, vi x1, u2, u3] [] (mk I L t) = some (vx, (mk I L t)) :=
  e_vret D39_167 rfl
/-! Tape_keep -/
theorem cc_40 : cod 40 = cX7_keep := rfl
theorem D40_0 : decode (cod 40) 0 = .ok (.aload_n 0, 1) := by rw [cc_40]; decide +kernel
theorem D40_1 : decode (cod 40) 1 = .ok (.getfield 40, 3) := by rw [cc_40]; decide +kernel
theorem D40_4 : decode (cod 40) 4 = .ok (.sipush 400, 3) := by rw [cc_40]; decide +kernel
theorem D40_7 : decode (cod 40) 7 = .ok (.if_icmp .gt 43, 3) := by rw [cc_40]; decide +kernel
theorem D40_10 : decode (cod 40) 10 = .ok (.aload_n 0, 1) := by rw [cc_40]; decide +kernel
theorem D40_11 : decode (cod 40) 11 = .ok (.getfield 15, 3) := by rw [cc_40]; decide +kernel
theorem D40_14 : decode (cod 40) 14 = .ok (.aload_n 0, 1) := by rw [cc_40]; decide +kernel
theorem D40_15 : decode (cod 40) 15 = .ok (.getfield 40, 3) := by rw [cc_40]; decide +kernel
theorem D40_18 : decode (cod 40) 18 = .ok (.iload_n 1, 1) := by rw [cc_40]; decide +kernel
theorem D40_19 : decode (cod 40) 19 = .ok (.iastore, 1) := by rw [cc_40]; decide +kernel
theorem D40_20 : decode (cod 40) 20 = .ok (.aload_n 0, 1) := by rw [cc_40]; decide +kernel
theorem D40_21 : decode (cod 40) 21 = .ok (.getfield 18, 3) := by rw [cc_40]; decide +kernel
theorem D40_24 : decode (cod 40) 24 = .ok (.aload_n 0, 1) := by rw [cc_40]; decide +kernel
theorem D40_25 : decode (cod 40) 25 = .ok (.getfield 40, 3) := by rw [cc_40]; decide +kernel
theorem D40_28 : decode (cod 40) 28 = .ok (.iload_n 2, 1) := by rw [cc_40]; decide +kernel
theorem D40_29 : decode (cod 40) 29 = .ok (.iastore, 1) := by rw [cc_40]; decide +kernel
theorem D40_30 : decode (cod 40) 30 = .ok (.aload_n 0, 1) := by rw [cc_40]; decide +kernel
theorem D40_31 : decode (cod 40) 31 = .ok (.getfield 21, 3) := by rw [cc_40]; decide +kernel
theorem D40_34 : decode (cod 40) 34 = .ok (.aload_n 0, 1) := by rw [cc_40]; decide +kernel
theorem D40_35 : decode (cod 40) 35 = .ok (.getfield 40, 3) := by rw [cc_40]; decide +kernel
theorem D40_38 : decode (cod 40) 38 = .ok (.iload_n 3, 1) := by rw [cc_40]; decide +kernel
theorem D40_39 : decode (cod 40) 39 = .ok (.iastore, 1) := by rw [cc_40]; decide +kernel
theorem D40_40 : decode (cod 40) 40 = .ok (.aload_n 0, 1) := by rw [cc_40]; decide +kernel
theorem D40_41 : decode (cod 40) 41 = .ok (.dup, 1) := by rw [cc_40]; decide +kernel
theorem D40_42 : decode (cod 40) 42 = .ok (.getfield 40, 3) := by rw [cc_40]; decide +kernel
theorem D40_45 : decode (cod 40) 45 = .ok (.iconst 1, 1) := by rw [cc_40]; decide +kernel
theorem D40_46 : decode (cod 40) 46 = .ok (.iadd, 1) := by rw [cc_40]; decide +kernel
theorem D40_47 : decode (cod 40) 47 = .ok (.putfield 40, 3) := by rw [cc_40]; decide +kernel
theorem D40_50 : decode (cod 40) 50 = .ok (.return_, 1) := by rw [cc_40]; decide +kernel
theorem b40_0 {d : Nat} {i0 : Nat} {x1 x2 x3 : Int} {I L : Nat → Nat → Nat → Int} {t : Nat → Nat} : Res d 40 0 [vr 7 i0, vi x1, vi x2, vi x3] [] (mk I L t) = if 400 < I 7 i0 6 then Res d 40 50 [vr 7 i0, vi x1, vi x2, vi x3] [] (mk I L t) else Res d 40 10 [vr 7 i0, vi x1, vi x2, vi x3] [] (mk I L t) :=
  Eq.trans (e_aload_n D40_0 rfl rfl) <| Eq.trans (e_getI D40_1 rfl o_40 f_7_40 (sh_7 _) (by decide)) <| Eq.trans (e_sipush (x := 400) D40_4 rfl rfl) <| e_icgt D40_7 rfl rfl
theorem b40_10 {d : Nat} {i0 : Nat} {x1 x2 x3 : Int} {I L : Nat → Nat → Nat → Int} {t : Nat → Nat} (g1 : 0 ≤ I 7 i0 6 ∧ I 7 i0 6 < 401) (g2 : 0 ≤ (up3 I 35 i0 (I 7 i0 6).toNat x1) 7 i0 6 ∧ (up3 I 35 i0 (I 7 i0 6).toNat x1) 7 i0 6 < 401) (g3 : 0 ≤ (up3 (up3 I 35 i0 (I 7 i0 6).toNat x1) 36 i0 ((up3 I 35 i0 (I 7 i0 6).toNat x1) 7 i0 6).toNat x2) 7 i0 6 ∧ (up3 (up3 I 35 i0 (I 7 i0 6).toNat x1) 36 i0 ((up3 I 35 i0 (I 7 i0 6).toNat x1) 7 i0 6).toNat x2) 7 i0 6 < 401) : Res d 40 10 [vr 7 i0, vi x1, vi x2, vi x3] [] (mk I L t) = Res d 40 50 [vr 7 i0, vi x1, vi x2, vi x3] [] (mk (up3 (up3 (up3 (up3 I 35 i0 (I 7 i0 6).toNat x1) 36 i0 ((up3 I 35 i0 (I 7 i0 6).toNat x1) 7 i0 6).toNat x2) 37 i0 ((up3 (up3 I 35 i0 (I 7 i0 6).toNat x1) 36 i0 ((up3 I 35 i0 (I 7 i0 6).toNat x1) 7 i0 6).toNat x2) 7 i0 6).toNat x3) 7 i0 6 (w32 (((up3 (up3 (up3 I 35 i0 (I 7 i0 6).toNat x1) 36 i0 ((up3 I 35 i0 (I 7 i0 6).toNat x1) 7 i0 6).toNat x2) 37 i0 ((up3 (up3 I 35 i0 (I 7 i0 6).toNat x1) 36 i0 ((up3 I 35 i0 (I 7 i0 6).toNat x1) 7 i0 6).toNat x2) 7 i0 6).toNat x3) 7 i0 6) + 1))) L t) :=
  Eq.trans (e_aload_n D40_10 rfl rfl) <| Eq.trans (e_getP (p := (35, i0)) D40_11 rfl o_40 f_7_15 (sh_7 _) (by decide) (pp_7_1 _ _)) <| Eq.trans (e_aload_n D40_14 rfl rfl) <| Eq.trans (e_getI D40_15 rfl o_40 f_7_40 (sh_7 _) (by decide)) <| Eq.trans (e_iload_n D40_18 rfl rfl) <| Eq.trans (e_iast D40_19 rfl (al_35 _) rfl g1) <| Eq.trans (e_aload_n D40_20 rfl rfl) <| Eq.trans (e_getP (p := (36, i0)) D40_21 rfl o_40 f_7_18 (sh_7 _) (by decide) (pp_7_2 _ _)) <| Eq.trans (e_aload_n D40_24 rfl rfl) <| Eq.trans (e_getI D40_25 rfl o_40 f_7_40 (sh_7 _) (by decide)) <| Eq.trans (e_iload_n D40_28 rfl rfl) <| Eq.trans (e_iast D40_29 rfl (al_36 _) rfl g2) <| Eq.trans (e_aload_n D40_30 rfl rfl) <| Eq.trans (e_getP (p := (37, i0)) D40_31 rfl o_40 f_7_21 (sh_7 _) (by decide) (pp_7_3 _ _)) <| Eq.trans (e_aload_n D40_34 rfl rfl) <| Eq.trans (e_getI D40_35 rfl o_40 f_7_40 (sh_7 _) (by decide)) <| Eq.trans (e_iload_n D40_38 rfl rfl) <| Eq.trans (e_iast D40_39 rfl (al_37 _) rfl g3) <| Eq.trans (e_aload_n D40_40 rfl rfl) <| Eq.trans (e_dup D40_41 rfl) <| Eq.trans (e_getI D40_42 rfl o_40 f_7_40 (sh_7 _) (by decide)) <| Eq.trans (e_iconst (x := 1) D40_45 rfl rfl) <| Eq.trans (e_iadd D40_46 rfl) <| e_putI D40_47 rfl o_40 f_7_40 (sh_7 _) rfl (by decide) (Or.inl (by decide))
theorem b40_50 {d : Nat} {i0 : Nat} {x1 x2 x3 : Int} {I L : Nat → Nat → Nat → Int} {t : Nat → Nat} : Res d 40 50 [vr 7 i0, vi x1, vi x2, vi x3] [] (mk I L t) = some (vx, (mk I L t)) :=
  e_vret D40_50 rfl
/-! Tape_readNumber -/
theorem cc_41 : cod 41 = cX7_readNumber := rfl
theorem D41_0 : decode (cod 41) 0 = .ok (.aload_n 0, 1) := by rw [cc_41]; decide +kernel
theorem D41_1 : decode (cod 41) 1 = .ok (.iconst 0, 1) := by rw [cc_41]; decide +kernel
theorem D41_2 : decode (cod 41) 2 = .ok (.putfield 46, 3) := by rw [cc_41]; decide +kernel
theorem D41_5 : decode (cod 41) 5 = .ok (.aload_n 0, 1) := by rw [cc_41]; decide +kernel
theorem D41_6 : decode (cod 41) 6 = .ok (.getfield 49, 3) := by rw [cc_41]; decide +kernel
theorem D41_9 : decode (cod 41) 9 = .ok (.aload_n 0, 1) := by rw [cc_41]; decide +kernel
theorem D41_10 : decode (cod 41) 10 = .ok (.getfield 28, 3) := by rw [cc_41]; decide +kernel
theorem D41_13 : decode (cod 41) 13 = .ok (.if_icmp .ge 72, 3) := by rw [cc_41]; decide +kernel
theorem D41_16 : decode (cod 41) 16 = .ok (.aload_n 0, 1) := by rw [cc_41]; decide +kernel
theorem D41_17 : decode (cod 41) 17 = .ok (.getfield 9, 3) := by rw [cc_41]; decide +kernel
theorem D41_20 : decode (cod 41) 20 = .ok (.aload_n 0, 1) := by rw [cc_41]; decide +kernel
theorem D41_21 : decode (cod 41) 21 = .ok (.getfield 49, 3) := by rw [cc_41]; decide +kernel
theorem D41_24 : decode (cod 41) 24 = .ok (.iaload, 1) := by rw [cc_41]; decide +kernel
theorem D41_25 : decode (cod 41) 25 = .ok (.invokestatic 64, 3) := by rw [cc_41]; decide +kernel
theorem D41_28 : decode (cod 41) 28 = .ok (.ifCond .eq 57, 3) := by rw [cc_41]; decide +kernel
theorem D41_31 : decode (cod 41) 31 = .ok (.aload_n 0, 1) := by rw [cc_41]; decide +kernel
theorem D41_32 : decode (cod 41) 32 = .ok (.aload_n 0, 1) := by rw [cc_41]; decide +kernel
theorem D41_33 : decode (cod 41) 33 = .ok (.getfield 49, 3) := by rw [cc_41]; decide +kernel
theorem D41_36 : decode (cod 41) 36 = .ok (.iload_n 1, 1) := by rw [cc_41]; decide +kernel
theorem D41_37 : decode (cod 41) 37 = .ok (.isub, 1) := by rw [cc_41]; decide +kernel
theorem D41_38 : decode (cod 41) 38 = .ok (.iconst 4, 1) := by rw [cc_41]; decide +kernel
theorem D41_39 : decode (cod 41) 39 = .ok (.if_icmp .ge 26, 3) := by rw [cc_41]; decide +kernel
theorem D41_42 : decode (cod 41) 42 = .ok (.bipush 10, 2) := by rw [cc_41]; decide +kernel
theorem D41_44 : decode (cod 41) 44 = .ok (.aload_n 0, 1) := by rw [cc_41]; decide +kernel
theorem D41_45 : decode (cod 41) 45 = .ok (.getfield 46, 3) := by rw [cc_41]; decide +kernel
theorem D41_48 : decode (cod 41) 48 = .ok (.imul, 1) := by rw [cc_41]; decide +kernel
theorem D41_49 : decode (cod 41) 49 = .ok (.aload_n 0, 1) := by rw [cc_41]; decide +kernel
theorem D41_50 : decode (cod 41) 50 = .ok (.getfield 9, 3) := by rw [cc_41]; decide +kernel
theorem D41_53 : decode (cod 41) 53 = .ok (.aload_n 0, 1) := by rw [cc_41]; decide +kernel
theorem D41_54 : decode (cod 41) 54 = .ok (.getfield 49, 3) := by rw [cc_41]; decide +kernel
theorem D41_57 : decode (cod 41) 57 = .ok (.iaload, 1) := by rw [cc_41]; decide +kernel
theorem D41_58 : decode (cod 41) 58 = .ok (.iadd, 1) := by rw [cc_41]; decide +kernel
theorem D41_59 : decode (cod 41) 59 = .ok (.bipush 48, 2) := by rw [cc_41]; decide +kernel
theorem D41_61 : decode (cod 41) 61 = .ok (.isub, 1) := by rw [cc_41]; decide +kernel
theorem D41_62 : decode (cod 41) 62 = .ok (.goto 7, 3) := by rw [cc_41]; decide +kernel
theorem D41_65 : decode (cod 41) 65 = .ok (.aload_n 0, 1) := by rw [cc_41]; decide +kernel
theorem D41_66 : decode (cod 41) 66 = .ok (.getfield 46, 3) := by rw [cc_41]; decide +kernel
theorem D41_69 : decode (cod 41) 69 = .ok (.putfield 46, 3) := by rw [cc_41]; decide +kernel
theorem D41_72 : decode (cod 41) 72 = .ok (.aload_n 0, 1) := by rw [cc_41]; decide +kernel
theorem D41_73 : decode (cod 41) 73 = .ok (.dup, 1) := by rw [cc_41]; decide +kernel
theorem D41_74 : decode (cod 41) 74 = .ok (.getfield 49, 3) := by rw [cc_41]; decide +kernel
theorem D41_77 : decode (cod 41) 77 = .ok (.iconst 1, 1) := by rw [cc_41]; decide +kernel
theorem D41_78 : decode (cod 41) 78 = .ok (.iadd, 1) := by rw [cc_41]; decide +kernel
theorem D41_79 : decode (cod 41) 79 = .ok (.putfield 49, 3) := by rw [cc_41]; decide +kernel
theorem D41_82 : decode (cod 41) 82 = .ok (.goto (-77), 3) := by rw [cc_41]; decide +kernel
theorem D41_85 : decode (cod 41) 85 = .ok (.aload_n 0, 1) := by rw [cc_41]; decide +kernel
theorem D41_86 : decode (cod 41) 86 = .ok (.getfield 49, 3) := by rw [cc_41]; decide +kernel
theorem D41_89 : decode (cod 41) 89 = .ok (.iload_n 1, 1) := by rw [cc_41]; decide +kernel
theorem D41_90 : decode (cod 41) 90 = .ok (.isub, 1) := by rw [cc_41]; decide +kernel
theorem D41_91 : decode (cod 41) 91 = .ok (.iconst 4, 1) := by rw [cc_41]; decide +kernel
theorem D41_92 : decode (cod 41) 92 = .ok (.if_icmp .le 8, 3) := by rw [cc_41]; decide +kernel
theorem D41_95 : decode (cod 41) 95 = .ok (.bipush 25, 2) := by rw [cc_41]; decide +kernel
theorem D41_97 : decode (cod 41) 97 = .ok (.goto 5, 3) := by rw [cc_41]; decide +kernel
theorem D41_100 : decode (cod 41) 100 = .ok (.bipush 23, 2) := by rw [cc_41]; decide +kernel
theorem D41_102 : decode (cod 41) 102 = .ok (.ireturn, 1) := by rw [cc_41]; decide +kernel
theorem b41_0 {d : Nat} {i0 : Nat} {x1 : Int} {I L : Nat → Nat → Nat → Int} {t : Nat → Nat} : Res d 41 0 [vr 7 i0, vi x1] [] (mk I L t) = Res d 41 5 [vr 7 i0, vi x1] [] (mk (up3 I 7 i0 10 0) L t) :=
  Eq.trans (e_aload_n D41_0 rfl rfl) <| Eq.trans (e_iconst (x := 0) D41_1 rfl rfl) <| e_putI D41_2 rfl o_41 f_7_46 (sh_7 _) rfl (by decide) (Or.inl (by decide))
theorem b41_5 {d : Nat} {i0 : Nat} {x1 : Int} {I L : Nat → Nat → Nat → Int} {t : Nat → Nat} : Res d 41 5 [vr 7 i0, vi x1] [] (mk I L t) = if I 7 i0 4 ≤ I 7 i0 5 then Res d 41 85 [vr 7 i0, vi x1] [] (mk I L t) else Res d 41 16 [vr 7 i0, vi x1] [] (mk I L t) :=
  Eq.trans (e_aload_n D41_5 rfl rfl) <| Eq.trans (e_getI D41_6 rfl o_41 f_7_49 (sh_7 _) (by decide)) <| Eq.trans (e_aload_n D41_9 rfl rfl) <| Eq.trans (e_getI D41_10 rfl o_41 f_7_28 (sh_7 _) (by decide)) <| e_icge D41_13 rfl rfl
theorem b41_16 {d : Nat} {i0 : Nat} {x1 : Int} {I L : Nat → Nat → Nat → Int} {t : Nat → Nat} (g1 : 0 ≤ I 7 i0 5 ∧ I 7 i0 5 < 400) : Res (d + 1) 41 16 [vr 7 i0, vi x1] [] (mk I L t) = (Cal d 45 [vi (I 34 i0 (I 7 i0 5).toNat)] (mk I L t)).bind fun v => Res (d + 1) 41 28 [vr 7 i0, vi x1] (psh 45 v.1 []) v.2 :=
  Eq.trans (e_aload_n D41_16 rfl rfl) <| Eq.trans (e_getP (p := (34, i0)) D41_17 rfl o_41 f_7_9 (sh_7 _) (by decide) (pp_7_0 _ _)) <| Eq.trans (e_aload_n D41_20 rfl rfl) <| Eq.trans (e_getI D41_21 rfl o_41 f_7_49 (sh_7 _) (by decide)) <| Eq.trans (e_iald D41_24 rfl (al_34 _) g1) <| e_callS D41_25 rfl o_41 m_7_64 (by decide) rfl rfl
theorem b41_28 {d : Nat} {i0 : Nat} {x1 xs0 : Int} {I L : Nat → Nat → Nat → Int} {t : Nat → Nat} : Res d 41 28 [vr 7 i0, vi x1] [vi xs0] (mk I L t) = if xs0 = 0 then Res d 41 85 [vr 7 i0, vi x1] [] (mk I L t) else Res d 41 31 [vr 7 i0, vi x1] [] (mk I L t) :=
  e_ifeq D41_28 rfl rfl
theorem b41_31 {d : Nat} {i0 : Nat} {x1 : Int} {I L : Nat → Nat → Nat → Int} {t : Nat → Nat} : Res d 41 31 [vr 7 i0, vi x1] [] (mk I L t) = if 4 ≤ w32 ((I 7 i0 5) - x1) then Res d 41 65 [vr 7 i0, vi x1] [vr 7 i0] (mk I L t) else Res d 41 42 [vr 7 i0, vi x1] [vr 7 i0] (mk I L t) :=
  Eq.trans (e_aload_n D41_31 rfl rfl) <| Eq.trans (e_aload_n D41_32 rfl rfl) <| Eq.trans (e_getI D41_33 rfl o_41 f_7_49 (sh_7 _) (by decide)) <| Eq.trans (e_iload_n D41_36 rfl rfl) <| Eq.trans (e_isub D41_37 rfl) <| Eq.trans (e_iconst (x := 4) D41_38 rfl rfl) <| e_icge D41_39 rfl rfl
theorem b41_42 {d : Nat} {i0 is0 : Nat} {x1 : Int} {I L : Nat → Nat → Nat → Int} {t : Nat → Nat} (g1 : 0 ≤ I 7 i0 5 ∧ I 7 i0 5 < 400) : Res d 41 42 [vr 7 i0, vi x1] [vr 7 is0] (mk I L t) = Res d 41 69 [vr 7 i0, vi x1] [vi (w32 ((w32 ((w32 (10 * (I 7 i0 10))) + (I 34 i0 (I 7 i0 5).toNat))) - 48)), vr 7 is0] (mk I L t) :=
  Eq.trans (e_bipush (x := 10) D41_42 rfl rfl) <| Eq.trans (e_aload_n D41_44 rfl rfl) <| Eq.trans (e_getI D41_45 rfl o_41 f_7_46 (sh_7 _) (by decide)) <| Eq.trans (e_imul D41_48 rfl) <| Eq.trans (e_aload_n D41_49 rfl rfl) <| Eq.trans (e_getP (p := (34, i0)) D41_50 rfl o_41 f_7_9 (sh_7 _) (by decide) (pp_7_0 _ _)) <| Eq.trans (e_aload_n D41_53 rfl rfl) <| Eq.trans (e_getI D41_54 rfl o_41 f_7_49 (sh_7 _) (by decide)) <| Eq.trans (e_iald D41_57 rfl (al_34 _) g1) <| Eq.trans (e_iadd D41_58 rfl) <| Eq.trans (e_bipush (x := 48) D41_59 rfl rfl) <| Eq.trans (e_isub D41_61 rfl) <| e_goto (q1 := 69) D41_62 rfl
theorem b41_65 {d : Nat} {i0 is0 : Nat} {x1 : Int} {I L : Nat → Nat → Nat → Int} {t : Nat → Nat} : Res d 41 65 [vr 7 i0, vi x1] [vr 7 is0] (mk I L t) = Res d 41 69 [vr 7 i0, vi x1] [vi (I 7 i0 10), vr 7 is0] (mk I L t) :=
  Eq.trans (e_aload_n D41_65 rfl rfl) <| e_getI D41_66 rfl o_41 f_7_46 (sh_7 _) (by decide)
theorem b41_69 {d : Nat} {i0 is0 : Nat} {x1 xs1 : Int} {I L : Nat → Nat → Nat → Int} {t : Nat → Nat} : Res d 41 69 [vr 7 i0, vi x1] [vi xs1, vr 7 is0] (mk I L t) = Res d 41 5 [vr 7 i0, vi x1] [] (mk (up3 (up3 I 7 is0 10 xs1) 7 i0 5 (w32 (((up3 I 7 is0 10 xs1) 7 i0 5) + 1))) L t) :=
  Eq.trans (e_putI D41_69 rfl o_41 f_7_46 (sh_7 _) rfl (by decide) (Or.inl (by decide))) <| Eq.trans (e_aload_n D41_72 rfl rfl) <| Eq.trans (e_dup D41_73 rfl) <| Eq.trans (e_getI D41_74 rfl o_41 f_7_49 (sh_7 _) (by decide)) <| Eq.trans (e_iconst (x := 1) D41_77 rfl rfl) <| Eq.trans (e_iadd D41_78 rfl) <| Eq.trans (e_putI D41_79 rfl o_41 f_7_49 (sh_7 _) rfl (by decide) (Or.inl (by decide))) <| e_goto (q1 := 5) D41_82 rfl
theorem b41_85 {d : Nat} {i0 : Nat} {x1 : Int} {I L : Nat → Nat → Nat → Int} {t : Nat → Nat} : Res d 41 85 [vr 7 i0, vi x1] [] (mk I L t) = if w32 ((I 7 i0 5) - x1) ≤ 4 then Res d 41 100 [vr 7 i0, vi x1] [] (mk I L t) else Res d 41 95 [vr 7 i0, vi x1] [] (mk I L t) :=
  Eq.trans (e_aload_n D41_85 rfl rfl) <| Eq.trans (e_getI D41_86 rfl o_41 f_7_49 (sh_7 _) (by decide)) <| Eq.trans (e_iload_n D41_89 rfl rfl) <| Eq.trans (e_isub D41_90 rfl) <| Eq.trans (e_iconst (x := 4) D41_91 rfl rfl) <| e_icle D41_92 rfl rfl
theorem b41_95 {d : Nat} {i0 : Nat} {x1 : Int} {I L : Nat → Nat → Nat → Int} {t : Nat → Nat} : Res d 41 95 [vr 7 i0, vi x1] [] (mk I L t) = Res d 41 102 [vr 7 i0, vi x1] [vi 25] (mk I L t) :=
  Eq.trans (e_bipush (x := 25) D41_95 rfl rfl) <| e_goto (q1 := 102) D41_97 rfl
theorem b41_100 {d : Nat} {i0 : Nat} {x1 : Int} {I L : Nat → Nat → Nat → Int} {t : Nat → Nat} : Res d 41 100 [vr 7 i0, vi x1] [] (mk I L t) = Res d 41 102 [vr 7 i0, vi x1] [vi 23] (mk I L t) :=
  e_bipush (x := 23) D41_100 rfl rfl
theorem b41_102 {d : Nat} {i0 : Nat} {x1 xs0 : Int} {I L : Nat → Nat → Nat → Int} {t : Nat → Nat} : Res d 41 102 [vr 7 i0, vi x1] [vi xs0] (mk I L t) = some (vi xs0, (mk I L t)) :=
  e_iret D41_102 rfl
/-! Tape_readWord -/
theorem cc_42 : cod 42 = cX7_readWord := rfl
theorem D42_0 : decode (cod 42) 0 = .ok (.aload_n 0, 1) := by rw [cc_42]; decide +kernel
theorem D42_1 : decode (cod 42) 1 = .ok (.getfield 49, 3) := by rw [cc_42]; decide +kernel
theorem D42_4 : decode (cod 42) 4 = .ok (.aload_n 0, 1) := by rw [cc_42]; decide +kernel
theorem D42_5 : decode (cod 42) 5 = .ok (.getfield 28, 3) := by rw [cc_42]; decide +kernel
theorem D42_8 : decode (cod 42) 8 = .ok (.if_icmp .ge 31, 3) := by rw [cc_42]; decide +kernel
theorem D42_11 : decode (cod 42) 11 = .ok (.aload_n 0, 1) := by rw [cc_42]; decide +kernel
theorem D42_12 : decode (cod 42) 12 = .ok (.getfield 9, 3) := by rw [cc_42]; decide +kernel
theorem D42_15 : decode (cod 42) 15 = .ok (.aload_n 0, 1) := by rw [cc_42]; decide +kernel
theorem D42_16 : decode (cod 42) 16 = .ok (.getfield 49, 3) := by rw [cc_42]; decide +kernel
theorem D42_19 : decode (cod 42) 19 = .ok (.iaload, 1) := by rw [cc_42]; decide +kernel
theorem D42_20 : decode (cod 42) 20 = .ok (.invokestatic 52, 3) := by rw [cc_42]; decide +kernel
theorem D42_23 : decode (cod 42) 23 = .ok (.ifCond .eq 16, 3) := by rw [cc_42]; decide +kernel
theorem D42_26 : decode (cod 42) 26 = .ok (.aload_n 0, 1) := by rw [cc_42]; decide +kernel
theorem D42_27 : decode (cod 42) 27 = .ok (.dup, 1) := by rw [cc_42]; decide +kernel
theorem D42_28 : decode (cod 42) 28 = .ok (.getfield 49, 3) := by rw [cc_42]; decide +kernel
theorem D42_31 : decode (cod 42) 31 = .ok (.iconst 1, 1) := by rw [cc_42]; decide +kernel
theorem D42_32 : decode (cod 42) 32 = .ok (.iadd, 1) := by rw [cc_42]; decide +kernel
theorem D42_33 : decode (cod 42) 33 = .ok (.putfield 49, 3) := by rw [cc_42]; decide +kernel
theorem D42_36 : decode (cod 42) 36 = .ok (.goto (-36), 3) := by rw [cc_42]; decide +kernel
theorem D42_39 : decode (cod 42) 39 = .ok (.iconst 0, 1) := by rw [cc_42]; decide +kernel
theorem D42_40 : decode (cod 42) 40 = .ok (.istore_n 2, 1) := by rw [cc_42]; decide +kernel
theorem D42_41 : decode (cod 42) 41 = .ok (.iload_n 2, 1) := by rw [cc_42]; decide +kernel
theorem D42_42 : decode (cod 42) 42 = .ok (.bipush 23, 2) := by rw [cc_42]; decide +kernel
theorem D42_44 : decode (cod 42) 44 = .ok (.if_icmp .ge 27, 3) := by rw [cc_42]; decide +kernel
theorem D42_47 : decode (cod 42) 47 = .ok (.aload_n 0, 1) := by rw [cc_42]; decide +kernel
theorem D42_48 : decode (cod 42) 48 = .ok (.iload_n 2, 1) := by rw [cc_42]; decide +kernel
theorem D42_49 : decode (cod 42) 49 = .ok (.invokestatic 76, 3) := by rw [cc_42]; decide +kernel
theorem D42_52 : decode (cod 42) 52 = .ok (.iload_n 1, 1) := by rw [cc_42]; decide +kernel
theorem D42_53 : decode (cod 42) 53 = .ok (.aload_n 0, 1) := by rw [cc_42]; decide +kernel
theorem D42_54 : decode (cod 42) 54 = .ok (.getfield 49, 3) := by rw [cc_42]; decide +kernel
theorem D42_57 : decode (cod 42) 57 = .ok (.invokevirtual 80, 3) := by rw [cc_42]; decide +kernel
theorem D42_60 : decode (cod 42) 60 = .ok (.ifCond .eq 5, 3) := by rw [cc_42]; decide +kernel
theorem D42_63 : decode (cod 42) 63 = .ok (.iload_n 2, 1) := by rw [cc_42]; decide +kernel
theorem D42_64 : decode (cod 42) 64 = .ok (.ireturn, 1) := by rw [cc_42]; decide +kernel
theorem D42_65 : decode (cod 42) 65 = .ok (.iinc 2 1, 3) := by rw [cc_42]; decide +kernel
theorem D42_68 : decode (cod 42) 68 = .ok (.goto (-27), 3) := by rw [cc_42]; decide +kernel
theorem D42_71 : decode (cod 42) 71 = .ok (.bipush 25, 2) := by rw [cc_42]; decide +kernel
theorem D42_73 : decode (cod 42) 73 = .ok (.ireturn, 1) := by rw [cc_42]; decide +kernel
theorem b42_0 {d : Nat} {i0 : Nat} {x1 : Int} {I L : Nat → Nat → Nat → Int} {t : Nat → Nat} : Res d 42 0 [vr 7 i0, vi x1, vx] [] (mk I L t) = if I 7 i0 4 ≤ I 7 i0 5 then Res d 42 39 [vr 7 i0, vi x1, vx] [] (mk I L t) else Res d 42 11 [vr 7 i0, vi x1, vx] [] (mk I L t) :=
  Eq.trans (e_aload_n D42_0 rfl rfl) <| Eq.trans (e_getI D42_1 rfl o_42 f_7_49 (sh_7 _) (by decide)) <| Eq.trans (e_aload_n D42_4 rfl rfl) <| Eq.trans (e_getI D42_5 rfl o_42 f_7_28 (sh_7 _) (by decide)) <| e_icge D42_8 rfl rfl
theorem b42_11 {d : Nat} {i0 : Nat} {x1 : Int} {I L : Nat → Nat → Nat → Int} {t : Nat → Nat} (g1 : 0 ≤ I 7 i0 5 ∧ I 7 i0 5 < 400) : Res (d + 1) 42 11 [vr 7 i0, vi x1, vx] [] (mk I L t) = (Cal d 44 [vi (I 34 i0 (I 7 i0 5).toNat)] (mk I L t)).bind fun v => Res (d + 1) 42 23 [vr 7 i0, vi x1, vx] (psh 44 v.1 []) v.2 :=
  Eq.trans (e_aload_n D42_11 rfl rfl) <| Eq.trans (e_getP (p := (34, i0)) D42_12 rfl o_42 f_7_9 (sh_7 _) (by decide) (pp_7_0 _ _)) <| Eq.trans (e_aload_n D42_15 rfl rfl) <| Eq.trans (e_getI D42_16 rfl o_42 f_7_49 (sh_7 _) (by decide)) <| Eq.trans (e_iald D42_19 rfl (al_34 _) g1) <| e_callS D42_20 rfl o_42 m_7_52 (by decide) rfl rfl
theorem b42_23 {d : Nat} {i0 : Nat} {x1 xs0 : Int} {I L : Nat → Nat → Nat → Int} {t : Nat → Nat} : Res d 42 23 [vr 7 i0, vi x1, vx] [vi xs0] (mk I L t) = if xs0 = 0 then Res d 42 39 [vr 7 i0, vi x1, vx] [] (mk I L t) else Res d 42 26 [vr 7 i0, vi x1, vx] [] (mk I L t) :=
  e_ifeq D42_23 rfl rfl
theorem b42_26 {d : Nat} {i0 : Nat} {x1 : Int} {I L : Nat → Nat → Nat → Int} {t : Nat → Nat} : Res d 42 26 [vr 7 i0, vi x1, vx] [] (mk I L t) = Res d 42 0 [vr 7 i0, vi x1, vx] [] (mk (up3 I 7 i0 5 (w32 ((I 7 i0 5) + 1))) L t) :=
  Eq.trans (e_aload_n D42_26 rfl rfl) <| Eq.trans (e_dup D42_27 rfl) <| Eq.trans (e_getI D42_28 rfl o_42 f_7_49 (sh_7 _) (by decide)) <| Eq.trans (e_iconst (x := 1) D42_31 rfl rfl) <| Eq.trans (e_iadd D42_32 rfl) <| Eq.trans (e_putI D42_33 rfl o_42 f_7_49 (sh_7 _) rfl (by decide) (Or.inl (by decide))) <| e_goto (q1 := 0) D42_36 rfl
theorem b42_39 {d : Nat} {i0 : Nat} {x1 : Int} {I L : Nat → Nat → Nat → Int} {t : Nat → Nat} : Res d 42 39 [vr 7 i0, vi x1, vx] [] (mk I L t) = Res d 42 41 [vr 7 i0, vi x1, vi 0] [] (mk I L t) :=
  Eq.trans (e_iconst (x := 0) D42_39 rfl rfl) <| e_istore_n (ls1 := [vr 7 i0, vi x1, vi 0]) D42_40 rfl (show 2 < 3 by decide) rfl
theorem b42_41 {d : Nat} {i0 : Nat} {x1 x2 : Int} {I L : Nat → Nat → Nat → Int} {t : Nat → Nat} : Res d 42 41 [vr 7 i0, vi x1, vi x2] [] (mk I L t) = if 23 ≤ x2 then Res d 42 71 [vr 7 i0, vi x1, vi x2] [] (mk I L t) else Res d 42 47 [vr 7 i0, vi x1, vi x2] [] (mk I L t) :=
  Eq.trans (e_iload_n D42_41 rfl rfl) <| Eq.trans (e_bipush (x := 23) D42_42 rfl rfl) <| e_icge D42_44 rfl rfl
theorem b42_47 {d : Nat} {i0 : Nat} {x1 x2 : Int} {I L : Nat → Nat → Nat → Int} {t : Nat → Nat} : Res (d + 1) 42 47 [vr 7 i0, vi x1, vi x2] [] (mk I L t) = (Cal d 47 [vi x2] (mk I L t)).bind fun v => Res (d + 1) 42 52 [vr 7 i0, vi x1, vi x2] (psh 47 v.1 [vr 7 i0]) v.2 :=
  Eq.trans (e_aload_n D42_47 rfl rfl) <| Eq.trans (e_iload_n D42_48 rfl rfl) <| e_callS D42_49 rfl o_42 m_7_76 (by decide) rfl rfl
theorem b42_52 {d : Nat} {i0 is1 is0 : Nat} {x1 x2 : Int} {I L : Nat → Nat → Nat → Int} {t : Nat → Nat} : Res (d + 1) 42 52 [vr 7 i0, vi x1, vi x2] [vr 117 is1, vr 7 is0] (mk I L t) = (Cal d 43 [vr 7 is0, vr 117 is1, vi x1, vi (I 7 i0 5)] (mk I L t)).bind fun v => Res (d + 1) 42 60 [vr 7 i0, vi x1, vi x2] (psh 43 v.1 []) v.2 :=
  Eq.trans (e_iload_n D42_52 rfl rfl) <| Eq.trans (e_aload_n D42_53 rfl rfl) <| Eq.trans (e_getI D42_54 rfl o_42 f_7_49 (sh_7 _) (by decide)) <| e_callV D42_57 rfl o_42 m_7_80 (by decide) rfl rfl
theorem b42_60 {d : Nat} {i0 : Nat} {x1 x2 xs0 : Int} {I L : Nat → Nat → Nat → Int} {t : Nat → Nat} : Res d 42 60 [vr 7 i0, vi x1, vi x2] [vi xs0] (mk I L t) = if xs0 = 0 then Res d 42 65 [vr 7 i0, vi x1, vi x2] [] (mk I L t) else Res d 42 63 [vr 7 i0, vi x1, vi x2] [] (mk I L t) :=
  e_ifeq D42_60 rfl rfl
theorem b42_63 {d : Nat} {i0 : Nat} {x1 x2 : Int} {I L : Nat → Nat → Nat → Int} {t : Nat → Nat} : Res d 42 63 [vr 7 i0, vi x1, vi x2] [] (mk I L t) = some (vi x2, (mk I L t)) :=
  Eq.trans (e_iload_n D42_63 rfl rfl) <| e_iret D42_64 rfl
theorem b42_65 {d : Nat} {i0 : Nat} {x1 x2 : Int} {I L : Nat → Nat → Nat → Int} {t : Nat → Nat} : Res d 42 65 [vr 7 i0, vi x1, vi x2] [] (mk I L t) = Res d 42 41 [vr 7 i0, vi x1, vi (w32 (x2 + 1))] [] (mk I L t) :=
  Eq.trans (e_iinc (ls1 := [vr 7 i0, vi x1, vi (w32 (x2 + 1))]) D42_65 rfl rfl rfl) <| e_goto (q1 := 41) D42_68 rfl
theorem b42_71 {d : Nat} {i0 : Nat} {x1 x2 : Int} {I L : Nat → Nat → Nat → Int} {t : Nat → Nat} : Res d 42 71 [vr 7 i0, vi x1, vi x2] [] (mk I L t) = some (vi 25, (mk I L t)) :=
  Eq.trans (e_bipush (x := 25) D42_71 rfl rfl) <| e_iret D42_73 rfl
/-! Tape_stands -/
theorem cc_43 : cod 43 = cX7_stands := rfl
theorem D43_0 : decode (cod 43) 0 = .ok (.aload_n 1, 1) := by rw [cc_43]; decide +kernel
theorem D43_1 : decode (cod 43) 1 = .ok (.invokevirtual 84, 3) := by rw [cc_43]; decide +kernel
theorem D43_4 : decode (cod 43) 4 = .ok (.iload_n 3, 1) := by rw [cc_43]; decide +kernel
theorem D43_5 : decode (cod 43) 5 = .ok (.iload_n 2, 1) := by rw [cc_43]; decide +kernel
theorem D43_6 : decode (cod 43) 6 = .ok (.isub, 1) := by rw [cc_43]; decide +kernel
theorem D43_7 : decode (cod 43) 7 = .ok (.if_icmp .eq 5, 3) := by rw [cc_43]; decide +kernel
theorem D43_10 : decode (cod 43) 10 = .ok (.iconst 0, 1) := by rw [cc_43]; decide +kernel
theorem D43_11 : decode (cod 43) 11 = .ok (.ireturn, 1) := by rw [cc_43]; decide +kernel
theorem D43_12 : decode (cod 43) 12 = .ok (.iconst 0, 1) := by rw [cc_43]; decide +kernel
theorem D43_13 : decode (cod 43) 13 = .ok (.istore 4, 2) := by rw [cc_43]; decide +kernel
theorem D43_15 : decode (cod 43) 15 = .ok (.iload 4, 2) := by rw [cc_43]; decide +kernel
theorem D43_17 : decode (cod 43) 17 = .ok (.aload_n 1, 1) := by rw [cc_43]; decide +kernel
theorem D43_18 : decode (cod 43) 18 = .ok (.invokevirtual 84, 3) := by rw [cc_43]; decide +kernel
theorem D43_21 : decode (cod 43) 21 = .ok (.if_icmp .ge 29, 3) := by rw [cc_43]; decide +kernel
theorem D43_24 : decode (cod 43) 24 = .ok (.aload_n 1, 1) := by rw [cc_43]; decide +kernel
theorem D43_25 : decode (cod 43) 25 = .ok (.iload 4, 2) := by rw [cc_43]; decide +kernel
theorem D43_27 : decode (cod 43) 27 = .ok (.invokevirtual 90, 3) := by rw [cc_43]; decide +kernel
theorem D43_30 : decode (cod 43) 30 = .ok (.aload_n 0, 1) := by rw [cc_43]; decide +kernel
theorem D43_31 : decode (cod 43) 31 = .ok (.getfield 9, 3) := by rw [cc_43]; decide +kernel
theorem D43_34 : decode (cod 43) 34 = .ok (.iload_n 2, 1) := by rw [cc_43]; decide +kernel
theorem D43_35 : decode (cod 43) 35 = .ok (.iload 4, 2) := by rw [cc_43]; decide +kernel
theorem D43_37 : decode (cod 43) 37 = .ok (.iadd, 1) := by rw [cc_43]; decide +kernel
theorem D43_38 : decode (cod 43) 38 = .ok (.iaload, 1) := by rw [cc_43]; decide +kernel
theorem D43_39 : decode (cod 43) 39 = .ok (.if_icmp .eq 5, 3) := by rw [cc_43]; decide +kernel
theorem D43_42 : decode (cod 43) 42 = .ok (.iconst 0, 1) := by rw [cc_43]; decide +kernel
theorem D43_43 : decode (cod 43) 43 = .ok (.ireturn, 1) := by rw [cc_43]; decide +kernel
theorem D43_44 : decode (cod 43) 44 = .ok (.iinc 4 1, 3) := by rw [cc_43]; decide +kernel
theorem D43_47 : decode (cod 43) 47 = .ok (.goto (-32), 3) := by rw [cc_43]; decide +kernel
theorem D43_50 : decode (cod 43) 50 = .ok (.iconst 1, 1) := by rw [cc_43]; decide +kernel
theorem D43_51 : decode (cod 43) 51 = .ok (.ireturn, 1) := by rw [cc_43]; decide +kernel
theorem b43_0 {d : Nat} {i0 i1 : Nat} {x2 x3 : Int} {I L : Nat → Nat → Nat → Int} {t : Nat → Nat} (g1 : i1 < 24) : Res (d + 7) 43 0 [vr 7 i0, vr 117 i1, vi x2, vi x3, vx] [] (mk I L t) = if slen i1 = w32 (x3 - x2) then Res (d + 7) 43 12 [vr 7 i0, vr 117 i1, vi x2, vi x3, vx] [] (mk I L t) else Res (d + 7) 43 10 [vr 7 i0, vr 117 i1, vi x2, vi x3, vx] [] (mk I L t) :=
  Eq.trans (e_aload_n D43_0 rfl rfl) <| Eq.trans (e_slen (by omega) D43_1 rfl o_43 m_7_84 g1 (by simp [cw])) <| Eq.trans (e_iload_n D43_4 rfl rfl) <| Eq.trans (e_iload_n D43_5 rfl rfl) <| Eq.trans (e_isub D43_6 rfl) <| e_iceq D43_7 rfl rfl
theorem b43_10 {d : Nat} {i0 i1 : Nat} {x2 x3 : Int} {I L : Nat → Nat → Nat → Int} {t : Nat → Nat} : Res d 43 10 [vr 7 i0, vr 117 i1, vi x2, vi x3, vx] [] (mk I L t) = some (vi 0, (mk I L t)) :=
  Eq.trans (e_iconst (x := 0) D43_10 rfl rfl) <| e_iret D43_11 rfl
theorem b43_12 {d : Nat} {i0 i1 : Nat} {x2 x3 : Int} {I L : Nat → Nat → Nat → Int} {t : Nat → Nat} : Res d 43 12 [vr 7 i0, vr 117 i1, vi x2, vi x3, vx] [] (mk I L t) = Res d 43 15 [vr 7 i0, vr 117 i1, vi x2, vi x3, vi 0] [] (mk I L t) :=
  Eq.trans (e_iconst (x := 0) D43_12 rfl rfl) <| e_istore (ls1 := [vr 7 i0, vr 117 i1, vi x2, vi x3, vi 0]) D43_13 rfl (show 4 < 5 by decide) rfl
theorem b43_15 {d : Nat} {i0 i1 : Nat} {x2 x3 x4 : Int} {I L : Nat → Nat → Nat → Int} {t : Nat → Nat} (g1 : i1 < 24) : Res (d + 7) 43 15 [vr 7 i0, vr 117 i1, vi x2, vi x3, vi x4] [] (mk I L t) = if slen i1 ≤ x4 then Res (d + 7) 43 50 [vr 7 i0, vr 117 i1, vi x2, vi x3, vi x4] [] (mk I L t) else Res (d + 7) 43 24 [vr 7 i0, vr 117 i1, vi x2, vi x3, vi x4] [] (mk I L t) :=
  Eq.trans (e_iload D43_15 rfl rfl) <| Eq.trans (e_aload_n D43_17 rfl rfl) <| Eq.trans (e_slen (by omega) D43_18 rfl o_43 m_7_84 g1 (by simp [cw])) <| e_icge D43_21 rfl rfl
theorem b43_24 {d : Nat} {i0 i1 : Nat} {x2 x3 x4 : Int} {I L : Nat → Nat → Nat → Int} {t : Nat → Nat} (g1 : i1 < 24) (g2 : 0 ≤ x4 ∧ x4 < slen i1) (g3 : 0 ≤ w32 (x2 + x4) ∧ w32 (x2 + x4) < 400) : Res (d + 7) 43 24 [vr 7 i0, vr 117 i1, vi x2, vi x3, vi x4] [] (mk I L t) = if sch i1 x4.toNat = I 34 i0 (w32 (x2 + x4)).toNat then Res (d + 7) 43 44 [vr 7 i0, vr 117 i1, vi x2, vi x3, vi x4] [] (mk I L t) else Res (d + 7) 43 42 [vr 7 i0, vr 117 i1, vi x2, vi x3, vi x4] [] (mk I L t) :=
  Eq.trans (e_aload_n D43_24 rfl rfl) <| Eq.trans (e_iload D43_25 rfl rfl) <| Eq.trans (e_sch (by omega) D43_27 rfl o_43 m_7_90 g1 g2 (by simp [cw])) <| Eq.trans (e_aload_n D43_30 rfl rfl) <| Eq.trans (e_getP (p := (34, i0)) D43_31 rfl o_43 f_7_9 (sh_7 _) (by decide) (pp_7_0 _ _)) <| Eq.trans (e_iload_n D43_34 rfl rfl) <| Eq.trans (e_iload D43_35 rfl rfl) <| Eq.trans (e_iadd D43_37 rfl) <| Eq.trans (e_iald D43_38 rfl (al_34 _) g3) <| e_iceq D43_39 rfl rfl
theorem b43_42 {d : Nat} {i0 i1 : Nat} {x2 x3 x4 : Int} {I L : Nat → Nat → Nat → Int} {t : Nat → Nat} : Res d 43 42 [vr 7 i0, vr 117 i1, vi x2, vi x3, vi x4] [] (mk I L t) = some (vi 0, (mk I L t)) :=
  Eq.trans (e_iconst (x := 0) D43_42 rfl rfl) <| e_iret D43_43 rfl
theorem b43_44 {d : Nat} {i0 i1 : Nat} {x2 x3 x4 : Int} {I L : Nat → Nat → Nat → Int} {t : Nat → Nat} : Res d 43 44 [vr 7 i0, vr 117 i1, vi x2, vi x3, vi x4] [] (mk I L t) = Res d 43 15 [vr 7 i0, vr 117 i1, vi x2, vi x3, vi (w32 (x4 + 1))] [] (mk I L t) :=
  Eq.trans (e_iinc (ls1 := [vr 7 i0, vr 117 i1, vi x2, vi x3, vi (w32 (x4 + 1))]) D43_44 rfl rfl rfl) <| e_goto (q1 := 15) D43_47 rfl
theorem b43_50 {d : Nat} {i0 i1 : Nat} {x2 x3 x4 : Int} {I L : Nat → Nat → Nat → Int} {t : Nat → Nat} : Res d 43 50 [vr 7 i0, vr 117 i1, vi x2, vi x3, vi x4] [] (mk I L t) = some (vi 1, (mk I L t)) :=
  Eq.trans (e_iconst (x := 1) D43_50 rfl rfl) <| e_iret D43_51 rfl
/-! Tape_isLetter -/
theorem cc_44 : cod 44 = cX7_isLetter := rfl
theorem D44_0 : decode (cod 44) 0 = .ok (.iload_n 0, 1) := by rw [cc_44]; decide +kernel
theorem D44_1 : decode (cod 44) 1 = .ok (.bipush 97, 2) := by rw [cc_44]; decide +kernel
theorem D44_3 : decode (cod 44) 3 = .ok (.bipush 122, 2) := by rw [cc_44]; decide +kernel
theorem D44_5 : decode (cod 44) 5 = .ok (.invokestatic 94, 3) := by rw [cc_44]; decide +kernel
theorem D44_8 : decode (cod 44) 8 = .ok (.ifCond .ne 14, 3) := by rw [cc_44]; decide +kernel
theorem D44_11 : decode (cod 44) 11 = .ok (.iload_n 0, 1) := by rw [cc_44]; decide +kernel
theorem D44_12 : decode (cod 44) 12 = .ok (.bipush 65, 2) := by rw [cc_44]; decide +kernel
theorem D44_14 : decode (cod 44) 14 = .ok (.bipush 90, 2) := by rw [cc_44]; decide +kernel
theorem D44_16 : decode (cod 44) 16 = .ok (.invokestatic 94, 3) := by rw [cc_44]; decide +kernel
theorem D44_19 : decode (cod 44) 19 = .ok (.ifCond .eq 7, 3) := by rw [cc_44]; decide +kernel
theorem D44_22 : decode (cod 44) 22 = .ok (.iconst 1, 1) := by rw [cc_44]; decide +kernel
theorem D44_23 : decode (cod 44) 23 = .ok (.goto 4, 3) := by rw [cc_44]; decide +kernel
theorem D44_26 : decode (cod 44) 26 = .ok (.iconst 0, 1) := by rw [cc_44]; decide +kernel
theorem D44_27 : decode (cod 44) 27 = .ok (.ireturn, 1) := by rw [cc_44]; decide +kernel
theorem b44_0 {d : Nat} {x0 : Int} {I L : Nat → Nat → Nat → Int} {t : Nat → Nat} : Res (d + 1) 44 0 [vi x0] [] (mk I L t) = (Cal d 102 [vi x0, vi 97, vi 122] (mk I L t)).bind fun v => Res (d + 1) 44 8 [vi x0] (psh 102 v.1 []) v.2 :=
  Eq.trans (e_iload_n D44_0 rfl rfl) <| Eq.trans (e_bipush (x := 97) D44_1 rfl rfl) <| Eq.trans (e_bipush (x := 122) D44_3 rfl rfl) <| e_callS D44_5 rfl o_44 m_7_94 (by decide) rfl rfl
theorem b44_8 {d : Nat} {x0 xs0 : Int} {I L : Nat → Nat → Nat → Int} {t : Nat → Nat} : Res d 44 8 [vi x0] [vi xs0] (mk I L t) = if ¬ xs0 = 0 then Res d 44 22 [vi x0] [] (mk I L t) else Res d 44 11 [vi x0] [] (mk I L t) :=
  e_ifne D44_8 rfl rfl
theorem b44_11 {d : Nat} {x0 : Int} {I L : Nat → Nat → Nat → Int} {t : Nat → Nat} : Res (d + 1) 44 11 [vi x0] [] (mk I L t) = (Cal d 102 [vi x0, vi 65, vi 90] (mk I L t)).bind fun v => Res (d + 1) 44 19 [vi x0] (psh 102 v.1 []) v.2 :=
  Eq.trans (e_iload_n D44_11 rfl rfl) <| Eq.trans (e_bipush (x := 65) D44_12 rfl rfl) <| Eq.trans (e_bipush (x := 90) D44_14 rfl rfl) <| e_callS D44_16 rfl o_44 m_7_94 (by decide) rfl rfl
theorem b44_19 {d : Nat} {x0 xs0 : Int} {I L : Nat → Nat → Nat → Int} {t : Nat → Nat} : Res d 44 19 [vi x0] [vi xs0] (mk I L t) = if xs0 = 0 then Res d 44 26 [vi x0] [] (mk I L t) else Res d 44 22 [vi x0] [] (mk I L t) :=
  e_ifeq D44_19 rfl rfl
theorem b44_22 {d : Nat} {x0 : Int} {I L : Nat → Nat → Nat → Int} {t : Nat → Nat} : Res d 44 22 [vi x0] [] (mk I L t) = Res d 44 27 [vi x0] [vi 1] (mk I L t) :=
  Eq.trans (e_iconst (x := 1) D44_22 rfl rfl) <| e_goto (q1 := 27) D44_23 rfl
theorem b44_26 {d : Nat} {x0 : Int} {I L : Nat → Nat → Nat → Int} {t : Nat → Nat} : Res d 44 26 [vi x0] [] (mk I L t) = Res d 44 27 [vi x0] [vi 0] (mk I L t) :=
  e_iconst (x := 0) D44_26 rfl rfl
theorem b44_27 {d : Nat} {x0 xs0 : Int} {I L : Nat → Nat → Nat → Int} {t : Nat → Nat} (g1 : xs0 = 0 ∨ xs0 = 1) : Res d 44 27 [vi x0] [vi xs0] (mk I L t) = some (vi xs0, (mk I L t)) :=
  e_iret D44_27 (nrz rfl g1)
/-! Tape_isDigit -/
theorem cc_45 : cod 45 = cX7_isDigit := rfl
theorem D45_0 : decode (cod 45) 0 = .ok (.iload_n 0, 1) := by rw [cc_45]; decide +kernel
theorem D45_1 : decode (cod 45) 1 = .ok (.bipush 48, 2) := by rw [cc_45]; decide +kernel
theorem D45_3 : decode (cod 45) 3 = .ok (.bipush 57, 2) := by rw [cc_45]; decide +kernel
theorem D45_5 : decode (cod 45) 5 = .ok (.invokestatic 94, 3) := by rw [cc_45]; decide +kernel
theorem D45_8 : decode (cod 45) 8 = .ok (.ireturn, 1) := by rw [cc_45]; decide +kernel
theorem b45_0 {d : Nat} {x0 : Int} {I L : Nat → Nat → Nat → Int} {t : Nat → Nat} : Res (d + 1) 45 0 [vi x0] [] (mk I L t) = (Cal d 102 [vi x0, vi 48, vi 57] (mk I L t)).bind fun v => Res (d + 1) 45 8 [vi x0] (psh 102 v.1 []) v.2 :=
  Eq.trans (e_iload_n D45_0 rfl rfl) <| Eq.trans (e_bipush (x := 48) D45_1 rfl rfl) <| Eq.trans (e_bipush (x := 57) D45_3 rfl rfl) <| e_callS D45_5 rfl o_45 m_7_94 (by decide) rfl rfl
theorem b45_8 {d : Nat} {x0 xs0 : Int} {I L : Nat → Nat → Nat → Int} {t : Nat → Nat} (g1 : xs0 = 0 ∨ xs0 = 1) : Res d 45 8 [vi x0] [vi xs0] (mk I L t) = some (vi xs0, (mk I L t)) :=
  e_iret D45_8 (nrz rfl g1)
/-! Tape_isSign -/
theorem cc_46 : cod 46 = cX7_isSign := rfl
theorem D46_0 : decode (cod 46) 0 = .ok (.iload_n 0, 1) := by rw [cc_46]; decide +kernel
theorem D46_1 : decode (cod 46) 1 = .ok (.tableswitch 109 40 62 #[107, 107, 107, 107, 109, 107, 109, 107, 109, 109, 109, 109, 109, 109, 109, 109, 109, 109, 109, 107, 107, 107, 107], 107) := by rw [cc_46]; decide +kernel
theorem D46_108 : decode (cod 46) 108 = .ok (.iconst 1, 1) := by rw [cc_46]; decide +kernel
theorem D46_109 : decode (cod 46) 109 = .ok (.ireturn, 1) := by rw [cc_46]; decide +kernel
theorem D46_110 : decode (cod 46) 110 = .ok (.iconst 0, 1) := by rw [cc_46]; decide +kernel
theorem D46_111 : decode (cod 46) 111 = .ok (.ireturn, 1) := by rw [cc_46]; decide +kernel
theorem b46_0_d {d : Nat} {x0 : Int} {I L : Nat → Nat → Nat → Int} {t : Nat → Nat} (gx : x0 < 40 ∨ 62 < x0) : Res d 46 0 [vi x0] [] (mk I L t) = Res d 46 110 [vi x0] [] (mk I L t) :=
  Eq.trans (e_iload_n D46_0 rfl rfl) <| e_tswD (q1 := 110) D46_1 gx rfl
theorem b46_0_c40 {d : Nat} {x0 : Int} {I L : Nat → Nat → Nat → Int} {t : Nat → Nat} (gx : x0 = 40) : Res d 46 0 [vi x0] [] (mk I L t) = Res d 46 108 [vi x0] [] (mk I L t) :=
  Eq.trans (e_iload_n D46_0 rfl rfl) <| e_tswK (k := 0) (q1 := 108) D46_1 gx (by decide) rfl rfl
theorem b46_0_c41 {d : Nat} {x0 : Int} {I L : Nat → Nat → Nat → Int} {t : Nat → Nat} (gx : x0 = 41) : Res d 46 0 [vi x0] [] (mk I L t) = Res d 46 108 [vi x0] [] (mk I L t) :=
  Eq.trans (e_iload_n D46_0 rfl rfl) <| e_tswK (k := 1) (q1 := 108) D46_1 gx (by decide) rfl rfl
theorem b46_0_c42 {d : Nat} {x0 : Int} {I L : Nat → Nat → Nat → Int} {t : Nat → Nat} (gx : x0 = 42) : Res d 46 0 [vi x0] [] (mk I L t) = Res d 46 108 [vi x0] [] (mk I L t) :=
  Eq.trans (e_iload_n D46_0 rfl rfl) <| e_tswK (k := 2) (q1 := 108) D46_1 gx (by decide) rfl rfl
theorem b46_0_c43 {d : Nat} {x0 : Int} {I L : Nat → Nat → Nat → Int} {t : Nat → Nat} (gx : x0 = 43) : Res d 46 0 [vi x0] [] (mk I L t) = Res d 46 108 [vi x0] [] (mk I L t) :=
  Eq.trans (e_iload_n D46_0 rfl rfl) <| e_tswK (k := 3) (q1 := 108) D46_1 gx (by decide) rfl rfl
theorem b46_0_c44 {d : Nat} {x0 : Int} {I L : Nat → Nat → Nat → Int} {t : Nat → Nat} (gx : x0 = 44) : Res d 46 0 [vi x0] [] (mk I L t) = Res d 46 110 [vi x0] [] (mk I L t) :=
  Eq.trans (e_iload_n D46_0 rfl rfl) <| e_tswK (k := 4) (q1 := 110) D46_1 gx (by decide) rfl rfl
theorem b46_0_c45 {d : Nat} {x0 : Int} {I L : Nat → Nat → Nat → Int} {t : Nat → Nat} (gx : x0 = 45) : Res d 46 0 [vi x0] [] (mk I L t) = Res d 46 108 [vi x0] [] (mk I L t) :=
  Eq.trans (e_iload_n D46_0 rfl rfl) <| e_tswK (k := 5) (q1 := 108) D46_1 gx (by decide) rfl rfl
theorem b46_0_c46 {d : Nat} {x0 : Int} {I L : Nat → Nat → Nat → Int} {t : Nat → Nat} (gx : x0 = 46) : Res d 46 0 [vi x0] [] (mk I L t) = Res d 46 110 [vi x0] [] (mk I L t) :=
  Eq.trans (e_iload_n D46_0 rfl rfl) <| e_tswK (k := 6) (q1 := 110) D46_1 gx (by decide) rfl rfl
theorem b46_0_c47 {d : Nat} {x0 : Int} {I L : Nat → Nat → Nat → Int} {t : Nat → Nat} (gx : x0 = 47) : Res d 46 0 [vi x0] [] (mk I L t) = Res d 46 108 [vi x0] [] (mk I L t) :=
  Eq.trans (e_iload_n D46_0 rfl rfl) <| e_tswK (k := 7) (q1 := 108) D46_1 gx (by decide) rfl rfl
theorem b46_0_c48 {d : Nat} {x0 : Int} {I L : Nat → Nat → Nat → Int} {t : Nat → Nat} (gx : x0 = 48) : Res d 46 0 [vi x0] [] (mk I L t) = Res d 46 110 [vi x0] [] (mk I L t) :=
  Eq.trans (e_iload_n D46_0 rfl rfl) <| e_tswK (k := 8) (q1 := 110) D46_1 gx (by decide) rfl rfl
theorem b46_0_c49 {d : Nat} {x0 : Int} {I L : Nat → Nat → Nat → Int} {t : Nat → Nat} (gx : x0 = 49) : Res d 46 0 [vi x0] [] (mk I L t) = Res d 46 110 [vi x0] [] (mk I L t) :=
  Eq.trans (e_iload_n D46_0 rfl rfl) <| e_tswK (k := 9) (q1 := 110) D46_1 gx (by decide) rfl rfl
theorem b46_0_c50 {d : Nat} {x0 : Int} {I L : Nat → Nat → Nat → Int} {t : Nat → Nat} (gx : x0 = 50) : Res d 46 0 [vi x0] [] (mk I L t) = Res d 46 110 [vi x0] [] (mk I L t) :=
  Eq.trans (e_iload_n D46_0 rfl rfl) <| e_tswK (k := 10) (q1 := 110) D46_1 gx (by decide) rfl rfl
theorem b46_0_c51 {d : Nat} {x0 : Int} {I L : Nat → Nat → Nat → Int} {t : Nat → Nat} (gx : x0 = 51) : Res d 46 0 [vi x0] [] (mk I L t) = Res d 46 110 [vi x0] [] (mk I L t) :=
  Eq.trans (e_iload_n D46_0 rfl rfl) <| e_tswK (k := 11) (q1 := 110) D46_1 gx (by decide) rfl rfl
theorem b46_0_c52 {d : Nat} {x0 : Int} {I L : Nat → Nat → Nat → Int} {t : Nat → Nat} (gx : x0 = 52) : Res d 46 0 [vi x0] [] (mk I L t) = Res d 46 110 [vi x0] [] (mk I L t) :=
  Eq.trans (e_iload_n D46_0 rfl rfl) <| e_tswK (k := 12) (q1 := 110) D46_1 gx (by decide) rfl rfl
theorem b46_0_c53 {d : Nat} {x0 : Int} {I L : Nat → Nat → Nat → Int} {t : Nat → Nat} (gx : x0 = 53) : Res d 46 0 [vi x0] [] (mk I L t) = Res d 46 110 [vi x0] [] (mk I L t) :=
  Eq.trans (e_iload_n D46_0 rfl rfl) <| e_tswK (k := 13) (q1 := 110) D46_1 gx (by decide) rfl rfl
theorem b46_0_c54 {d : Nat} {x0 : Int} {I L : Nat → Nat → Nat → Int} {t : Nat → Nat} (gx : x0 = 54) : Res d 46 0 [vi x0] [] (mk I L t) = Res d 46 110 [vi x0] [] (mk I L t) :=
  Eq.trans (e_iload_n D46_0 rfl rfl) <| e_tswK (k := 14) (q1 := 110) D46_1 gx (by decide) rfl rfl
theorem b46_0_c55 {d : Nat} {x0 : Int} {I L : Nat → Nat → Nat → Int} {t : Nat → Nat} (gx : x0 = 55) : Res d 46 0 [vi x0] [] (mk I L t) = Res d 46 110 [vi x0] [] (mk I L t) :=
  Eq.trans (e_iload_n D46_0 rfl rfl) <| e_tswK (k := 15) (q1 := 110) D46_1 gx (by decide) rfl rfl
theorem b46_0_c56 {d : Nat} {x0 : Int} {I L : Nat → Nat → Nat → Int} {t : Nat → Nat} (gx : x0 = 56) : Res d 46 0 [vi x0] [] (mk I L t) = Res d 46 110 [vi x0] [] (mk I L t) :=
  Eq.trans (e_iload_n D46_0 rfl rfl) <| e_tswK (k := 16) (q1 := 110) D46_1 gx (by decide) rfl rfl
theorem b46_0_c57 {d : Nat} {x0 : Int} {I L : Nat → Nat → Nat → Int} {t : Nat → Nat} (gx : x0 = 57) : Res d 46 0 [vi x0] [] (mk I L t) = Res d 46 110 [vi x0] [] (mk I L t) :=
  Eq.trans (e_iload_n D46_0 rfl rfl) <| e_tswK (k := 17) (q1 := 110) D46_1 gx (by decide) rfl rfl
theorem b46_0_c58 {d : Nat} {x0 : Int} {I L : Nat → Nat → Nat → Int} {t : Nat → Nat} (gx : x0 = 58) : Res d 46 0 [vi x0] [] (mk I L t) = Res d 46 110 [vi x0] [] (mk I L t) :=
  Eq.trans (e_iload_n D46_0 rfl rfl) <| e_tswK (k := 18) (q1 := 110) D46_1 gx (by decide) rfl rfl
theorem b46_0_c59 {d : Nat} {x0 : Int} {I L : Nat → Nat → Nat → Int} {t : Nat → Nat} (gx : x0 = 59) : Res d 46 0 [vi x0] [] (mk I L t) = Res d 46 108 [vi x0] [] (mk I L t) :=
  Eq.trans (e_iload_n D46_0 rfl rfl) <| e_tswK (k := 19) (q1 := 108) D46_1 gx (by decide) rfl rfl
theorem b46_0_c60 {d : Nat} {x0 : Int} {I L : Nat → Nat → Nat → Int} {t : Nat → Nat} (gx : x0 = 60) : Res d 46 0 [vi x0] [] (mk I L t) = Res d 46 108 [vi x0] [] (mk I L t) :=
  Eq.trans (e_iload_n D46_0 rfl rfl) <| e_tswK (k := 20) (q1 := 108) D46_1 gx (by decide) rfl rfl
theorem b46_0_c61 {d : Nat} {x0 : Int} {I L : Nat → Nat → Nat → Int} {t : Nat → Nat} (gx : x0 = 61) : Res d 46 0 [vi x0] [] (mk I L t) = Res d 46 108 [vi x0] [] (mk I L t) :=
  Eq.trans (e_iload_n D46_0 rfl rfl) <| e_tswK (k := 21) (q1 := 108) D46_1 gx (by decide) rfl rfl
theorem b46_0_c62 {d : Nat} {x0 : Int} {I L : Nat → Nat → Nat → Int} {t : Nat → Nat} (gx : x0 = 62) : Res d 46 0 [vi x0] [] (mk I L t) = Res d 46 108 [vi x0] [] (mk I L t) :=
  Eq.trans (e_iload_n D46_0 rfl rfl) <| e_tswK (k := 22) (q1 := 108) D46_1 gx (by decide) rfl rfl
theorem b46_108 {d : Nat} {x0 : Int} {I L : Nat → Nat → Nat → Int} {t : Nat → Nat} : Res d 46 108 [vi x0] [] (mk I L t) = some (vi 1, (mk I L t)) :=
  Eq.trans (e_iconst (x := 1) D46_108 rfl rfl) <| e_iret D46_109 rfl
theorem b46_110 {d : Nat} {x0 : Int} {I L : Nat → Nat → Nat → Int} {t : Nat → Nat} : Res d 46 110 [vi x0] [] (mk I L t) = some (vi 0, (mk I L t)) :=
  Eq.trans (e_iconst (x := 0) D46_110 rfl rfl) <| e_iret D46_111 rfl
/-! Tape_spelling -/
theorem cc_47 : cod 47 = cX7_spelling := rfl
theorem D47_0 : decode (cod 47) 0 = .ok (.iload_n 0, 1) := by rw [cc_47]; decide +kernel
theorem D47_1 : decode (cod 47) 1 = .ok (.tableswitch 176 0 22 #[107, 110, 113, 116, 119, 122, 125, 128, 131, 134, 137, 140, 143, 146, 149, 152, 155, 158, 161, 164, 167, 170, 173], 107) := by rw [cc_47]; decide +kernel
theorem D47_108 : decode (cod 47) 108 = .ok (.ldc 98, 2) := by rw [cc_47]; decide +kernel
theorem D47_110 : decode (cod 47) 110 = .ok (.areturn, 1) := by rw [cc_47]; decide +kernel
theorem D47_111 : decode (cod 47) 111 = .ok (.ldc 100, 2) := by rw [cc_47]; decide +kernel
theorem D47_113 : decode (cod 47) 113 = .ok (.areturn, 1) := by rw [cc_47]; decide +kernel
theorem D47_114 : decode (cod 47) 114 = .ok (.ldc 102, 2) := by rw [cc_47]; decide +kernel
theorem D47_116 : decode (cod 47) 116 = .ok (.areturn, 1) := by rw [cc_47]; decide +kernel
theorem D47_117 : decode (cod 47) 117 = .ok (.ldc 104, 2) := by rw [cc_47]; decide +kernel
theorem D47_119 : decode (cod 47) 119 = .ok (.areturn, 1) := by rw [cc_47]; decide +kernel
theorem D47_120 : decode (cod 47) 120 = .ok (.ldc 106, 2) := by rw [cc_47]; decide +kernel
theorem D47_122 : decode (cod 47) 122 = .ok (.areturn, 1) := by rw [cc_47]; decide +kernel
theorem D47_123 : decode (cod 47) 123 = .ok (.ldc 108, 2) := by rw [cc_47]; decide +kernel
theorem D47_125 : decode (cod 47) 125 = .ok (.areturn, 1) := by rw [cc_47]; decide +kernel
theorem D47_126 : decode (cod 47) 126 = .ok (.ldc 110, 2) := by rw [cc_47]; decide +kernel
theorem D47_128 : decode (cod 47) 128 = .ok (.areturn, 1) := by rw [cc_47]; decide +kernel
theorem D47_129 : decode (cod 47) 129 = .ok (.ldc 112, 2) := by rw [cc_47]; decide +kernel
theorem D47_131 : decode (cod 47) 131 = .ok (.areturn, 1) := by rw [cc_47]; decide +kernel
theorem D47_132 : decode (cod 47) 132 = .ok (.ldc 114, 2) := by rw [cc_47]; decide +kernel
theorem D47_134 : decode (cod 47) 134 = .ok (.areturn, 1) := by rw [cc_47]; decide +kernel
theorem D47_135 : decode (cod 47) 135 = .ok (.ldc 116, 2) := by rw [cc_47]; decide +kernel
theorem D47_137 : decode (cod 47) 137 = .ok (.areturn, 1) := by rw [cc_47]; decide +kernel
theorem D47_138 : decode (cod 47) 138 = .ok (.ldc 118, 2) := by rw [cc_47]; decide +kernel
theorem D47_140 : decode (cod 47) 140 = .ok (.areturn, 1) := by rw [cc_47]; decide +kernel
theorem D47_141 : decode (cod 47) 141 = .ok (.ldc 120, 2) := by rw [cc_47]; decide +kernel
theorem D47_143 : decode (cod 47) 143 = .ok (.areturn, 1) := by rw [cc_47]; decide +kernel
theorem D47_144 : decode (cod 47) 144 = .ok (.ldc 122, 2) := by rw [cc_47]; decide +kernel
theorem D47_146 : decode (cod 47) 146 = .ok (.areturn, 1) := by rw [cc_47]; decide +kernel
theorem D47_147 : decode (cod 47) 147 = .ok (.ldc 124, 2) := by rw [cc_47]; decide +kernel
theorem D47_149 : decode (cod 47) 149 = .ok (.areturn, 1) := by rw [cc_47]; decide +kernel
theorem D47_150 : decode (cod 47) 150 = .ok (.ldc 126, 2) := by rw [cc_47]; decide +kernel
theorem D47_152 : decode (cod 47) 152 = .ok (.areturn, 1) := by rw [cc_47]; decide +kernel
theorem D47_153 : decode (cod 47) 153 = .ok (.ldc 128, 2) := by rw [cc_47]; decide +kernel
theorem D47_155 : decode (cod 47) 155 = .ok (.areturn, 1) := by rw [cc_47]; decide +kernel
theorem D47_156 : decode (cod 47) 156 = .ok (.ldc 130, 2) := by rw [cc_47]; decide +kernel
theorem D47_158 : decode (cod 47) 158 = .ok (.areturn, 1) := by rw [cc_47]; decide +kernel
theorem D47_159 : decode (cod 47) 159 = .ok (.ldc 132, 2) := by rw [cc_47]; decide +kernel
theorem D47_161 : decode (cod 47) 161 = .ok (.areturn, 1) := by rw [cc_47]; decide +kernel
theorem D47_162 : decode (cod 47) 162 = .ok (.ldc 134, 2) := by rw [cc_47]; decide +kernel
theorem D47_164 : decode (cod 47) 164 = .ok (.areturn, 1) := by rw [cc_47]; decide +kernel
theorem D47_165 : decode (cod 47) 165 = .ok (.ldc 136, 2) := by rw [cc_47]; decide +kernel
theorem D47_167 : decode (cod 47) 167 = .ok (.areturn, 1) := by rw [cc_47]; decide +kernel
theorem D47_168 : decode (cod 47) 168 = .ok (.ldc 138, 2) := by rw [cc_47]; decide +kernel
theorem D47_170 : decode (cod 47) 170 = .ok (.areturn, 1) := by rw [cc_47]; decide +kernel
theorem D47_171 : decode (cod 47) 171 = .ok (.ldc 140, 2) := by rw [cc_47]; decide +kernel
theorem D47_173 : decode (cod 47) 173 = .ok (.areturn, 1) := by rw [cc_47]; decide +kernel
theorem D47_174 : decode (cod 47) 174 = .ok (.ldc 142, 2) := by rw [cc_47]; decide +kernel
theorem D47_176 : decode (cod 47) 176 = .ok (.areturn, 1) := by rw [cc_47]; decide +kernel
theorem D47_177 : decode (cod 47) 177 = .ok (.ldc 144, 2) := by rw [cc_47]; decide +kernel
theorem D47_179 : decode (cod 47) 179 = .ok (.areturn, 1) := by rw [cc_47]; decide +kernel
theorem b47_0_d {d : Nat} {x0 : Int} {I L : Nat → Nat → Nat → Int} {t : Nat → Nat} (gx : x0 < 0 ∨ 22 < x0) : Res d 47 0 [vi x0] [] (mk I L t) = Res d 47 177 [vi x0] [] (mk I L t) :=
  Eq.trans (e_iload_n D47_0 rfl rfl) <| e_tswD (q1 := 177) D47_1 gx rfl
theorem b47_0_c0 {d : Nat} {x0 : Int} {I L : Nat → Nat → Nat → Int} {t : Nat → Nat} (gx : x0 = 0) : Res d 47 0 [vi x0] [] (mk I L t) = Res d 47 108 [vi x0] [] (mk I L t) :=
  Eq.trans (e_iload_n D47_0 rfl rfl) <| e_tswK (k := 0) (q1 := 108) D47_1 gx (by decide) rfl rfl
theorem b47_0_c1 {d : Nat} {x0 : Int} {I L : Nat → Nat → Nat → Int} {t : Nat → Nat} (gx : x0 = 1) : Res d 47 0 [vi x0] [] (mk I L t) = Res d 47 111 [vi x0] [] (mk I L t) :=
  Eq.trans (e_iload_n D47_0 rfl rfl) <| e_tswK (k := 1) (q1 := 111) D47_1 gx (by decide) rfl rfl
theorem b47_0_c2 {d : Nat} {x0 : Int} {I L : Nat → Nat → Nat → Int} {t : Nat → Nat} (gx : x0 = 2) : Res d 47 0 [vi x0] [] (mk I L t) = Res d 47 114 [vi x0] [] (mk I L t) :=
  Eq.trans (e_iload_n D47_0 rfl rfl) <| e_tswK (k := 2) (q1 := 114) D47_1 gx (by decide) rfl rfl
theorem b47_0_c3 {d : Nat} {x0 : Int} {I L : Nat → Nat → Nat → Int} {t : Nat → Nat} (gx : x0 = 3) : Res d 47 0 [vi x0] [] (mk I L t) = Res d 47 117 [vi x0] [] (mk I L t) :=
  Eq.trans (e_iload_n D47_0 rfl rfl) <| e_tswK (k := 3) (q1 := 117) D47_1 gx (by decide) rfl rfl
theorem b47_0_c4 {d : Nat} {x0 : Int} {I L : Nat → Nat → Nat → Int} {t : Nat → Nat} (gx : x0 = 4) : Res d 47 0 [vi x0] [] (mk I L t) = Res d 47 120 [vi x0] [] (mk I L t) :=
  Eq.trans (e_iload_n D47_0 rfl rfl) <| e_tswK (k := 4) (q1 := 120) D47_1 gx (by decide) rfl rfl
theorem b47_0_c5 {d : Nat} {x0 : Int} {I L : Nat → Nat → Nat → Int} {t : Nat → Nat} (gx : x0 = 5) : Res d 47 0 [vi x0] [] (mk I L t) = Res d 47 123 [vi x0] [] (mk I L t) :=
  Eq.trans (e_iload_n D47_0 rfl rfl) <| e_tswK (k := 5) (q1 := 123) D47_1 gx (by decide) rfl rfl
theorem b47_0_c6 {d : Nat} {x0 : Int} {I L : Nat → Nat → Nat → Int} {t : Nat → Nat} (gx : x0 = 6) : Res d 47 0 [vi x0] [] (mk I L t) = Res d 47 126 [vi x0] [] (mk I L t) :=
  Eq.trans (e_iload_n D47_0 rfl rfl) <| e_tswK (k := 6) (q1 := 126) D47_1 gx (by decide) rfl rfl
theorem b47_0_c7 {d : Nat} {x0 : Int} {I L : Nat → Nat → Nat → Int} {t : Nat → Nat} (gx : x0 = 7) : Res d 47 0 [vi x0] [] (mk I L t) = Res d 47 129 [vi x0] [] (mk I L t) :=
  Eq.trans (e_iload_n D47_0 rfl rfl) <| e_tswK (k := 7) (q1 := 129) D47_1 gx (by decide) rfl rfl
theorem b47_0_c8 {d : Nat} {x0 : Int} {I L : Nat → Nat → Nat → Int} {t : Nat → Nat} (gx : x0 = 8) : Res d 47 0 [vi x0] [] (mk I L t) = Res d 47 132 [vi x0] [] (mk I L t) :=
  Eq.trans (e_iload_n D47_0 rfl rfl) <| e_tswK (k := 8) (q1 := 132) D47_1 gx (by decide) rfl rfl
theorem b47_0_c9 {d : Nat} {x0 : Int} {I L : Nat → Nat → Nat → Int} {t : Nat → Nat} (gx : x0 = 9) : Res d 47 0 [vi x0] [] (mk I L t) = Res d 47 135 [vi x0] [] (mk I L t) :=
  Eq.trans (e_iload_n D47_0 rfl rfl) <| e_tswK (k := 9) (q1 := 135) D47_1 gx (by decide) rfl rfl
theorem b47_0_c10 {d : Nat} {x0 : Int} {I L : Nat → Nat → Nat → Int} {t : Nat → Nat} (gx : x0 = 10) : Res d 47 0 [vi x0] [] (mk I L t) = Res d 47 138 [vi x0] [] (mk I L t) :=
  Eq.trans (e_iload_n D47_0 rfl rfl) <| e_tswK (k := 10) (q1 := 138) D47_1 gx (by decide) rfl rfl
theorem b47_0_c11 {d : Nat} {x0 : Int} {I L : Nat → Nat → Nat → Int} {t : Nat → Nat} (gx : x0 = 11) : Res d 47 0 [vi x0] [] (mk I L t) = Res d 47 141 [vi x0] [] (mk I L t) :=
  Eq.trans (e_iload_n D47_0 rfl rfl) <| e_tswK (k := 11) (q1 := 141) D47_1 gx (by decide) rfl rfl
theorem b47_0_c12 {d : Nat} {x0 : Int} {I L : Nat → Nat → Nat → Int} {t : Nat → Nat} (gx : x0 = 12) : Res d 47 0 [vi x0] [] (mk I L t) = Res d 47 144 [vi x0] [] (mk I L t) :=
  Eq.trans (e_iload_n D47_0 rfl rfl) <| e_tswK (k := 12) (q1 := 144) D47_1 gx (by decide) rfl rfl
theorem b47_0_c13 {d : Nat} {x0 : Int} {I L : Nat → Nat → Nat → Int} {t : Nat → Nat} (gx : x0 = 13) : Res d 47 0 [vi x0] [] (mk I L t) = Res d 47 147 [vi x0] [] (mk I L t) :=
  Eq.trans (e_iload_n D47_0 rfl rfl) <| e_tswK (k := 13) (q1 := 147) D47_1 gx (by decide) rfl rfl
theorem b47_0_c14 {d : Nat} {x0 : Int} {I L : Nat → Nat → Nat → Int} {t : Nat → Nat} (gx : x0 = 14) : Res d 47 0 [vi x0] [] (mk I L t) = Res d 47 150 [vi x0] [] (mk I L t) :=
  Eq.trans (e_iload_n D47_0 rfl rfl) <| e_tswK (k := 14) (q1 := 150) D47_1 gx (by decide) rfl rfl
theorem b47_0_c15 {d : Nat} {x0 : Int} {I L : Nat → Nat → Nat → Int} {t : Nat → Nat} (gx : x0 = 15) : Res d 47 0 [vi x0] [] (mk I L t) = Res d 47 153 [vi x0] [] (mk I L t) :=
  Eq.trans (e_iload_n D47_0 rfl rfl) <| e_tswK (k := 15) (q1 := 153) D47_1 gx (by decide) rfl rfl
theorem b47_0_c16 {d : Nat} {x0 : Int} {I L : Nat → Nat → Nat → Int} {t : Nat → Nat} (gx : x0 = 16) : Res d 47 0 [vi x0] [] (mk I L t) = Res d 47 156 [vi x0] [] (mk I L t) :=
  Eq.trans (e_iload_n D47_0 rfl rfl) <| e_tswK (k := 16) (q1 := 156) D47_1 gx (by decide) rfl rfl
theorem b47_0_c17 {d : Nat} {x0 : Int} {I L : Nat → Nat → Nat → Int} {t : Nat → Nat} (gx : x0 = 17) : Res d 47 0 [vi x0] [] (mk I L t) = Res d 47 159 [vi x0] [] (mk I L t) :=
  Eq.trans (e_iload_n D47_0 rfl rfl) <| e_tswK (k := 17) (q1 := 159) D47_1 gx (by decide) rfl rfl
theorem b47_0_c18 {d : Nat} {x0 : Int} {I L : Nat → Nat → Nat → Int} {t : Nat → Nat} (gx : x0 = 18) : Res d 47 0 [vi x0] [] (mk I L t) = Res d 47 162 [vi x0] [] (mk I L t) :=
  Eq.trans (e_iload_n D47_0 rfl rfl) <| e_tswK (k := 18) (q1 := 162) D47_1 gx (by decide) rfl rfl
theorem b47_0_c19 {d : Nat} {x0 : Int} {I L : Nat → Nat → Nat → Int} {t : Nat → Nat} (gx : x0 = 19) : Res d 47 0 [vi x0] [] (mk I L t) = Res d 47 165 [vi x0] [] (mk I L t) :=
  Eq.trans (e_iload_n D47_0 rfl rfl) <| e_tswK (k := 19) (q1 := 165) D47_1 gx (by decide) rfl rfl
theorem b47_0_c20 {d : Nat} {x0 : Int} {I L : Nat → Nat → Nat → Int} {t : Nat → Nat} (gx : x0 = 20) : Res d 47 0 [vi x0] [] (mk I L t) = Res d 47 168 [vi x0] [] (mk I L t) :=
  Eq.trans (e_iload_n D47_0 rfl rfl) <| e_tswK (k := 20) (q1 := 168) D47_1 gx (by decide) rfl rfl
theorem b47_0_c21 {d : Nat} {x0 : Int} {I L : Nat → Nat → Nat → Int} {t : Nat → Nat} (gx : x0 = 21) : Res d 47 0 [vi x0] [] (mk I L t) = Res d 47 171 [vi x0] [] (mk I L t) :=
  Eq.trans (e_iload_n D47_0 rfl rfl) <| e_tswK (k := 21) (q1 := 171) D47_1 gx (by decide) rfl rfl
theorem b47_0_c22 {d : Nat} {x0 : Int} {I L : Nat → Nat → Nat → Int} {t : Nat → Nat} (gx : x0 = 22) : Res d 47 0 [vi x0] [] (mk I L t) = Res d 47 174 [vi x0] [] (mk I L t) :=
  Eq.trans (e_iload_n D47_0 rfl rfl) <| e_tswK (k := 22) (q1 := 174) D47_1 gx (by decide) rfl rfl
theorem b47_108 {d : Nat} {x0 : Int} {I L : Nat → Nat → Nat → Int} {t : Nat → Nat} : Res d 47 108 [vi x0] [] (mk I L t) = some (vr 117 0, (mk I L t)) :=
  Eq.trans (e_ldcS (n := 0) D47_108 rfl o_47 rfl rfl) <| e_aretO D47_110 rfl
theorem b47_111 {d : Nat} {x0 : Int} {I L : Nat → Nat → Nat → Int} {t : Nat → Nat} : Res d 47 111 [vi x0] [] (mk I L t) = some (vr 117 1, (mk I L t)) :=
  Eq.trans (e_ldcS (n := 1) D47_111 rfl o_47 rfl rfl) <| e_aretO D47_113 rfl
theorem b47_114 {d : Nat} {x0 : Int} {I L : Nat → Nat → Nat → Int} {t : Nat → Nat} : Res d 47 114 [vi x0] [] (mk I L t) = some (vr 117 2, (mk I L t)) :=
  Eq.trans (e_ldcS (n := 2) D47_114 rfl o_47 rfl rfl) <| e_aretO D47_116 rfl
theorem b47_117 {d : Nat} {x0 : Int} {I L : Nat → Nat → Nat → Int} {t : Nat → Nat} : Res d 47 117 [vi x0] [] (mk I L t) = some (vr 117 3, (mk I L t)) :=
  Eq.trans (e_ldcS (n := 3) D47_117 rfl o_47 rfl rfl) <| e_aretO D47_119 rfl
theorem b47_120 {d : Nat} {x0 : Int} {I L : Nat → Nat → Nat → Int} {t : Nat → Nat} : Res d 47 120 [vi x0] [] (mk I L t) = some (vr 117 4, (mk I L t)) :=
  Eq.trans (e_ldcS (n := 4) D47_120 rfl o_47 rfl rfl) <| e_aretO D47_122 rfl
theorem b47_123 {d : Nat} {x0 : Int} {I L : Nat → Nat → Nat → Int} {t : Nat → Nat} : Res d 47 123 [vi x0] [] (mk I L t) = some (vr 117 5, (mk I L t)) :=
  Eq.trans (e_ldcS (n := 5) D47_123 rfl o_47 rfl rfl) <| e_aretO D47_125 rfl
theorem b47_126 {d : Nat} {x0 : Int} {I L : Nat → Nat → Nat → Int} {t : Nat → Nat} : Res d 47 126 [vi x0] [] (mk I L t) = some (vr 117 6, (mk I L t)) :=
  Eq.trans (e_ldcS (n := 6) D47_126 rfl o_47 rfl rfl) <| e_aretO D47_128 rfl
theorem b47_129 {d : Nat} {x0 : Int} {I L : Nat → Nat → Nat → Int} {t : Nat → Nat} : Res d 47 129 [vi x0] [] (mk I L t) = some (vr 117 7, (mk I L t)) :=
  Eq.trans (e_ldcS (n := 7) D47_129 rfl o_47 rfl rfl) <| e_aretO D47_131 rfl
theorem b47_132 {d : Nat} {x0 : Int} {I L : Nat → Nat → Nat → Int} {t : Nat → Nat} : Res d 47 132 [vi x0] [] (mk I L t) = some (vr 117 8, (mk I L t)) :=
  Eq.trans (e_ldcS (n := 8) D47_132 rfl o_47 rfl rfl) <| e_aretO D47_134 rfl
theorem b47_135 {d : Nat} {x0 : Int} {I L : Nat → Nat → Nat → Int} {t : Nat → Nat} : Res d 47 135 [vi x0] [] (mk I L t) = some (vr 117 9, (mk I L t)) :=
  Eq.trans (e_ldcS (n := 9) D47_135 rfl o_47 rfl rfl) <| e_aretO D47_137 rfl
theorem b47_138 {d : Nat} {x0 : Int} {I L : Nat → Nat → Nat → Int} {t : Nat → Nat} : Res d 47 138 [vi x0] [] (mk I L t) = some (vr 117 10, (mk I L t)) :=
  Eq.trans (e_ldcS (n := 10) D47_138 rfl o_47 rfl rfl) <| e_aretO D47_140 rfl
theorem b47_141 {d : Nat} {x0 : Int} {I L : Nat → Nat → Nat → Int} {t : Nat → Nat} : Res d 47 141 [vi x0] [] (mk I L t) = some (vr 117 11, (mk I L t)) :=
  Eq.trans (e_ldcS (n := 11) D47_141 rfl o_47 rfl rfl) <| e_aretO D47_143 rfl
theorem b47_144 {d : Nat} {x0 : Int} {I L : Nat → Nat → Nat → Int} {t : Nat → Nat} : Res d 47 144 [vi x0] [] (mk I L t) = some (vr 117 12, (mk I L t)) :=
  Eq.trans (e_ldcS (n := 12) D47_144 rfl o_47 rfl rfl) <| e_aretO D47_146 rfl
theorem b47_147 {d : Nat} {x0 : Int} {I L : Nat → Nat → Nat → Int} {t : Nat → Nat} : Res d 47 147 [vi x0] [] (mk I L t) = some (vr 117 13, (mk I L t)) :=
  Eq.trans (e_ldcS (n := 13) D47_147 rfl o_47 rfl rfl) <| e_aretO D47_149 rfl
theorem b47_150 {d : Nat} {x0 : Int} {I L : Nat → Nat → Nat → Int} {t : Nat → Nat} : Res d 47 150 [vi x0] [] (mk I L t) = some (vr 117 14, (mk I L t)) :=
  Eq.trans (e_ldcS (n := 14) D47_150 rfl o_47 rfl rfl) <| e_aretO D47_152 rfl
theorem b47_153 {d : Nat} {x0 : Int} {I L : Nat → Nat → Nat → Int} {t : Nat → Nat} : Res d 47 153 [vi x0] [] (mk I L t) = some (vr 117 15, (mk I L t)) :=
  Eq.trans (e_ldcS (n := 15) D47_153 rfl o_47 rfl rfl) <| e_aretO D47_155 rfl
theorem b47_156 {d : Nat} {x0 : Int} {I L : Nat → Nat → Nat → Int} {t : Nat → Nat} : Res d 47 156 [vi x0] [] (mk I L t) = some (vr 117 16, (mk I L t)) :=
  Eq.trans (e_ldcS (n := 16) D47_156 rfl o_47 rfl rfl) <| e_aretO D47_158 rfl
theorem b47_159 {d : Nat} {x0 : Int} {I L : Nat → Nat → Nat → Int} {t : Nat → Nat} : Res d 47 159 [vi x0] [] (mk I L t) = some (vr 117 17, (mk I L t)) :=
  Eq.trans (e_ldcS (n := 17) D47_159 rfl o_47 rfl rfl) <| e_aretO D47_161 rfl
theorem b47_162 {d : Nat} {x0 : Int} {I L : Nat → Nat → Nat → Int} {t : Nat → Nat} : Res d 47 162 [vi x0] [] (mk I L t) = some (vr 117 18, (mk I L t)) :=
  Eq.trans (e_ldcS (n := 18) D47_162 rfl o_47 rfl rfl) <| e_aretO D47_164 rfl
theorem b47_165 {d : Nat} {x0 : Int} {I L : Nat → Nat → Nat → Int} {t : Nat → Nat} : Res d 47 165 [vi x0] [] (mk I L t) = some (vr 117 19, (mk I L t)) :=
  Eq.trans (e_ldcS (n := 19) D47_165 rfl o_47 rfl rfl) <| e_aretO D47_167 rfl
theorem b47_168 {d : Nat} {x0 : Int} {I L : Nat → Nat → Nat → Int} {t : Nat → Nat} : Res d 47 168 [vi x0] [] (mk I L t) = some (vr 117 20, (mk I L t)) :=
  Eq.trans (e_ldcS (n := 20) D47_168 rfl o_47 rfl rfl) <| e_aretO D47_170 rfl
theorem b47_171 {d : Nat} {x0 : Int} {I L : Nat → Nat → Nat → Int} {t : Nat → Nat} : Res d 47 171 [vi x0] [] (mk I L t) = some (vr 117 21, (mk I L t)) :=
  Eq.trans (e_ldcS (n := 21) D47_171 rfl o_47 rfl rfl) <| e_aretO D47_173 rfl
theorem b47_174 {d : Nat} {x0 : Int} {I L : Nat → Nat → Nat → Int} {t : Nat → Nat} : Res d 47 174 [vi x0] [] (mk I L t) = some (vr 117 22, (mk I L t)) :=
  Eq.trans (e_ldcS (n := 22) D47_174 rfl o_47 rfl rfl) <| e_aretO D47_176 rfl
theorem b47_177 {d : Nat} {x0 : Int} {I L : Nat → Nat → Nat → Int} {t : Nat → Nat} : Res d 47 177 [vi x0] [] (mk I L t) = some (vr 117 23, (mk I L t)) :=
  Eq.trans (e_ldcS (n := 23) D47_177 rfl o_47 rfl rfl) <| e_aretO D47_179 rfl
/-! Texts_take -/
theorem cc_49 : cod 49 = cX8_take := rfl
theorem D49_0 : decode (cod 49) 0 = .ok (.iconst (-1), 1) := by rw [cc_49]; decide +kernel
theorem D49_1 : decode (cod 49) 1 = .ok (.istore_n 3, 1) := by rw [cc_49]; decide +kernel
theorem D49_2 : decode (cod 49) 2 = .ok (.aload_n 0, 1) := by rw [cc_49]; decide +kernel
theorem D49_3 : decode (cod 49) 3 = .ok (.getfield 12, 3) := by rw [cc_49]; decide +kernel
theorem D49_6 : decode (cod 49) 6 = .ok (.invokevirtual 50, 3) := by rw [cc_49]; decide +kernel
theorem D49_9 : decode (cod 49) 9 = .ok (.aload_n 0, 1) := by rw [cc_49]; decide +kernel
theorem D49_10 : decode (cod 49) 10 = .ok (.getfield 12, 3) := by rw [cc_49]; decide +kernel
theorem D49_13 : decode (cod 49) 13 = .ok (.invokevirtual 53, 3) := by rw [cc_49]; decide +kernel
theorem D49_16 : decode (cod 49) 16 = .ok (.iload_n 1, 1) := by rw [cc_49]; decide +kernel
theorem D49_17 : decode (cod 49) 17 = .ok (.ifCond .ne 32, 3) := by rw [cc_49]; decide +kernel
theorem D49_20 : decode (cod 49) 20 = .ok (.iload_n 2, 1) := by rw [cc_49]; decide +kernel
theorem D49_21 : decode (cod 49) 21 = .ok (.iconst 0, 1) := by rw [cc_49]; decide +kernel
theorem D49_22 : decode (cod 49) 22 = .ok (.iconst 3, 1) := by rw [cc_49]; decide +kernel
theorem D49_23 : decode (cod 49) 23 = .ok (.invokestatic 56, 3) := by rw [cc_49]; decide +kernel
theorem D49_26 : decode (cod 49) 26 = .ok (.ifCond .eq 23, 3) := by rw [cc_49]; decide +kernel
theorem D49_29 : decode (cod 49) 29 = .ok (.aload_n 0, 1) := by rw [cc_49]; decide +kernel
theorem D49_30 : decode (cod 49) 30 = .ok (.invokevirtual 60, 3) := by rw [cc_49]; decide +kernel
theorem D49_33 : decode (cod 49) 33 = .ok (.ifCond .eq 11, 3) := by rw [cc_49]; decide +kernel
theorem D49_36 : decode (cod 49) 36 = .ok (.aload_n 0, 1) := by rw [cc_49]; decide +kernel
theorem D49_37 : decode (cod 49) 37 = .ok (.iload_n 2, 1) := by rw [cc_49]; decide +kernel
theorem D49_38 : decode (cod 49) 38 = .ok (.invokevirtual 64, 3) := by rw [cc_49]; decide +kernel
theorem D49_41 : decode (cod 49) 41 = .ok (.goto 4, 3) := by rw [cc_49]; decide +kernel
theorem D49_44 : decode (cod 49) 44 = .ok (.iconst (-1), 1) := by rw [cc_49]; decide +kernel
theorem D49_45 : decode (cod 49) 45 = .ok (.istore_n 3, 1) := by rw [cc_49]; decide +kernel
theorem D49_46 : decode (cod 49) 46 = .ok (.goto 62, 3) := by rw [cc_49]; decide +kernel
theorem D49_49 : decode (cod 49) 49 = .ok (.iload_n 1, 1) := by rw [cc_49]; decide +kernel
theorem D49_50 : decode (cod 49) 50 = .ok (.iconst 1, 1) := by rw [cc_49]; decide +kernel
theorem D49_51 : decode (cod 49) 51 = .ok (.if_icmp .ne 26, 3) := by rw [cc_49]; decide +kernel
theorem D49_54 : decode (cod 49) 54 = .ok (.iload_n 2, 1) := by rw [cc_49]; decide +kernel
theorem D49_55 : decode (cod 49) 55 = .ok (.ifCond .ne 22, 3) := by rw [cc_49]; decide +kernel
theorem D49_58 : decode (cod 49) 58 = .ok (.aload_n 0, 1) := by rw [cc_49]; decide +kernel
theorem D49_59 : decode (cod 49) 59 = .ok (.invokevirtual 68, 3) := by rw [cc_49]; decide +kernel
theorem D49_62 : decode (cod 49) 62 = .ok (.ifCond .eq 10, 3) := by rw [cc_49]; decide +kernel
theorem D49_65 : decode (cod 49) 65 = .ok (.aload_n 0, 1) := by rw [cc_49]; decide +kernel
theorem D49_66 : decode (cod 49) 66 = .ok (.invokevirtual 71, 3) := by rw [cc_49]; decide +kernel
theorem D49_69 : decode (cod 49) 69 = .ok (.goto 4, 3) := by rw [cc_49]; decide +kernel
theorem D49_72 : decode (cod 49) 72 = .ok (.iconst (-1), 1) := by rw [cc_49]; decide +kernel
theorem D49_73 : decode (cod 49) 73 = .ok (.istore_n 3, 1) := by rw [cc_49]; decide +kernel
theorem D49_74 : decode (cod 49) 74 = .ok (.goto 34, 3) := by rw [cc_49]; decide +kernel
theorem D49_77 : decode (cod 49) 77 = .ok (.iload_n 1, 1) := by rw [cc_49]; decide +kernel
theorem D49_78 : decode (cod 49) 78 = .ok (.iconst 2, 1) := by rw [cc_49]; decide +kernel
theorem D49_79 : decode (cod 49) 79 = .ok (.if_icmp .ne 29, 3) := by rw [cc_49]; decide +kernel
theorem D49_82 : decode (cod 49) 82 = .ok (.iload_n 2, 1) := by rw [cc_49]; decide +kernel
theorem D49_83 : decode (cod 49) 83 = .ok (.iconst 0, 1) := by rw [cc_49]; decide +kernel
theorem D49_84 : decode (cod 49) 84 = .ok (.iconst 3, 1) := by rw [cc_49]; decide +kernel
theorem D49_85 : decode (cod 49) 85 = .ok (.invokestatic 56, 3) := by rw [cc_49]; decide +kernel
theorem D49_88 : decode (cod 49) 88 = .ok (.ifCond .eq 20, 3) := by rw [cc_49]; decide +kernel
theorem D49_91 : decode (cod 49) 91 = .ok (.aload_n 0, 1) := by rw [cc_49]; decide +kernel
theorem D49_92 : decode (cod 49) 92 = .ok (.invokevirtual 75, 3) := by rw [cc_49]; decide +kernel
theorem D49_95 : decode (cod 49) 95 = .ok (.ifCond .eq 11, 3) := by rw [cc_49]; decide +kernel
theorem D49_98 : decode (cod 49) 98 = .ok (.aload_n 0, 1) := by rw [cc_49]; decide +kernel
theorem D49_99 : decode (cod 49) 99 = .ok (.iload_n 2, 1) := by rw [cc_49]; decide +kernel
theorem D49_100 : decode (cod 49) 100 = .ok (.invokevirtual 78, 3) := by rw [cc_49]; decide +kernel
theorem D49_103 : decode (cod 49) 103 = .ok (.goto 4, 3) := by rw [cc_49]; decide +kernel
theorem D49_106 : decode (cod 49) 106 = .ok (.iconst (-1), 1) := by rw [cc_49]; decide +kernel
theorem D49_107 : decode (cod 49) 107 = .ok (.istore_n 3, 1) := by rw [cc_49]; decide +kernel
theorem D49_108 : decode (cod 49) 108 = .ok (.aload_n 0, 1) := by rw [cc_49]; decide +kernel
theorem D49_109 : decode (cod 49) 109 = .ok (.getfield 12, 3) := by rw [cc_49]; decide +kernel
theorem D49_112 : decode (cod 49) 112 = .ok (.iconst 0, 1) := by rw [cc_49]; decide +kernel
theorem D49_113 : decode (cod 49) 113 = .ok (.putfield 81, 3) := by rw [cc_49]; decide +kernel
theorem D49_116 : decode (cod 49) 116 = .ok (.iload_n 3, 1) := by rw [cc_49]; decide +kernel
theorem D49_117 : decode (cod 49) 117 = .ok (.ireturn, 1) := by rw [cc_49]; decide +kernel
theorem b49_0 {d : Nat} {x1 x2 : Int} {I L : Nat → Nat → Nat → Int} {t : Nat → Nat} : Res (d + 1) 49 0 [vr 8 0, vi x1, vi x2, vx] [] (mk I L t) = (Cal d 36 [vr 7 0] (mk I L t)).bind fun v => Res (d + 1) 49 9 [vr 8 0, vi x1, vi x2, vi (-1)] (psh 36 v.1 []) v.2 :=
  Eq.trans (e_iconst (x := -1) D49_0 rfl rfl) <| Eq.trans (e_istore_n (ls1 := [vr 8 0, vi x1, vi x2, vi (-1)]) D49_1 rfl (show 3 < 4 by decide) rfl) <| Eq.trans (e_aload_n D49_2 rfl rfl) <| Eq.trans (e_getP (p := (7, 0)) D49_3 rfl o_49 f_8_12 (sh_8 _) (by decide) (pp_8_0 _)) <| e_callV D49_6 rfl o_49 m_8_50 (by decide) rfl rfl
theorem b49_9 {d : Nat} {x1 x2 x3 : Int} {I L : Nat → Nat → Nat → Int} {t : Nat → Nat} : Res (d + 1) 49 9 [vr 8 0, vi x1, vi x2, vi x3] [] (mk I L t) = (Cal d 39 [vr 7 0] (mk I L t)).bind fun v => Res (d + 1) 49 16 [vr 8 0, vi x1, vi x2, vi x3] (psh 39 v.1 []) v.2 :=
  Eq.trans (e_aload_n D49_9 rfl rfl) <| Eq.trans (e_getP (p := (7, 0)) D49_10 rfl o_49 f_8_12 (sh_8 _) (by decide) (pp_8_0 _)) <| e_callV D49_13 rfl o_49 m_8_53 (by decide) rfl rfl
theorem b49_16 {d : Nat} {x1 x2 x3 : Int} {I L : Nat → Nat → Nat → Int} {t : Nat → Nat} : Res d 49 16 [vr 8 0, vi x1, vi x2, vi x3] [] (mk I L t) = if ¬ x1 = 0 then Res d 49 49 [vr 8 0, vi x1, vi x2, vi x3] [] (mk I L t) else Res d 49 20 [vr 8 0, vi x1, vi x2, vi x3] [] (mk I L t) :=
  Eq.trans (e_iload_n D49_16 rfl rfl) <| e_ifne D49_17 rfl rfl
theorem b49_20 {d : Nat} {x1 x2 x3 : Int} {I L : Nat → Nat → Nat → Int} {t : Nat → Nat} : Res (d + 1) 49 20 [vr 8 0, vi x1, vi x2, vi x3] [] (mk I L t) = (Cal d 102 [vi x2, vi 0, vi 3] (mk I L t)).bind fun v => Res (d + 1) 49 26 [vr 8 0, vi x1, vi x2, vi x3] (psh 102 v.1 []) v.2 :=
  Eq.trans (e_iload_n D49_20 rfl rfl) <| Eq.trans (e_iconst (x := 0) D49_21 rfl rfl) <| Eq.trans (e_iconst (x := 3) D49_22 rfl rfl) <| e_callS D49_23 rfl o_49 m_8_56 (by decide) rfl rfl
theorem b49_26 {d : Nat} {x1 x2 x3 xs0 : Int} {I L : Nat → Nat → Nat → Int} {t : Nat → Nat} : Res d 49 26 [vr 8 0, vi x1, vi x2, vi x3] [vi xs0] (mk I L t) = if xs0 = 0 then Res d 49 49 [vr 8 0, vi x1, vi x2, vi x3] [] (mk I L t) else Res d 49 29 [vr 8 0, vi x1, vi x2, vi x3] [] (mk I L t) :=
  e_ifeq D49_26 rfl rfl
theorem b49_29 {d : Nat} {x1 x2 x3 : Int} {I L : Nat → Nat → Nat → Int} {t : Nat → Nat} : Res (d + 1) 49 29 [vr 8 0, vi x1, vi x2, vi x3] [] (mk I L t) = (Cal d 53 [vr 8 0] (mk I L t)).bind fun v => Res (d + 1) 49 33 [vr 8 0, vi x1, vi x2, vi x3] (psh 53 v.1 []) v.2 :=
  Eq.trans (e_aload_n D49_29 rfl rfl) <| e_callV D49_30 rfl o_49 m_8_60 (by decide) rfl rfl
theorem b49_33 {d : Nat} {x1 x2 x3 xs0 : Int} {I L : Nat → Nat → Nat → Int} {t : Nat → Nat} : Res d 49 33 [vr 8 0, vi x1, vi x2, vi x3] [vi xs0] (mk I L t) = if xs0 = 0 then Res d 49 44 [vr 8 0, vi x1, vi x2, vi x3] [] (mk I L t) else Res d 49 36 [vr 8 0, vi x1, vi x2, vi x3] [] (mk I L t) :=
  e_ifeq D49_33 rfl rfl
theorem b49_36 {d : Nat} {x1 x2 x3 : Int} {I L : Nat → Nat → Nat → Int} {t : Nat → Nat} : Res (d + 1) 49 36 [vr 8 0, vi x1, vi x2, vi x3] [] (mk I L t) = (Cal d 50 [vr 8 0, vi x2] (mk I L t)).bind fun v => Res (d + 1) 49 41 [vr 8 0, vi x1, vi x2, vi x3] (psh 50 v.1 []) v.2 :=
  Eq.trans (e_aload_n D49_36 rfl rfl) <| Eq.trans (e_iload_n D49_37 rfl rfl) <| e_callV D49_38 rfl o_49 m_8_64 (by decide) rfl rfl
theorem b49_41 {d : Nat} {x1 x2 x3 xs0 : Int} {I L : Nat → Nat → Nat → Int} {t : Nat → Nat} : Res d 49 41 [vr 8 0, vi x1, vi x2, vi x3] [vi xs0] (mk I L t) = Res d 49 45 [vr 8 0, vi x1, vi x2, vi x3] [vi xs0] (mk I L t) :=
  e_goto (q1 := 45) D49_41 rfl
theorem b49_44 {d : Nat} {x1 x2 x3 : Int} {I L : Nat → Nat → Nat → Int} {t : Nat → Nat} : Res d 49 44 [vr 8 0, vi x1, vi x2, vi x3] [] (mk I L t) = Res d 49 45 [vr 8 0, vi x1, vi x2, vi x3] [vi (-1)] (mk I L t) :=
  e_iconst (x := -1) D49_44 rfl rfl
theorem b49_45 {d : Nat} {x1 x2 x3 xs0 : Int} {I L : Nat → Nat → Nat → Int} {t : Nat → Nat} : Res d 49 45 [vr 8 0, vi x1, vi x2, vi x3] [vi xs0] (mk I L t) = Res d 49 108 [vr 8 0, vi x1, vi x2, vi xs0] [] (mk I L t) :=
  Eq.trans (e_istore_n (ls1 := [vr 8 0, vi x1, vi x2, vi xs0]) D49_45 rfl (show 3 < 4 by decide) rfl) <| e_goto (q1 := 108) D49_46 rfl
theorem b49_49 {d : Nat} {x1 x2 x3 : Int} {I L : Nat → Nat → Nat → Int} {t : Nat → Nat} : Res d 49 49 [vr 8 0, vi x1, vi x2, vi x3] [] (mk I L t) = if ¬ x1 = 1 then Res d 49 77 [vr 8 0, vi x1, vi x2, vi x3] [] (mk I L t) else Res d 49 54 [vr 8 0, vi x1, vi x2, vi x3] [] (mk I L t) :=
  Eq.trans (e_iload_n D49_49 rfl rfl) <| Eq.trans (e_iconst (x := 1) D49_50 rfl rfl) <| e_icne D49_51 rfl rfl
theorem b49_54 {d : Nat} {x1 x2 x3 : Int} {I L : Nat → Nat → Nat → Int} {t : Nat → Nat} : Res d 49 54 [vr 8 0, vi x1, vi x2, vi x3] [] (mk I L t) = if ¬ x2 = 0 then Res d 49 77 [vr 8 0, vi x1, vi x2, vi x3] [] (mk I L t) else Res d 49 58 [vr 8 0, vi x1, vi x2, vi x3] [] (mk I L t) :=
  Eq.trans (e_iload_n D49_54 rfl rfl) <| e_ifne D49_55 rfl rfl
theorem b49_58 {d : Nat} {x1 x2 x3 : Int} {I L : Nat → Nat → Nat → Int} {t : Nat → Nat} : Res (d + 1) 49 58 [vr 8 0, vi x1, vi x2, vi x3] [] (mk I L t) = (Cal d 60 [vr 8 0] (mk I L t)).bind fun v => Res (d + 1) 49 62 [vr 8 0, vi x1, vi x2, vi x3] (psh 60 v.1 []) v.2 :=
  Eq.trans (e_aload_n D49_58 rfl rfl) <| e_callV D49_59 rfl o_49 m_8_68 (by decide) rfl rfl
theorem b49_62 {d : Nat} {x1 x2 x3 xs0 : Int} {I L : Nat → Nat → Nat → Int} {t : Nat → Nat} : Res d 49 62 [vr 8 0, vi x1, vi x2, vi x3] [vi xs0] (mk I L t) = if xs0 = 0 then Res d 49 72 [vr 8 0, vi x1, vi x2, vi x3] [] (mk I L t) else Res d 49 65 [vr 8 0, vi x1, vi x2, vi x3] [] (mk I L t) :=
  e_ifeq D49_62 rfl rfl
theorem b49_65 {d : Nat} {x1 x2 x3 : Int} {I L : Nat → Nat → Nat → Int} {t : Nat → Nat} : Res (d + 1) 49 65 [vr 8 0, vi x1, vi x2, vi x3] [] (mk I L t) = (Cal d 51 [vr 8 0] (mk I L t)).bind fun v => Res (d + 1) 49 69 [vr 8 0, vi x1, vi x2, vi x3] (psh 51 v.1 []) v.2 :=
  Eq.trans (e_aload_n D49_65 rfl rfl) <| e_callV D49_66 rfl o_49 m_8_71 (by decide) rfl rfl
theorem b49_69 {d : Nat} {x1 x2 x3 xs0 : Int} {I L : Nat → Nat → Nat → Int} {t : Nat → Nat} : Res d 49 69 [vr 8 0, vi x1, vi x2, vi x3] [vi xs0] (mk I L t) = Res d 49 73 [vr 8 0, vi x1, vi x2, vi x3] [vi xs0] (mk I L t) :=
  e_goto (q1 := 73) D49_69 rfl
theorem b49_72 {d : Nat} {x1 x2 x3 : Int} {I L : Nat → Nat → Nat → Int} {t : Nat → Nat} : Res d 49 72 [vr 8 0, vi x1, vi x2, vi x3] [] (mk I L t) = Res d 49 73 [vr 8 0, vi x1, vi x2, vi x3] [vi (-1)] (mk I L t) :=
  e_iconst (x := -1) D49_72 rfl rfl
theorem b49_73 {d : Nat} {x1 x2 x3 xs0 : Int} {I L : Nat → Nat → Nat → Int} {t : Nat → Nat} : Res d 49 73 [vr 8 0, vi x1, vi x2, vi x3] [vi xs0] (mk I L t) = Res d 49 108 [vr 8 0, vi x1, vi x2, vi xs0] [] (mk I L t) :=
  Eq.trans (e_istore_n (ls1 := [vr 8 0, vi x1, vi x2, vi xs0]) D49_73 rfl (show 3 < 4 by decide) rfl) <| e_goto (q1 := 108) D49_74 rfl
theorem b49_77 {d : Nat} {x1 x2 x3 : Int} {I L : Nat → Nat → Nat → Int} {t : Nat → Nat} : Res d 49 77 [vr 8 0, vi x1, vi x2, vi x3] [] (mk I L t) = if ¬ x1 = 2 then Res d 49 108 [vr 8 0, vi x1, vi x2, vi x3] [] (mk I L t) else Res d 49 82 [vr 8 0, vi x1, vi x2, vi x3] [] (mk I L t) :=
  Eq.trans (e_iload_n D49_77 rfl rfl) <| Eq.trans (e_iconst (x := 2) D49_78 rfl rfl) <| e_icne D49_79 rfl rfl
theorem b49_82 {d : Nat} {x1 x2 x3 : Int} {I L : Nat → Nat → Nat → Int} {t : Nat → Nat} : Res (d + 1) 49 82 [vr 8 0, vi x1, vi x2, vi x3] [] (mk I L t) = (Cal d 102 [vi x2, vi 0, vi 3] (mk I L t)).bind fun v => Res (d + 1) 49 88 [vr 8 0, vi x1, vi x2, vi x3] (psh 102 v.1 []) v.2 :=
  Eq.trans (e_iload_n D49_82 rfl rfl) <| Eq.trans (e_iconst (x := 0) D49_83 rfl rfl) <| Eq.trans (e_iconst (x := 3) D49_84 rfl rfl) <| e_callS D49_85 rfl o_49 m_8_56 (by decide) rfl rfl
theorem b49_88 {d : Nat} {x1 x2 x3 xs0 : Int} {I L : Nat → Nat → Nat → Int} {t : Nat → Nat} : Res d 49 88 [vr 8 0, vi x1, vi x2, vi x3] [vi xs0] (mk I L t) = if xs0 = 0 then Res d 49 108 [vr 8 0, vi x1, vi x2, vi x3] [] (mk I L t) else Res d 49 91 [vr 8 0, vi x1, vi x2, vi x3] [] (mk I L t) :=
  e_ifeq D49_88 rfl rfl
theorem b49_91 {d : Nat} {x1 x2 x3 : Int} {I L : Nat → Nat → Nat → Int} {t : Nat → Nat} : Res (d + 1) 49 91 [vr 8 0, vi x1, vi x2, vi x3] [] (mk I L t) = (Cal d 62 [vr 8 0] (mk I L t)).bind fun v => Res (d + 1) 49 95 [vr 8 0, vi x1, vi x2, vi x3] (psh 62 v.1 []) v.2 :=
  Eq.trans (e_aload_n D49_91 rfl rfl) <| e_callV D49_92 rfl o_49 m_8_75 (by decide) rfl rfl
theorem b49_95 {d : Nat} {x1 x2 x3 xs0 : Int} {I L : Nat → Nat → Nat → Int} {t : Nat → Nat} : Res d 49 95 [vr 8 0, vi x1, vi x2, vi x3] [vi xs0] (mk I L t) = if xs0 = 0 then Res d 49 106 [vr 8 0, vi x1, vi x2, vi x3] [] (mk I L t) else Res d 49 98 [vr 8 0, vi x1, vi x2, vi x3] [] (mk I L t) :=
  e_ifeq D49_95 rfl rfl
theorem b49_98 {d : Nat} {x1 x2 x3 : Int} {I L : Nat → Nat → Nat → Int} {t : Nat → Nat} : Res (d + 1) 49 98 [vr 8 0, vi x1, vi x2, vi x3] [] (mk I L t) = (Cal d 52 [vr 8 0, vi x2] (mk I L t)).bind fun v => Res (d + 1) 49 103 [vr 8 0, vi x1, vi x2, vi x3] (psh 52 v.1 []) v.2 :=
  Eq.trans (e_aload_n D49_98 rfl rfl) <| Eq.trans (e_iload_n D49_99 rfl rfl) <| e_callV D49_100 rfl o_49 m_8_78 (by decide) rfl rfl
theorem b49_103 {d : Nat} {x1 x2 x3 xs0 : Int} {I L : Nat → Nat → Nat → Int} {t : Nat → Nat} : Res d 49 103 [vr 8 0, vi x1, vi x2, vi x3] [vi xs0] (mk I L t) = Res d 49 107 [vr 8 0, vi x1, vi x2, vi x3] [vi xs0] (mk I L t) :=
  e_goto (q1 := 107) D49_103 rfl
theorem b49_106 {d : Nat} {x1 x2 x3 : Int} {I L : Nat → Nat → Nat → Int} {t : Nat → Nat} : Res d 49 106 [vr 8 0, vi x1, vi x2, vi x3] [] (mk I L t) = Res d 49 107 [vr 8 0, vi x1, vi x2, vi x3] [vi (-1)] (mk I L t) :=
  e_iconst (x := -1) D49_106 rfl rfl
theorem b49_107 {d : Nat} {x1 x2 x3 xs0 : Int} {I L : Nat → Nat → Nat → Int} {t : Nat → Nat} : Res d 49 107 [vr 8 0, vi x1, vi x2, vi x3] [vi xs0] (mk I L t) = Res d 49 108 [vr 8 0, vi x1, vi x2, vi xs0] [] (mk I L t) :=
  e_istore_n (ls1 := [vr 8 0, vi x1, vi x2, vi xs0]) D49_107 rfl (show 3 < 4 by decide) rfl
theorem b49_108 {d : Nat} {x1 x2 x3 : Int} {I L : Nat → Nat → Nat → Int} {t : Nat → Nat} : Res d 49 108 [vr 8 0, vi x1, vi x2, vi x3] [] (mk I L t) = some (vi x3, (mk (up3 I 7 0 4 0) L t)) :=
  Eq.trans (e_aload_n D49_108 rfl rfl) <| Eq.trans (e_getP (p := (7, 0)) D49_109 rfl o_49 f_8_12 (sh_8 _) (by decide) (pp_8_0 _)) <| Eq.trans (e_iconst (x := 0) D49_112 rfl rfl) <| Eq.trans (e_putI D49_113 rfl o_49 f_8_81 (sh_7 _) rfl (by decide) (Or.inl (by decide))) <| Eq.trans (e_iload_n D49_116 rfl rfl) <| e_iret D49_117 rfl
/-! Texts_keepHead -/
theorem cc_50 : cod 50 = cX8_keepHead := rfl
theorem D50_0 : decode (cod 50) 0 = .ok (.aload_n 0, 1) := by rw [cc_50]; decide +kernel
theorem D50_1 : decode (cod 50) 1 = .ok (.getfield 20, 3) := by rw [cc_50]; decide +kernel
theorem D50_4 : decode (cod 50) 4 = .ok (.iload_n 1, 1) := by rw [cc_50]; decide +kernel
theorem D50_5 : decode (cod 50) 5 = .ok (.aaload, 1) := by rw [cc_50]; decide +kernel
theorem D50_6 : decode (cod 50) 6 = .ok (.astore_n 2, 1) := by rw [cc_50]; decide +kernel
theorem D50_7 : decode (cod 50) 7 = .ok (.aload_n 0, 1) := by rw [cc_50]; decide +kernel
theorem D50_8 : decode (cod 50) 8 = .ok (.getfield 20, 3) := by rw [cc_50]; decide +kernel
theorem D50_11 : decode (cod 50) 11 = .ok (.iload_n 1, 1) := by rw [cc_50]; decide +kernel
theorem D50_12 : decode (cod 50) 12 = .ok (.aload_n 0, 1) := by rw [cc_50]; decide +kernel
theorem D50_13 : decode (cod 50) 13 = .ok (.getfield 38, 3) := by rw [cc_50]; decide +kernel
theorem D50_16 : decode (cod 50) 16 = .ok (.aastore, 1) := by rw [cc_50]; decide +kernel
theorem D50_17 : decode (cod 50) 17 = .ok (.aload_n 0, 1) := by rw [cc_50]; decide +kernel
theorem D50_18 : decode (cod 50) 18 = .ok (.aload_n 2, 1) := by rw [cc_50]; decide +kernel
theorem D50_19 : decode (cod 50) 19 = .ok (.putfield 38, 3) := by rw [cc_50]; decide +kernel
theorem D50_22 : decode (cod 50) 22 = .ok (.aload_n 0, 1) := by rw [cc_50]; decide +kernel
theorem D50_23 : decode (cod 50) 23 = .ok (.getfield 20, 3) := by rw [cc_50]; decide +kernel
theorem D50_26 : decode (cod 50) 26 = .ok (.iload_n 1, 1) := by rw [cc_50]; decide +kernel
theorem D50_27 : decode (cod 50) 27 = .ok (.aaload, 1) := by rw [cc_50]; decide +kernel
theorem D50_28 : decode (cod 50) 28 = .ok (.getfield 85, 3) := by rw [cc_50]; decide +kernel
theorem D50_31 : decode (cod 50) 31 = .ok (.ireturn, 1) := by rw [cc_50]; decide +kernel
theorem b50_0 {d : Nat} {x1 : Int} {I L : Nat → Nat → Nat → Int} {t : Nat → Nat} (g1 : 0 ≤ x1 ∧ x1 < 4) : Res d 50 0 [vr 8 0, vi x1, vx] [] (mk I L t) = Res d 50 16 [vr 8 0, vi x1, vr 2 (t x1.toNat)] [vr 2 (t 4), vi x1, vr 38 0] (mk I L t) :=
  Eq.trans (e_aload_n D50_0 rfl rfl) <| Eq.trans (e_getP (p := (38, 0)) D50_1 rfl o_50 f_8_20 (sh_8 _) (by decide) (pp_8_1 _)) <| Eq.trans (e_iload_n D50_4 rfl rfl) <| Eq.trans (e_aald (p := (2, t x1.toNat)) D50_5 rfl (ae_38 _) (aq_38 _) (pa_38 _ (tn4 g1)) g1) <| Eq.trans (e_astore_n (ls1 := [vr 8 0, vi x1, vr 2 (t x1.toNat)]) D50_6 rfl (show 2 < 3 by decide) rfl) <| Eq.trans (e_aload_n D50_7 rfl rfl) <| Eq.trans (e_getP (p := (38, 0)) D50_8 rfl o_50 f_8_20 (sh_8 _) (by decide) (pp_8_1 _)) <| Eq.trans (e_iload_n D50_11 rfl rfl) <| Eq.trans (e_aload_n D50_12 rfl rfl) <| e_getP (p := (2, t 4)) D50_13 rfl o_50 f_8_38 (sh_8 _) (by decide) (pp_8_4 _) -- stops at 16: aastore
/-! Texts_keepSaid -/
theorem cc_51 : cod 51 = cX8_keepSaid := rfl
theorem D51_0 : decode (cod 51) 0 = .ok (.aload_n 0, 1) := by rw [cc_51]; decide +kernel
theorem D51_1 : decode (cod 51) 1 = .ok (.getfield 33, 3) := by rw [cc_51]; decide +kernel
theorem D51_4 : decode (cod 51) 4 = .ok (.astore_n 1, 1) := by rw [cc_51]; decide +kernel
theorem D51_5 : decode (cod 51) 5 = .ok (.aload_n 0, 1) := by rw [cc_51]; decide +kernel
theorem D51_6 : decode (cod 51) 6 = .ok (.aload_n 0, 1) := by rw [cc_51]; decide +kernel
theorem D51_7 : decode (cod 51) 7 = .ok (.getfield 47, 3) := by rw [cc_51]; decide +kernel
theorem D51_10 : decode (cod 51) 10 = .ok (.putfield 33, 3) := by rw [cc_51]; decide +kernel
theorem D51_13 : decode (cod 51) 13 = .ok (.aload_n 0, 1) := by rw [cc_51]; decide +kernel
theorem D51_14 : decode (cod 51) 14 = .ok (.aload_n 1, 1) := by rw [cc_51]; decide +kernel
theorem D51_15 : decode (cod 51) 15 = .ok (.putfield 47, 3) := by rw [cc_51]; decide +kernel
theorem D51_18 : decode (cod 51) 18 = .ok (.aload_n 0, 1) := by rw [cc_51]; decide +kernel
theorem D51_19 : decode (cod 51) 19 = .ok (.getfield 33, 3) := by rw [cc_51]; decide +kernel
theorem D51_22 : decode (cod 51) 22 = .ok (.getfield 88, 3) := by rw [cc_51]; decide +kernel
theorem D51_25 : decode (cod 51) 25 = .ok (.ireturn, 1) := by rw [cc_51]; decide +kernel
theorem b51_0 {d : Nat}  {I L : Nat → Nat → Nat → Int} {t : Nat → Nat} : Res d 51 0 [vr 8 0, vx] [] (mk I L t) = Res d 51 10 [vr 8 0, vr 5 (t 10)] [vr 5 (t 11), vr 8 0] (mk I L t) :=
  Eq.trans (e_aload_n D51_0 rfl rfl) <| Eq.trans (e_getP (p := (5, t 10)) D51_1 rfl o_51 f_8_33 (sh_8 _) (by decide) (pp_8_3 _)) <| Eq.trans (e_astore_n (ls1 := [vr 8 0, vr 5 (t 10)]) D51_4 rfl (show 1 < 2 by decide) rfl) <| Eq.trans (e_aload_n D51_5 rfl rfl) <| Eq.trans (e_aload_n D51_6 rfl rfl) <| e_getP (p := (5, t 11)) D51_7 rfl o_51 f_8_47 (sh_8 _) (by decide) (pp_8_6 _) -- stops at 10: putfield
/-! Texts_keepWay -/
theorem cc_52 : cod 52 = cX8_keepWay := rfl
theorem D52_0 : decode (cod 52) 0 = .ok (.aload_n 0, 1) := by rw [cc_52]; decide +kernel
theorem D52_1 : decode (cod 52) 1 = .ok (.getfield 26, 3) := by rw [cc_52]; decide +kernel
theorem D52_4 : decode (cod 52) 4 = .ok (.iload_n 1, 1) := by rw [cc_52]; decide +kernel
theorem D52_5 : decode (cod 52) 5 = .ok (.aaload, 1) := by rw [cc_52]; decide +kernel
theorem D52_6 : decode (cod 52) 6 = .ok (.astore_n 2, 1) := by rw [cc_52]; decide +kernel
theorem D52_7 : decode (cod 52) 7 = .ok (.aload_n 0, 1) := by rw [cc_52]; decide +kernel
theorem D52_8 : decode (cod 52) 8 = .ok (.getfield 26, 3) := by rw [cc_52]; decide +kernel
theorem D52_11 : decode (cod 52) 11 = .ok (.iload_n 1, 1) := by rw [cc_52]; decide +kernel
theorem D52_12 : decode (cod 52) 12 = .ok (.aload_n 0, 1) := by rw [cc_52]; decide +kernel
theorem D52_13 : decode (cod 52) 13 = .ok (.getfield 43, 3) := by rw [cc_52]; decide +kernel
theorem D52_16 : decode (cod 52) 16 = .ok (.aastore, 1) := by rw [cc_52]; decide +kernel
theorem D52_17 : decode (cod 52) 17 = .ok (.aload_n 0, 1) := by rw [cc_52]; decide +kernel
theorem D52_18 : decode (cod 52) 18 = .ok (.aload_n 2, 1) := by rw [cc_52]; decide +kernel
theorem D52_19 : decode (cod 52) 19 = .ok (.putfield 43, 3) := by rw [cc_52]; decide +kernel
theorem D52_22 : decode (cod 52) 22 = .ok (.aload_n 0, 1) := by rw [cc_52]; decide +kernel
theorem D52_23 : decode (cod 52) 23 = .ok (.getfield 26, 3) := by rw [cc_52]; decide +kernel
theorem D52_26 : decode (cod 52) 26 = .ok (.iload_n 1, 1) := by rw [cc_52]; decide +kernel
theorem D52_27 : decode (cod 52) 27 = .ok (.aaload, 1) := by rw [cc_52]; decide +kernel
theorem D52_28 : decode (cod 52) 28 = .ok (.getfield 89, 3) := by rw [cc_52]; decide +kernel
theorem D52_31 : decode (cod 52) 31 = .ok (.ireturn, 1) := by rw [cc_52]; decide +kernel
theorem b52_0 {d : Nat} {x1 : Int} {I L : Nat → Nat → Nat → Int} {t : Nat → Nat} (g1 : 0 ≤ x1 ∧ x1 < 4) : Res d 52 0 [vr 8 0, vi x1, vx] [] (mk I L t) = Res d 52 16 [vr 8 0, vi x1, vr 9 (t (5 + x1.toNat))] [vr 9 (t 9), vi x1, vr 39 0] (mk I L t) :=
  Eq.trans (e_aload_n D52_0 rfl rfl) <| Eq.trans (e_getP (p := (39, 0)) D52_1 rfl o_52 f_8_26 (sh_8 _) (by decide) (pp_8_2 _)) <| Eq.trans (e_iload_n D52_4 rfl rfl) <| Eq.trans (e_aald (p := (9, t (5 + x1.toNat))) D52_5 rfl (ae_39 _) (aq_39 _) (pa_39 _ (tn4 g1)) g1) <| Eq.trans (e_astore_n (ls1 := [vr 8 0, vi x1, vr 9 (t (5 + x1.toNat))]) D52_6 rfl (show 2 < 3 by decide) rfl) <| Eq.trans (e_aload_n D52_7 rfl rfl) <| Eq.trans (e_getP (p := (39, 0)) D52_8 rfl o_52 f_8_26 (sh_8 _) (by decide) (pp_8_2 _)) <| Eq.trans (e_iload_n D52_11 rfl rfl) <| Eq.trans (e_aload_n D52_12 rfl rfl) <| e_getP (p := (9, t 9)) D52_13 rfl o_52 f_8_43 (sh_8 _) (by decide) (pp_8_5 _) -- stops at 16: aastore
/-! Texts_readHead -/
theorem cc_53 : cod 53 = cX8_readHead := rfl
theorem D53_0 : decode (cod 53) 0 = .ok (.aload_n 0, 1) := by rw [cc_53]; decide +kernel
theorem D53_1 : decode (cod 53) 1 = .ok (.getfield 38, 3) := by rw [cc_53]; decide +kernel
theorem D53_4 : decode (cod 53) 4 = .ok (.invokevirtual 90, 3) := by rw [cc_53]; decide +kernel
theorem D53_7 : decode (cod 53) 7 = .ok (.iconst 0, 1) := by rw [cc_53]; decide +kernel
theorem D53_8 : decode (cod 53) 8 = .ok (.istore_n 1, 1) := by rw [cc_53]; decide +kernel
theorem D53_9 : decode (cod 53) 9 = .ok (.iload_n 1, 1) := by rw [cc_53]; decide +kernel
theorem D53_10 : decode (cod 53) 10 = .ok (.sipush 400, 3) := by rw [cc_53]; decide +kernel
theorem D53_13 : decode (cod 53) 13 = .ok (.if_icmp .gt 106, 3) := by rw [cc_53]; decide +kernel
theorem D53_16 : decode (cod 53) 16 = .ok (.aload_n 0, 1) := by rw [cc_53]; decide +kernel
theorem D53_17 : decode (cod 53) 17 = .ok (.getfield 12, 3) := by rw [cc_53]; decide +kernel
theorem D53_20 : decode (cod 53) 20 = .ok (.getfield 93, 3) := by rw [cc_53]; decide +kernel
theorem D53_23 : decode (cod 53) 23 = .ok (.istore_n 2, 1) := by rw [cc_53]; decide +kernel
theorem D53_24 : decode (cod 53) 24 = .ok (.iload_n 2, 1) := by rw [cc_53]; decide +kernel
theorem D53_25 : decode (cod 53) 25 = .ok (.bipush 24, 2) := by rw [cc_53]; decide +kernel
theorem D53_27 : decode (cod 53) 27 = .ok (.if_icmp .ne 5, 3) := by rw [cc_53]; decide +kernel
theorem D53_30 : decode (cod 53) 30 = .ok (.iconst 1, 1) := by rw [cc_53]; decide +kernel
theorem D53_31 : decode (cod 53) 31 = .ok (.ireturn, 1) := by rw [cc_53]; decide +kernel
theorem D53_32 : decode (cod 53) 32 = .ok (.iload_n 2, 1) := by rw [cc_53]; decide +kernel
theorem D53_33 : decode (cod 53) 33 = .ok (.iconst 0, 1) := by rw [cc_53]; decide +kernel
theorem D53_34 : decode (cod 53) 34 = .ok (.bipush 7, 2) := by rw [cc_53]; decide +kernel
theorem D53_36 : decode (cod 53) 36 = .ok (.invokestatic 56, 3) := by rw [cc_53]; decide +kernel
theorem D53_39 : decode (cod 53) 39 = .ok (.ifCond .ne 12, 3) := by rw [cc_53]; decide +kernel
theorem D53_42 : decode (cod 53) 42 = .ok (.aload_n 0, 1) := by rw [cc_53]; decide +kernel
theorem D53_43 : decode (cod 53) 43 = .ok (.getfield 12, 3) := by rw [cc_53]; decide +kernel
theorem D53_46 : decode (cod 53) 46 = .ok (.iconst 1, 1) := by rw [cc_53]; decide +kernel
theorem D53_47 : decode (cod 53) 47 = .ok (.invokevirtual 96, 3) := by rw [cc_53]; decide +kernel
theorem D53_50 : decode (cod 53) 50 = .ok (.ireturn, 1) := by rw [cc_53]; decide +kernel
theorem D53_51 : decode (cod 53) 51 = .ok (.aload_n 0, 1) := by rw [cc_53]; decide +kernel
theorem D53_52 : decode (cod 53) 52 = .ok (.getfield 38, 3) := by rw [cc_53]; decide +kernel
theorem D53_55 : decode (cod 53) 55 = .ok (.iload_n 2, 1) := by rw [cc_53]; decide +kernel
theorem D53_56 : decode (cod 53) 56 = .ok (.invokevirtual 100, 3) := by rw [cc_53]; decide +kernel
theorem D53_59 : decode (cod 53) 59 = .ok (.ifCond .eq 12, 3) := by rw [cc_53]; decide +kernel
theorem D53_62 : decode (cod 53) 62 = .ok (.aload_n 0, 1) := by rw [cc_53]; decide +kernel
theorem D53_63 : decode (cod 53) 63 = .ok (.getfield 12, 3) := by rw [cc_53]; decide +kernel
theorem D53_66 : decode (cod 53) 66 = .ok (.iconst 2, 1) := by rw [cc_53]; decide +kernel
theorem D53_67 : decode (cod 53) 67 = .ok (.invokevirtual 96, 3) := by rw [cc_53]; decide +kernel
theorem D53_70 : decode (cod 53) 70 = .ok (.ireturn, 1) := by rw [cc_53]; decide +kernel
theorem D53_71 : decode (cod 53) 71 = .ok (.aload_n 0, 1) := by rw [cc_53]; decide +kernel
theorem D53_72 : decode (cod 53) 72 = .ok (.getfield 38, 3) := by rw [cc_53]; decide +kernel
theorem D53_75 : decode (cod 53) 75 = .ok (.iload_n 2, 1) := by rw [cc_53]; decide +kernel
theorem D53_76 : decode (cod 53) 76 = .ok (.invokevirtual 103, 3) := by rw [cc_53]; decide +kernel
theorem D53_79 : decode (cod 53) 79 = .ok (.aload_n 0, 1) := by rw [cc_53]; decide +kernel
theorem D53_80 : decode (cod 53) 80 = .ok (.getfield 12, 3) := by rw [cc_53]; decide +kernel
theorem D53_83 : decode (cod 53) 83 = .ok (.invokevirtual 107, 3) := by rw [cc_53]; decide +kernel
theorem D53_86 : decode (cod 53) 86 = .ok (.aload_n 0, 1) := by rw [cc_53]; decide +kernel
theorem D53_87 : decode (cod 53) 87 = .ok (.iconst 0, 1) := by rw [cc_53]; decide +kernel
theorem D53_88 : decode (cod 53) 88 = .ok (.invokevirtual 110, 3) := by rw [cc_53]; decide +kernel
theorem D53_91 : decode (cod 53) 91 = .ok (.ifCond .eq 12, 3) := by rw [cc_53]; decide +kernel
theorem D53_94 : decode (cod 53) 94 = .ok (.aload_n 0, 1) := by rw [cc_53]; decide +kernel
theorem D53_95 : decode (cod 53) 95 = .ok (.bipush 59, 2) := by rw [cc_53]; decide +kernel
theorem D53_97 : decode (cod 53) 97 = .ok (.invokevirtual 113, 3) := by rw [cc_53]; decide +kernel
theorem D53_100 : decode (cod 53) 100 = .ok (.ifCond .ne 5, 3) := by rw [cc_53]; decide +kernel
theorem D53_103 : decode (cod 53) 103 = .ok (.iconst 0, 1) := by rw [cc_53]; decide +kernel
theorem D53_104 : decode (cod 53) 104 = .ok (.ireturn, 1) := by rw [cc_53]; decide +kernel
theorem D53_105 : decode (cod 53) 105 = .ok (.aload_n 0, 1) := by rw [cc_53]; decide +kernel
theorem D53_106 : decode (cod 53) 106 = .ok (.getfield 38, 3) := by rw [cc_53]; decide +kernel
theorem D53_109 : decode (cod 53) 109 = .ok (.iload_n 2, 1) := by rw [cc_53]; decide +kernel
theorem D53_110 : decode (cod 53) 110 = .ok (.invokevirtual 116, 3) := by rw [cc_53]; decide +kernel
theorem D53_113 : decode (cod 53) 113 = .ok (.iinc 1 1, 3) := by rw [cc_53]; decide +kernel
theorem D53_116 : decode (cod 53) 116 = .ok (.goto (-107), 3) := by rw [cc_53]; decide +kernel
theorem D53_119 : decode (cod 53) 119 = .ok (.aload_n 0, 1) := by rw [cc_53]; decide +kernel
theorem D53_120 : decode (cod 53) 120 = .ok (.getfield 12, 3) := by rw [cc_53]; decide +kernel
theorem D53_123 : decode (cod 53) 123 = .ok (.iconst 1, 1) := by rw [cc_53]; decide +kernel
theorem D53_124 : decode (cod 53) 124 = .ok (.invokevirtual 96, 3) := by rw [cc_53]; decide +kernel
theorem D53_127 : decode (cod 53) 127 = .ok (.ireturn, 1) := by rw [cc_53]; decide +kernel
theorem b53_0 {d : Nat}  {I L : Nat → Nat → Nat → Int} {t : Nat → Nat} : Res (d + 1) 53 0 [vr 8 0, vx, vx] [] (mk I L t) = (Cal d 13 [vr 2 (t 4)] (mk I L t)).bind fun v => Res (d + 1) 53 7 [vr 8 0, vx, vx] (psh 13 v.1 []) v.2 :=
  Eq.trans (e_aload_n D53_0 rfl rfl) <| Eq.trans (e_getP (p := (2, t 4)) D53_1 rfl o_53 f_8_38 (sh_8 _) (by decide) (pp_8_4 _)) <| e_callV D53_4 rfl o_53 m_8_90 (by decide) rfl rfl
theorem b53_7 {d : Nat}  {I L : Nat → Nat → Nat → Int} {t : Nat → Nat} : Res d 53 7 [vr 8 0, vx, vx] [] (mk I L t) = Res d 53 9 [vr 8 0, vi 0, vx] [] (mk I L t) :=
  Eq.trans (e_iconst (x := 0) D53_7 rfl rfl) <| e_istore_n (ls1 := [vr 8 0, vi 0, vx]) D53_8 rfl (show 1 < 3 by decide) rfl
theorem b53_9 {d : Nat} {x1 : Int} {u2 : MV} {I L : Nat → Nat → Nat → Int} {t : Nat → Nat} : Res d 53 9 [vr 8 0, vi x1, u2] [] (mk I L t) = if 400 < x1 then Res d 53 119 [vr 8 0, vi x1, u2] [] (mk I L t) else Res d 53 16 [vr 8 0, vi x1, u2] [] (mk I L t) :=
  Eq.trans (e_iload_n D53_9 rfl rfl) <| Eq.trans (e_sipush (x := 400) D53_10 rfl rfl) <| e_icgt D53_13 rfl rfl
theorem b53_16 {d : Nat} {x1 : Int} {u2 : MV} {I L : Nat → Nat → Nat → Int} {t : Nat → Nat} : Res d 53 16 [vr 8 0, vi x1, u2] [] (mk I L t) = if ¬ I 7 0 8 = 24 then Res d 53 32 [vr 8 0, vi x1, vi (I 7 0 8)] [] (mk I L t) else Res d 53 30 [vr 8 0, vi x1, vi (I 7 0 8)] [] (mk I L t) :=
  Eq.trans (e_aload_n D53_16 rfl rfl) <| Eq.trans (e_getP (p := (7, 0)) D53_17 rfl o_53 f_8_12 (sh_8 _) (by decide) (pp_8_0 _)) <| Eq.trans (e_getI D53_20 rfl o_53 f_8_93 (sh_7 _) (by decide)) <| Eq.trans (e_istore_n (ls1 := [vr 8 0, vi x1, vi (I 7 0 8)]) D53_23 rfl (show 2 < 3 by decide) rfl) <| Eq.trans (e_iload_n D53_24 rfl rfl) <| Eq.trans (e_bipush (x := 24) D53_25 rfl rfl) <| e_icne D53_27 rfl rfl
theorem b53_30 {d : Nat} {x1 x2 : Int} {I L : Nat → Nat → Nat → Int} {t : Nat → Nat} : Res d 53 30 [vr 8 0, vi x1, vi x2] [] (mk I L t) = some (vi 1, (mk I L t)) :=
  Eq.trans (e_iconst (x := 1) D53_30 rfl rfl) <| e_iret D53_31 rfl
theorem b53_32 {d : Nat} {x1 x2 : Int} {I L : Nat → Nat → Nat → Int} {t : Nat → Nat} : Res (d + 1) 53 32 [vr 8 0, vi x1, vi x2] [] (mk I L t) = (Cal d 102 [vi x2, vi 0, vi 7] (mk I L t)).bind fun v => Res (d + 1) 53 39 [vr 8 0, vi x1, vi x2] (psh 102 v.1 []) v.2 :=
  Eq.trans (e_iload_n D53_32 rfl rfl) <| Eq.trans (e_iconst (x := 0) D53_33 rfl rfl) <| Eq.trans (e_bipush (x := 7) D53_34 rfl rfl) <| e_callS D53_36 rfl o_53 m_8_56 (by decide) rfl rfl
theorem b53_39 {d : Nat} {x1 x2 xs0 : Int} {I L : Nat → Nat → Nat → Int} {t : Nat → Nat} : Res d 53 39 [vr 8 0, vi x1, vi x2] [vi xs0] (mk I L t) = if ¬ xs0 = 0 then Res d 53 51 [vr 8 0, vi x1, vi x2] [] (mk I L t) else Res d 53 42 [vr 8 0, vi x1, vi x2] [] (mk I L t) :=
  e_ifne D53_39 rfl rfl
theorem b53_42 {d : Nat} {x1 x2 : Int} {I L : Nat → Nat → Nat → Int} {t : Nat → Nat} : Res (d + 1) 53 42 [vr 8 0, vi x1, vi x2] [] (mk I L t) = (Cal d 37 [vr 7 0, vi 1] (mk I L t)).bind fun v => Res (d + 1) 53 50 [vr 8 0, vi x1, vi x2] (psh 37 v.1 []) v.2 :=
  Eq.trans (e_aload_n D53_42 rfl rfl) <| Eq.trans (e_getP (p := (7, 0)) D53_43 rfl o_53 f_8_12 (sh_8 _) (by decide) (pp_8_0 _)) <| Eq.trans (e_iconst (x := 1) D53_46 rfl rfl) <| e_callV D53_47 rfl o_53 m_8_96 (by decide) rfl rfl
theorem b53_50 {d : Nat} {x1 x2 xs0 : Int} {I L : Nat → Nat → Nat → Int} {t : Nat → Nat} (g1 : xs0 = 0 ∨ xs0 = 1) : Res d 53 50 [vr 8 0, vi x1, vi x2] [vi xs0] (mk I L t) = some (vi xs0, (mk I L t)) :=
  e_iret D53_50 (nrz rfl g1)
theorem b53_51 {d : Nat} {x1 x2 : Int} {I L : Nat → Nat → Nat → Int} {t : Nat → Nat} : Res (d + 1) 53 51 [vr 8 0, vi x1, vi x2] [] (mk I L t) = (Cal d 14 [vr 2 (t 4), vi x2] (mk I L t)).bind fun v => Res (d + 1) 53 59 [vr 8 0, vi x1, vi x2] (psh 14 v.1 []) v.2 :=
  Eq.trans (e_aload_n D53_51 rfl rfl) <| Eq.trans (e_getP (p := (2, t 4)) D53_52 rfl o_53 f_8_38 (sh_8 _) (by decide) (pp_8_4 _)) <| Eq.trans (e_iload_n D53_55 rfl rfl) <| e_callV D53_56 rfl o_53 m_8_100 (by decide) rfl rfl
theorem b53_59 {d : Nat} {x1 x2 xs0 : Int} {I L : Nat → Nat → Nat → Int} {t : Nat → Nat} : Res d 53 59 [vr 8 0, vi x1, vi x2] [vi xs0] (mk I L t) = if xs0 = 0 then Res d 53 71 [vr 8 0, vi x1, vi x2] [] (mk I L t) else Res d 53 62 [vr 8 0, vi x1, vi x2] [] (mk I L t) :=
  e_ifeq D53_59 rfl rfl
theorem b53_62 {d : Nat} {x1 x2 : Int} {I L : Nat → Nat → Nat → Int} {t : Nat → Nat} : Res (d + 1) 53 62 [vr 8 0, vi x1, vi x2] [] (mk I L t) = (Cal d 37 [vr 7 0, vi 2] (mk I L t)).bind fun v => Res (d + 1) 53 70 [vr 8 0, vi x1, vi x2] (psh 37 v.1 []) v.2 :=
  Eq.trans (e_aload_n D53_62 rfl rfl) <| Eq.trans (e_getP (p := (7, 0)) D53_63 rfl o_53 f_8_12 (sh_8 _) (by decide) (pp_8_0 _)) <| Eq.trans (e_iconst (x := 2) D53_66 rfl rfl) <| e_callV D53_67 rfl o_53 m_8_96 (by decide) rfl rfl
theorem b53_70 {d : Nat} {x1 x2 xs0 : Int} {I L : Nat → Nat → Nat → Int} {t : Nat → Nat} (g1 : xs0 = 0 ∨ xs0 = 1) : Res d 53 70 [vr 8 0, vi x1, vi x2] [vi xs0] (mk I L t) = some (vi xs0, (mk I L t)) :=
  e_iret D53_70 (nrz rfl g1)
theorem b53_71 {d : Nat} {x1 x2 : Int} {I L : Nat → Nat → Nat → Int} {t : Nat → Nat} : Res (d + 1) 53 71 [vr 8 0, vi x1, vi x2] [] (mk I L t) = (Cal d 15 [vr 2 (t 4), vi x2] (mk I L t)).bind fun v => Res (d + 1) 53 79 [vr 8 0, vi x1, vi x2] (psh 15 v.1 []) v.2 :=
  Eq.trans (e_aload_n D53_71 rfl rfl) <| Eq.trans (e_getP (p := (2, t 4)) D53_72 rfl o_53 f_8_38 (sh_8 _) (by decide) (pp_8_4 _)) <| Eq.trans (e_iload_n D53_75 rfl rfl) <| e_callV D53_76 rfl o_53 m_8_103 (by decide) rfl rfl
theorem b53_79 {d : Nat} {x1 x2 : Int} {I L : Nat → Nat → Nat → Int} {t : Nat → Nat} : Res (d + 1) 53 79 [vr 8 0, vi x1, vi x2] [] (mk I L t) = (Cal d 38 [vr 7 0] (mk I L t)).bind fun v => Res (d + 1) 53 86 [vr 8 0, vi x1, vi x2] (psh 38 v.1 []) v.2 :=
  Eq.trans (e_aload_n D53_79 rfl rfl) <| Eq.trans (e_getP (p := (7, 0)) D53_80 rfl o_53 f_8_12 (sh_8 _) (by decide) (pp_8_0 _)) <| e_callV D53_83 rfl o_53 m_8_107 (by decide) rfl rfl
theorem b53_86 {d : Nat} {x1 x2 : Int} {I L : Nat → Nat → Nat → Int} {t : Nat → Nat} : Res (d + 1) 53 86 [vr 8 0, vi x1, vi x2] [] (mk I L t) = (Cal d 54 [vr 8 0, vi 0] (mk I L t)).bind fun v => Res (d + 1) 53 91 [vr 8 0, vi x1, vi x2] (psh 54 v.1 []) v.2 :=
  Eq.trans (e_aload_n D53_86 rfl rfl) <| Eq.trans (e_iconst (x := 0) D53_87 rfl rfl) <| e_callV D53_88 rfl o_53 m_8_110 (by decide) rfl rfl
theorem b53_91 {d : Nat} {x1 x2 xs0 : Int} {I L : Nat → Nat → Nat → Int} {t : Nat → Nat} : Res d 53 91 [vr 8 0, vi x1, vi x2] [vi xs0] (mk I L t) = if xs0 = 0 then Res d 53 103 [vr 8 0, vi x1, vi x2] [] (mk I L t) else Res d 53 94 [vr 8 0, vi x1, vi x2] [] (mk I L t) :=
  e_ifeq D53_91 rfl rfl
theorem b53_94 {d : Nat} {x1 x2 : Int} {I L : Nat → Nat → Nat → Int} {t : Nat → Nat} : Res (d + 1) 53 94 [vr 8 0, vi x1, vi x2] [] (mk I L t) = (Cal d 58 [vr 8 0, vi 59] (mk I L t)).bind fun v => Res (d + 1) 53 100 [vr 8 0, vi x1, vi x2] (psh 58 v.1 []) v.2 :=
  Eq.trans (e_aload_n D53_94 rfl rfl) <| Eq.trans (e_bipush (x := 59) D53_95 rfl rfl) <| e_callV D53_97 rfl o_53 m_8_113 (by decide) rfl rfl
theorem b53_100 {d : Nat} {x1 x2 xs0 : Int} {I L : Nat → Nat → Nat → Int} {t : Nat → Nat} : Res d 53 100 [vr 8 0, vi x1, vi x2] [vi xs0] (mk I L t) = if ¬ xs0 = 0 then Res d 53 105 [vr 8 0, vi x1, vi x2] [] (mk I L t) else Res d 53 103 [vr 8 0, vi x1, vi x2] [] (mk I L t) :=
  e_ifne D53_100 rfl rfl
theorem b53_103 {d : Nat} {x1 x2 : Int} {I L : Nat → Nat → Nat → Int} {t : Nat → Nat} : Res d 53 103 [vr 8 0, vi x1, vi x2] [] (mk I L t) = some (vi 0, (mk I L t)) :=
  Eq.trans (e_iconst (x := 0) D53_103 rfl rfl) <| e_iret D53_104 rfl
theorem b53_105 {d : Nat} {x1 x2 : Int} {I L : Nat → Nat → Nat → Int} {t : Nat → Nat} : Res (d + 1) 53 105 [vr 8 0, vi x1, vi x2] [] (mk I L t) = (Cal d 16 [vr 2 (t 4), vi x2] (mk I L t)).bind fun v => Res (d + 1) 53 113 [vr 8 0, vi x1, vi x2] (psh 16 v.1 []) v.2 :=
  Eq.trans (e_aload_n D53_105 rfl rfl) <| Eq.trans (e_getP (p := (2, t 4)) D53_106 rfl o_53 f_8_38 (sh_8 _) (by decide) (pp_8_4 _)) <| Eq.trans (e_iload_n D53_109 rfl rfl) <| e_callV D53_110 rfl o_53 m_8_116 (by decide) rfl rfl
theorem b53_113 {d : Nat} {x1 x2 : Int} {I L : Nat → Nat → Nat → Int} {t : Nat → Nat} : Res d 53 113 [vr 8 0, vi x1, vi x2] [] (mk I L t) = Res d 53 9 [vr 8 0, vi (w32 (x1 + 1)), vi x2] [] (mk I L t) :=
  Eq.trans (e_iinc (ls1 := [vr 8 0, vi (w32 (x1 + 1)), vi x2]) D53_113 rfl rfl rfl) <| e_goto (q1 := 9) D53_116 rfl
theorem b53_119 {d : Nat} {x1 : Int} {u2 : MV} {I L : Nat → Nat → Nat → Int} {t : Nat → Nat} : Res (d + 1) 53 119 [vr 8 0, vi x1, u2] [] (mk I L t) = (Cal d 37 [vr 7 0, vi 1] (mk I L t)).bind fun v => Res (d + 1) 53 127 [vr 8 0, vi x1, u2] (psh 37 v.1 []) v.2 :=
  Eq.trans (e_aload_n D53_119 rfl rfl) <| Eq.trans (e_getP (p := (7, 0)) D53_120 rfl o_53 f_8_12 (sh_8 _) (by decide) (pp_8_0 _)) <| Eq.trans (e_iconst (x := 1) D53_123 rfl rfl) <| e_callV D53_124 rfl o_53 m_8_96 (by decide) rfl rfl
theorem b53_127 {d : Nat} {x1 xs0 : Int} {u2 : MV} {I L : Nat → Nat → Nat → Int} {t : Nat → Nat} (g1 : xs0 = 0 ∨ xs0 = 1) : Res d 53 127 [vr 8 0, vi x1, u2] [vi xs0] (mk I L t) = some (vi xs0, (mk I L t)) :=
  e_iret D53_127 (nrz rfl g1)
