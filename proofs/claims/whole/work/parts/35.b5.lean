/-! block equations (printed by wip/whole/genall.py) -/
/-! m_takes -/
theorem cc_196 : cod 196 = cX12_takes := rfl
theorem D196_0 : decode (cod 196) 0 = .ok (.aload_n 0, 1) := by rw [cc_196]; decide +kernel
theorem D196_1 : decode (cod 196) 1 = .ok (.aload_n 0, 1) := by rw [cc_196]; decide +kernel
theorem D196_2 : decode (cod 196) 2 = .ok (.getfield 111, 3) := by rw [cc_196]; decide +kernel
theorem D196_5 : decode (cod 196) 5 = .ok (.iload_n 1, 1) := by rw [cc_196]; decide +kernel
theorem D196_6 : decode (cod 196) 6 = .ok (.iaload, 1) := by rw [cc_196]; decide +kernel
theorem D196_7 : decode (cod 196) 7 = .ok (.putfield 409, 3) := by rw [cc_196]; decide +kernel
theorem D196_10 : decode (cod 196) 10 = .ok (.aload_n 0, 1) := by rw [cc_196]; decide +kernel
theorem D196_11 : decode (cod 196) 11 = .ok (.aload_n 0, 1) := by rw [cc_196]; decide +kernel
theorem D196_12 : decode (cod 196) 12 = .ok (.getfield 114, 3) := by rw [cc_196]; decide +kernel
theorem D196_15 : decode (cod 196) 15 = .ok (.iload_n 1, 1) := by rw [cc_196]; decide +kernel
theorem D196_16 : decode (cod 196) 16 = .ok (.iaload, 1) := by rw [cc_196]; decide +kernel
theorem D196_17 : decode (cod 196) 17 = .ok (.putfield 426, 3) := by rw [cc_196]; decide +kernel
theorem D196_20 : decode (cod 196) 20 = .ok (.aload_n 0, 1) := by rw [cc_196]; decide +kernel
theorem D196_21 : decode (cod 196) 21 = .ok (.invokevirtual 419, 3) := by rw [cc_196]; decide +kernel
theorem D196_24 : decode (cod 196) 24 = .ok (.aload_n 0, 1) := by rw [cc_196]; decide +kernel
theorem D196_25 : decode (cod 196) 25 = .ok (.getfield 96, 3) := by rw [cc_196]; decide +kernel
theorem D196_28 : decode (cod 196) 28 = .ok (.iconst 4, 1) := by rw [cc_196]; decide +kernel
theorem D196_29 : decode (cod 196) 29 = .ok (.aload_n 0, 1) := by rw [cc_196]; decide +kernel
theorem D196_30 : decode (cod 196) 30 = .ok (.getfield 120, 3) := by rw [cc_196]; decide +kernel
theorem D196_33 : decode (cod 196) 33 = .ok (.iload_n 1, 1) := by rw [cc_196]; decide +kernel
theorem D196_34 : decode (cod 196) 34 = .ok (.iaload, 1) := by rw [cc_196]; decide +kernel
theorem D196_35 : decode (cod 196) 35 = .ok (.iastore, 1) := by rw [cc_196]; decide +kernel
theorem D196_36 : decode (cod 196) 36 = .ok (.aload_n 0, 1) := by rw [cc_196]; decide +kernel
theorem D196_37 : decode (cod 196) 37 = .ok (.getfield 96, 3) := by rw [cc_196]; decide +kernel
theorem D196_40 : decode (cod 196) 40 = .ok (.iconst 5, 1) := by rw [cc_196]; decide +kernel
theorem D196_41 : decode (cod 196) 41 = .ok (.aload_n 0, 1) := by rw [cc_196]; decide +kernel
theorem D196_42 : decode (cod 196) 42 = .ok (.getfield 123, 3) := by rw [cc_196]; decide +kernel
theorem D196_45 : decode (cod 196) 45 = .ok (.iload_n 1, 1) := by rw [cc_196]; decide +kernel
theorem D196_46 : decode (cod 196) 46 = .ok (.iaload, 1) := by rw [cc_196]; decide +kernel
theorem D196_47 : decode (cod 196) 47 = .ok (.iastore, 1) := by rw [cc_196]; decide +kernel
theorem D196_48 : decode (cod 196) 48 = .ok (.aload_n 0, 1) := by rw [cc_196]; decide +kernel
theorem D196_49 : decode (cod 196) 49 = .ok (.getfield 96, 3) := by rw [cc_196]; decide +kernel
theorem D196_52 : decode (cod 196) 52 = .ok (.bipush 6, 2) := by rw [cc_196]; decide +kernel
theorem D196_54 : decode (cod 196) 54 = .ok (.aload_n 0, 1) := by rw [cc_196]; decide +kernel
theorem D196_55 : decode (cod 196) 55 = .ok (.getfield 126, 3) := by rw [cc_196]; decide +kernel
theorem D196_58 : decode (cod 196) 58 = .ok (.iload_n 1, 1) := by rw [cc_196]; decide +kernel
theorem D196_59 : decode (cod 196) 59 = .ok (.iaload, 1) := by rw [cc_196]; decide +kernel
theorem D196_60 : decode (cod 196) 60 = .ok (.iastore, 1) := by rw [cc_196]; decide +kernel
theorem D196_61 : decode (cod 196) 61 = .ok (.aload_n 0, 1) := by rw [cc_196]; decide +kernel
theorem D196_62 : decode (cod 196) 62 = .ok (.getfield 96, 3) := by rw [cc_196]; decide +kernel
theorem D196_65 : decode (cod 196) 65 = .ok (.bipush 7, 2) := by rw [cc_196]; decide +kernel
theorem D196_67 : decode (cod 196) 67 = .ok (.aload_n 0, 1) := by rw [cc_196]; decide +kernel
theorem D196_68 : decode (cod 196) 68 = .ok (.getfield 446, 3) := by rw [cc_196]; decide +kernel
theorem D196_71 : decode (cod 196) 71 = .ok (.aload_n 0, 1) := by rw [cc_196]; decide +kernel
theorem D196_72 : decode (cod 196) 72 = .ok (.getfield 129, 3) := by rw [cc_196]; decide +kernel
theorem D196_75 : decode (cod 196) 75 = .ok (.iload_n 1, 1) := by rw [cc_196]; decide +kernel
theorem D196_76 : decode (cod 196) 76 = .ok (.iaload, 1) := by rw [cc_196]; decide +kernel
theorem D196_77 : decode (cod 196) 77 = .ok (.isub, 1) := by rw [cc_196]; decide +kernel
theorem D196_78 : decode (cod 196) 78 = .ok (.iastore, 1) := by rw [cc_196]; decide +kernel
theorem D196_79 : decode (cod 196) 79 = .ok (.aload_n 0, 1) := by rw [cc_196]; decide +kernel
theorem D196_80 : decode (cod 196) 80 = .ok (.getfield 96, 3) := by rw [cc_196]; decide +kernel
theorem D196_83 : decode (cod 196) 83 = .ok (.bipush 10, 2) := by rw [cc_196]; decide +kernel
theorem D196_85 : decode (cod 196) 85 = .ok (.aload_n 0, 1) := by rw [cc_196]; decide +kernel
theorem D196_86 : decode (cod 196) 86 = .ok (.getfield 132, 3) := by rw [cc_196]; decide +kernel
theorem D196_89 : decode (cod 196) 89 = .ok (.iload_n 1, 1) := by rw [cc_196]; decide +kernel
theorem D196_90 : decode (cod 196) 90 = .ok (.iaload, 1) := by rw [cc_196]; decide +kernel
theorem D196_91 : decode (cod 196) 91 = .ok (.iastore, 1) := by rw [cc_196]; decide +kernel
theorem D196_92 : decode (cod 196) 92 = .ok (.iconst 0, 1) := by rw [cc_196]; decide +kernel
theorem D196_93 : decode (cod 196) 93 = .ok (.istore_n 2, 1) := by rw [cc_196]; decide +kernel
theorem D196_94 : decode (cod 196) 94 = .ok (.iload_n 2, 1) := by rw [cc_196]; decide +kernel
theorem D196_95 : decode (cod 196) 95 = .ok (.bipush 16, 2) := by rw [cc_196]; decide +kernel
theorem D196_97 : decode (cod 196) 97 = .ok (.if_icmp .ge 43, 3) := by rw [cc_196]; decide +kernel
theorem D196_100 : decode (cod 196) 100 = .ok (.aload_n 0, 1) := by rw [cc_196]; decide +kernel
theorem D196_101 : decode (cod 196) 101 = .ok (.getfield 99, 3) := by rw [cc_196]; decide +kernel
theorem D196_104 : decode (cod 196) 104 = .ok (.iload_n 2, 1) := by rw [cc_196]; decide +kernel
theorem D196_105 : decode (cod 196) 105 = .ok (.aload_n 0, 1) := by rw [cc_196]; decide +kernel
theorem D196_106 : decode (cod 196) 106 = .ok (.getfield 135, 3) := by rw [cc_196]; decide +kernel
theorem D196_109 : decode (cod 196) 109 = .ok (.bipush 16, 2) := by rw [cc_196]; decide +kernel
theorem D196_111 : decode (cod 196) 111 = .ok (.iload_n 1, 1) := by rw [cc_196]; decide +kernel
theorem D196_112 : decode (cod 196) 112 = .ok (.imul, 1) := by rw [cc_196]; decide +kernel
theorem D196_113 : decode (cod 196) 113 = .ok (.iload_n 2, 1) := by rw [cc_196]; decide +kernel
theorem D196_114 : decode (cod 196) 114 = .ok (.iadd, 1) := by rw [cc_196]; decide +kernel
theorem D196_115 : decode (cod 196) 115 = .ok (.iaload, 1) := by rw [cc_196]; decide +kernel
theorem D196_116 : decode (cod 196) 116 = .ok (.iastore, 1) := by rw [cc_196]; decide +kernel
theorem D196_117 : decode (cod 196) 117 = .ok (.aload_n 0, 1) := by rw [cc_196]; decide +kernel
theorem D196_118 : decode (cod 196) 118 = .ok (.getfield 102, 3) := by rw [cc_196]; decide +kernel
theorem D196_121 : decode (cod 196) 121 = .ok (.iload_n 2, 1) := by rw [cc_196]; decide +kernel
theorem D196_122 : decode (cod 196) 122 = .ok (.aload_n 0, 1) := by rw [cc_196]; decide +kernel
theorem D196_123 : decode (cod 196) 123 = .ok (.getfield 138, 3) := by rw [cc_196]; decide +kernel
theorem D196_126 : decode (cod 196) 126 = .ok (.bipush 16, 2) := by rw [cc_196]; decide +kernel
theorem D196_128 : decode (cod 196) 128 = .ok (.iload_n 1, 1) := by rw [cc_196]; decide +kernel
theorem D196_129 : decode (cod 196) 129 = .ok (.imul, 1) := by rw [cc_196]; decide +kernel
theorem D196_130 : decode (cod 196) 130 = .ok (.iload_n 2, 1) := by rw [cc_196]; decide +kernel
theorem D196_131 : decode (cod 196) 131 = .ok (.iadd, 1) := by rw [cc_196]; decide +kernel
theorem D196_132 : decode (cod 196) 132 = .ok (.iaload, 1) := by rw [cc_196]; decide +kernel
theorem D196_133 : decode (cod 196) 133 = .ok (.iastore, 1) := by rw [cc_196]; decide +kernel
theorem D196_134 : decode (cod 196) 134 = .ok (.iinc 2 1, 3) := by rw [cc_196]; decide +kernel
theorem D196_137 : decode (cod 196) 137 = .ok (.goto (-43), 3) := by rw [cc_196]; decide +kernel
theorem D196_140 : decode (cod 196) 140 = .ok (.return_, 1) := by rw [cc_196]; decide +kernel
theorem b196_0 {d : Nat} {i0 : Nat} {x1 : Int} {I L : Nat → Nat → Nat → Int} {t : Nat → Nat} (g1 : 0 ≤ x1 ∧ x1 < 20) : Res (d + 1) 196 0 [vr 12 i0, vi x1, vx] [] (mk I L t) = (Cal d 185 [vr 12 i0] (mk (up3 (up3 I 12 i0 54 (I 80 i0 x1.toNat)) 12 i0 55 ((up3 I 12 i0 54 (I 80 i0 x1.toNat)) 81 i0 x1.toNat)) L t)).bind fun v => Res (d + 1) 196 24 [vr 12 i0, vi x1, vx] (psh 185 v.1 []) v.2 :=
  Eq.trans (e_aload_n D196_0 rfl rfl) <| Eq.trans (e_aload_n D196_1 rfl rfl) <| Eq.trans (e_getP (p := (80, i0)) D196_2 rfl o_196 f_12_111 (sh_12 _) (by decide) (pp_12_58 _ _)) <| Eq.trans (e_iload_n D196_5 rfl rfl) <| Eq.trans (e_iald D196_6 rfl (al_80 _) g1) <| Eq.trans (e_putI D196_7 rfl o_196 f_12_409 (sh_12 _) rfl (by decide) (Or.inl (by decide))) <| Eq.trans (e_aload_n D196_10 rfl rfl) <| Eq.trans (e_aload_n D196_11 rfl rfl) <| Eq.trans (e_getP (p := (81, i0)) D196_12 rfl o_196 f_12_114 (sh_12 _) (by decide) (pp_12_59 _ _)) <| Eq.trans (e_iload_n D196_15 rfl rfl) <| Eq.trans (e_iald D196_16 rfl (al_81 _) g1) <| Eq.trans (e_putI D196_17 rfl o_196 f_12_426 (sh_12 _) rfl (by decide) (Or.inl (by decide))) <| Eq.trans (e_aload_n D196_20 rfl rfl) <| e_callV D196_21 rfl o_196 m_12_419 (by decide) rfl rfl
theorem b196_24 {d : Nat} {i0 : Nat} {x1 : Int} {I L : Nat → Nat → Nat → Int} {t : Nat → Nat} (g1 : 0 ≤ x1 ∧ x1 < 20) : Res d 196 24 [vr 12 i0, vi x1, vx] [] (mk I L t) = Res d 196 94 [vr 12 i0, vi x1, vi 0] [] (mk (up3 (up3 (up3 (up3 (up3 I 75 i0 4 (I 83 i0 x1.toNat)) 75 i0 5 ((up3 I 75 i0 4 (I 83 i0 x1.toNat)) 84 i0 x1.toNat)) 75 i0 6 ((up3 (up3 I 75 i0 4 (I 83 i0 x1.toNat)) 75 i0 5 ((up3 I 75 i0 4 (I 83 i0 x1.toNat)) 84 i0 x1.toNat)) 85 i0 x1.toNat)) 75 i0 7 (w32 (((up3 (up3 (up3 I 75 i0 4 (I 83 i0 x1.toNat)) 75 i0 5 ((up3 I 75 i0 4 (I 83 i0 x1.toNat)) 84 i0 x1.toNat)) 75 i0 6 ((up3 (up3 I 75 i0 4 (I 83 i0 x1.toNat)) 75 i0 5 ((up3 I 75 i0 4 (I 83 i0 x1.toNat)) 84 i0 x1.toNat)) 85 i0 x1.toNat)) 12 i0 0) - ((up3 (up3 (up3 I 75 i0 4 (I 83 i0 x1.toNat)) 75 i0 5 ((up3 I 75 i0 4 (I 83 i0 x1.toNat)) 84 i0 x1.toNat)) 75 i0 6 ((up3 (up3 I 75 i0 4 (I 83 i0 x1.toNat)) 75 i0 5 ((up3 I 75 i0 4 (I 83 i0 x1.toNat)) 84 i0 x1.toNat)) 85 i0 x1.toNat)) 86 i0 x1.toNat)))) 75 i0 10 ((up3 (up3 (up3 (up3 I 75 i0 4 (I 83 i0 x1.toNat)) 75 i0 5 ((up3 I 75 i0 4 (I 83 i0 x1.toNat)) 84 i0 x1.toNat)) 75 i0 6 ((up3 (up3 I 75 i0 4 (I 83 i0 x1.toNat)) 75 i0 5 ((up3 I 75 i0 4 (I 83 i0 x1.toNat)) 84 i0 x1.toNat)) 85 i0 x1.toNat)) 75 i0 7 (w32 (((up3 (up3 (up3 I 75 i0 4 (I 83 i0 x1.toNat)) 75 i0 5 ((up3 I 75 i0 4 (I 83 i0 x1.toNat)) 84 i0 x1.toNat)) 75 i0 6 ((up3 (up3 I 75 i0 4 (I 83 i0 x1.toNat)) 75 i0 5 ((up3 I 75 i0 4 (I 83 i0 x1.toNat)) 84 i0 x1.toNat)) 85 i0 x1.toNat)) 12 i0 0) - ((up3 (up3 (up3 I 75 i0 4 (I 83 i0 x1.toNat)) 75 i0 5 ((up3 I 75 i0 4 (I 83 i0 x1.toNat)) 84 i0 x1.toNat)) 75 i0 6 ((up3 (up3 I 75 i0 4 (I 83 i0 x1.toNat)) 75 i0 5 ((up3 I 75 i0 4 (I 83 i0 x1.toNat)) 84 i0 x1.toNat)) 85 i0 x1.toNat)) 86 i0 x1.toNat)))) 87 i0 x1.toNat)) L t) :=
  Eq.trans (e_aload_n D196_24 rfl rfl) <| Eq.trans (e_getP (p := (75, i0)) D196_25 rfl o_196 f_12_96 (sh_12 _) (by decide) (pp_12_51 _ _)) <| Eq.trans (e_iconst (x := 4) D196_28 rfl rfl) <| Eq.trans (e_aload_n D196_29 rfl rfl) <| Eq.trans (e_getP (p := (83, i0)) D196_30 rfl o_196 f_12_120 (sh_12 _) (by decide) (pp_12_61 _ _)) <| Eq.trans (e_iload_n D196_33 rfl rfl) <| Eq.trans (e_iald D196_34 rfl (al_83 _) g1) <| Eq.trans (e_iast D196_35 rfl (al_75 _) rfl (by decide)) <| Eq.trans (e_aload_n D196_36 rfl rfl) <| Eq.trans (e_getP (p := (75, i0)) D196_37 rfl o_196 f_12_96 (sh_12 _) (by decide) (pp_12_51 _ _)) <| Eq.trans (e_iconst (x := 5) D196_40 rfl rfl) <| Eq.trans (e_aload_n D196_41 rfl rfl) <| Eq.trans (e_getP (p := (84, i0)) D196_42 rfl o_196 f_12_123 (sh_12 _) (by decide) (pp_12_62 _ _)) <| Eq.trans (e_iload_n D196_45 rfl rfl) <| Eq.trans (e_iald D196_46 rfl (al_84 _) g1) <| Eq.trans (e_iast D196_47 rfl (al_75 _) rfl (by decide)) <| Eq.trans (e_aload_n D196_48 rfl rfl) <| Eq.trans (e_getP (p := (75, i0)) D196_49 rfl o_196 f_12_96 (sh_12 _) (by decide) (pp_12_51 _ _)) <| Eq.trans (e_bipush (x := 6) D196_52 rfl rfl) <| Eq.trans (e_aload_n D196_54 rfl rfl) <| Eq.trans (e_getP (p := (85, i0)) D196_55 rfl o_196 f_12_126 (sh_12 _) (by decide) (pp_12_63 _ _)) <| Eq.trans (e_iload_n D196_58 rfl rfl) <| Eq.trans (e_iald D196_59 rfl (al_85 _) g1) <| Eq.trans (e_iast D196_60 rfl (al_75 _) rfl (by decide)) <| Eq.trans (e_aload_n D196_61 rfl rfl) <| Eq.trans (e_getP (p := (75, i0)) D196_62 rfl o_196 f_12_96 (sh_12 _) (by decide) (pp_12_51 _ _)) <| Eq.trans (e_bipush (x := 7) D196_65 rfl rfl) <| Eq.trans (e_aload_n D196_67 rfl rfl) <| Eq.trans (e_getI D196_68 rfl o_196 f_12_446 (sh_12 _) (by decide)) <| Eq.trans (e_aload_n D196_71 rfl rfl) <| Eq.trans (e_getP (p := (86, i0)) D196_72 rfl o_196 f_12_129 (sh_12 _) (by decide) (pp_12_64 _ _)) <| Eq.trans (e_iload_n D196_75 rfl rfl) <| Eq.trans (e_iald D196_76 rfl (al_86 _) g1) <| Eq.trans (e_isub D196_77 rfl) <| Eq.trans (e_iast D196_78 rfl (al_75 _) rfl (by decide)) <| Eq.trans (e_aload_n D196_79 rfl rfl) <| Eq.trans (e_getP (p := (75, i0)) D196_80 rfl o_196 f_12_96 (sh_12 _) (by decide) (pp_12_51 _ _)) <| Eq.trans (e_bipush (x := 10) D196_83 rfl rfl) <| Eq.trans (e_aload_n D196_85 rfl rfl) <| Eq.trans (e_getP (p := (87, i0)) D196_86 rfl o_196 f_12_132 (sh_12 _) (by decide) (pp_12_65 _ _)) <| Eq.trans (e_iload_n D196_89 rfl rfl) <| Eq.trans (e_iald D196_90 rfl (al_87 _) g1) <| Eq.trans (e_iast D196_91 rfl (al_75 _) rfl (by decide)) <| Eq.trans (e_iconst (x := 0) D196_92 rfl rfl) <| e_istore_n (ls1 := [vr 12 i0, vi x1, vi 0]) D196_93 rfl (show 2 < 3 by decide) rfl
theorem b196_94 {d : Nat} {i0 : Nat} {x1 x2 : Int} {I L : Nat → Nat → Nat → Int} {t : Nat → Nat} : Res d 196 94 [vr 12 i0, vi x1, vi x2] [] (mk I L t) = if 16 ≤ x2 then Res d 196 140 [vr 12 i0, vi x1, vi x2] [] (mk I L t) else Res d 196 100 [vr 12 i0, vi x1, vi x2] [] (mk I L t) :=
  Eq.trans (e_iload_n D196_94 rfl rfl) <| Eq.trans (e_bipush (x := 16) D196_95 rfl rfl) <| e_icge D196_97 rfl rfl
theorem b196_100 {d : Nat} {i0 : Nat} {x1 x2 : Int} {I L : Nat → Nat → Nat → Int} {t : Nat → Nat} (g1 : 0 ≤ w32 ((w32 (16 * x1)) + x2) ∧ w32 ((w32 (16 * x1)) + x2) < 320) (g2 : 0 ≤ x2 ∧ x2 < 16) : Res d 196 100 [vr 12 i0, vi x1, vi x2] [] (mk I L t) = Res d 196 94 [vr 12 i0, vi x1, vi (w32 (x2 + 1))] [] (mk (up3 (up3 I 76 i0 x2.toNat (I 88 i0 (w32 ((w32 (16 * x1)) + x2)).toNat)) 77 i0 x2.toNat ((up3 I 76 i0 x2.toNat (I 88 i0 (w32 ((w32 (16 * x1)) + x2)).toNat)) 89 i0 (w32 ((w32 (16 * x1)) + x2)).toNat)) L t) :=
  Eq.trans (e_aload_n D196_100 rfl rfl) <| Eq.trans (e_getP (p := (76, i0)) D196_101 rfl o_196 f_12_99 (sh_12 _) (by decide) (pp_12_52 _ _)) <| Eq.trans (e_iload_n D196_104 rfl rfl) <| Eq.trans (e_aload_n D196_105 rfl rfl) <| Eq.trans (e_getP (p := (88, i0)) D196_106 rfl o_196 f_12_135 (sh_12 _) (by decide) (pp_12_66 _ _)) <| Eq.trans (e_bipush (x := 16) D196_109 rfl rfl) <| Eq.trans (e_iload_n D196_111 rfl rfl) <| Eq.trans (e_imul D196_112 rfl) <| Eq.trans (e_iload_n D196_113 rfl rfl) <| Eq.trans (e_iadd D196_114 rfl) <| Eq.trans (e_iald D196_115 rfl (al_88 _) g1) <| Eq.trans (e_iast D196_116 rfl (al_76 _) rfl g2) <| Eq.trans (e_aload_n D196_117 rfl rfl) <| Eq.trans (e_getP (p := (77, i0)) D196_118 rfl o_196 f_12_102 (sh_12 _) (by decide) (pp_12_53 _ _)) <| Eq.trans (e_iload_n D196_121 rfl rfl) <| Eq.trans (e_aload_n D196_122 rfl rfl) <| Eq.trans (e_getP (p := (89, i0)) D196_123 rfl o_196 f_12_138 (sh_12 _) (by decide) (pp_12_67 _ _)) <| Eq.trans (e_bipush (x := 16) D196_126 rfl rfl) <| Eq.trans (e_iload_n D196_128 rfl rfl) <| Eq.trans (e_imul D196_129 rfl) <| Eq.trans (e_iload_n D196_130 rfl rfl) <| Eq.trans (e_iadd D196_131 rfl) <| Eq.trans (e_iald D196_132 rfl (al_89 _) g1) <| Eq.trans (e_iast D196_133 rfl (al_77 _) rfl g2) <| Eq.trans (e_iinc (ls1 := [vr 12 i0, vi x1, vi (w32 (x2 + 1))]) D196_134 rfl rfl rfl) <| e_goto (q1 := 94) D196_137 rfl
theorem b196_140 {d : Nat} {i0 : Nat} {x1 x2 : Int} {I L : Nat → Nat → Nat → Int} {t : Nat → Nat} : Res d 196 140 [vr 12 i0, vi x1, vi x2] [] (mk I L t) = some (vx, (mk I L t)) :=
  e_vret D196_140 rfl
/-! m_remembers -/
theorem cc_197 : cod 197 = cX12_remembers := rfl
theorem D197_0 : decode (cod 197) 0 = .ok (.iconst 0, 1) := by rw [cc_197]; decide +kernel
theorem D197_1 : decode (cod 197) 1 = .ok (.istore_n 2, 1) := by rw [cc_197]; decide +kernel
theorem D197_2 : decode (cod 197) 2 = .ok (.iload_n 2, 1) := by rw [cc_197]; decide +kernel
theorem D197_3 : decode (cod 197) 3 = .ok (.bipush 16, 2) := by rw [cc_197]; decide +kernel
theorem D197_5 : decode (cod 197) 5 = .ok (.if_icmp .ge 26, 3) := by rw [cc_197]; decide +kernel
theorem D197_8 : decode (cod 197) 8 = .ok (.aload_n 0, 1) := by rw [cc_197]; decide +kernel
theorem D197_9 : decode (cod 197) 9 = .ok (.getfield 135, 3) := by rw [cc_197]; decide +kernel
theorem D197_12 : decode (cod 197) 12 = .ok (.bipush 16, 2) := by rw [cc_197]; decide +kernel
theorem D197_14 : decode (cod 197) 14 = .ok (.iload_n 1, 1) := by rw [cc_197]; decide +kernel
theorem D197_15 : decode (cod 197) 15 = .ok (.imul, 1) := by rw [cc_197]; decide +kernel
theorem D197_16 : decode (cod 197) 16 = .ok (.iload_n 2, 1) := by rw [cc_197]; decide +kernel
theorem D197_17 : decode (cod 197) 17 = .ok (.iadd, 1) := by rw [cc_197]; decide +kernel
theorem D197_18 : decode (cod 197) 18 = .ok (.aload_n 0, 1) := by rw [cc_197]; decide +kernel
theorem D197_19 : decode (cod 197) 19 = .ok (.getfield 99, 3) := by rw [cc_197]; decide +kernel
theorem D197_22 : decode (cod 197) 22 = .ok (.iload_n 2, 1) := by rw [cc_197]; decide +kernel
theorem D197_23 : decode (cod 197) 23 = .ok (.iaload, 1) := by rw [cc_197]; decide +kernel
theorem D197_24 : decode (cod 197) 24 = .ok (.iastore, 1) := by rw [cc_197]; decide +kernel
theorem D197_25 : decode (cod 197) 25 = .ok (.iinc 2 1, 3) := by rw [cc_197]; decide +kernel
theorem D197_28 : decode (cod 197) 28 = .ok (.goto (-26), 3) := by rw [cc_197]; decide +kernel
theorem D197_31 : decode (cod 197) 31 = .ok (.return_, 1) := by rw [cc_197]; decide +kernel
theorem b197_0 {d : Nat} {i0 : Nat} {x1 : Int} {I L : Nat → Nat → Nat → Int} {t : Nat → Nat} : Res d 197 0 [vr 12 i0, vi x1, vx] [] (mk I L t) = Res d 197 2 [vr 12 i0, vi x1, vi 0] [] (mk I L t) :=
  Eq.trans (e_iconst (x := 0) D197_0 rfl rfl) <| e_istore_n (ls1 := [vr 12 i0, vi x1, vi 0]) D197_1 rfl (show 2 < 3 by decide) rfl
theorem b197_2 {d : Nat} {i0 : Nat} {x1 x2 : Int} {I L : Nat → Nat → Nat → Int} {t : Nat → Nat} : Res d 197 2 [vr 12 i0, vi x1, vi x2] [] (mk I L t) = if 16 ≤ x2 then Res d 197 31 [vr 12 i0, vi x1, vi x2] [] (mk I L t) else Res d 197 8 [vr 12 i0, vi x1, vi x2] [] (mk I L t) :=
  Eq.trans (e_iload_n D197_2 rfl rfl) <| Eq.trans (e_bipush (x := 16) D197_3 rfl rfl) <| e_icge D197_5 rfl rfl
theorem b197_8 {d : Nat} {i0 : Nat} {x1 x2 : Int} {I L : Nat → Nat → Nat → Int} {t : Nat → Nat} (g1 : 0 ≤ x2 ∧ x2 < 16) (g2 : 0 ≤ w32 ((w32 (16 * x1)) + x2) ∧ w32 ((w32 (16 * x1)) + x2) < 320) : Res d 197 8 [vr 12 i0, vi x1, vi x2] [] (mk I L t) = Res d 197 2 [vr 12 i0, vi x1, vi (w32 (x2 + 1))] [] (mk (up3 I 88 i0 (w32 ((w32 (16 * x1)) + x2)).toNat (I 76 i0 x2.toNat)) L t) :=
  Eq.trans (e_aload_n D197_8 rfl rfl) <| Eq.trans (e_getP (p := (88, i0)) D197_9 rfl o_197 f_12_135 (sh_12 _) (by decide) (pp_12_66 _ _)) <| Eq.trans (e_bipush (x := 16) D197_12 rfl rfl) <| Eq.trans (e_iload_n D197_14 rfl rfl) <| Eq.trans (e_imul D197_15 rfl) <| Eq.trans (e_iload_n D197_16 rfl rfl) <| Eq.trans (e_iadd D197_17 rfl) <| Eq.trans (e_aload_n D197_18 rfl rfl) <| Eq.trans (e_getP (p := (76, i0)) D197_19 rfl o_197 f_12_99 (sh_12 _) (by decide) (pp_12_52 _ _)) <| Eq.trans (e_iload_n D197_22 rfl rfl) <| Eq.trans (e_iald D197_23 rfl (al_76 _) g1) <| Eq.trans (e_iast D197_24 rfl (al_88 _) rfl g2) <| Eq.trans (e_iinc (ls1 := [vr 12 i0, vi x1, vi (w32 (x2 + 1))]) D197_25 rfl rfl rfl) <| e_goto (q1 := 2) D197_28 rfl
theorem b197_31 {d : Nat} {i0 : Nat} {x1 x2 : Int} {I L : Nat → Nat → Nat → Int} {t : Nat → Nat} : Res d 197 31 [vr 12 i0, vi x1, vi x2] [] (mk I L t) = some (vx, (mk I L t)) :=
  e_vret D197_31 rfl
/-! m_isHead -/
theorem cc_198 : cod 198 = cX12_isHead := rfl
theorem D198_0 : decode (cod 198) 0 = .ok (.iload_n 0, 1) := by rw [cc_198]; decide +kernel
theorem D198_1 : decode (cod 198) 1 = .ok (.iconst 0, 1) := by rw [cc_198]; decide +kernel
theorem D198_2 : decode (cod 198) 2 = .ok (.iconst 3, 1) := by rw [cc_198]; decide +kernel
theorem D198_3 : decode (cod 198) 3 = .ok (.invokestatic 219, 3) := by rw [cc_198]; decide +kernel
theorem D198_6 : decode (cod 198) 6 = .ok (.ireturn, 1) := by rw [cc_198]; decide +kernel
theorem b198_0 {d : Nat} {x0 : Int} {I L : Nat → Nat → Nat → Int} {t : Nat → Nat} : Res (d + 1) 198 0 [vi x0] [] (mk I L t) = (Cal d 146 [vi x0, vi 0, vi 3] (mk I L t)).bind fun v => Res (d + 1) 198 6 [vi x0] (psh 146 v.1 []) v.2 :=
  Eq.trans (e_iload_n D198_0 rfl rfl) <| Eq.trans (e_iconst (x := 0) D198_1 rfl rfl) <| Eq.trans (e_iconst (x := 3) D198_2 rfl rfl) <| e_callS D198_3 rfl o_198 m_12_219 (by decide) rfl rfl
theorem b198_6 {d : Nat} {x0 xs0 : Int} {I L : Nat → Nat → Nat → Int} {t : Nat → Nat} (g1 : xs0 = 0 ∨ xs0 = 1) : Res d 198 6 [vi x0] [vi xs0] (mk I L t) = some (vi xs0, (mk I L t)) :=
  e_iret D198_6 (nrz rfl g1)
/-! m_witness -/
theorem cc_199 : cod 199 = cX12_witness := rfl
theorem D199_0 : decode (cod 199) 0 = .ok (.iload_n 1, 1) := by rw [cc_199]; decide +kernel
theorem D199_1 : decode (cod 199) 1 = .ok (.invokestatic 449, 3) := by rw [cc_199]; decide +kernel
theorem D199_4 : decode (cod 199) 4 = .ok (.ifCond .eq 61, 3) := by rw [cc_199]; decide +kernel
theorem D199_7 : decode (cod 199) 7 = .ok (.iload_n 2, 1) := by rw [cc_199]; decide +kernel
theorem D199_8 : decode (cod 199) 8 = .ok (.invokestatic 226, 3) := by rw [cc_199]; decide +kernel
theorem D199_11 : decode (cod 199) 11 = .ok (.ifCond .eq 54, 3) := by rw [cc_199]; decide +kernel
theorem D199_14 : decode (cod 199) 14 = .ok (.aload_n 0, 1) := by rw [cc_199]; decide +kernel
theorem D199_15 : decode (cod 199) 15 = .ok (.iload_n 3, 1) := by rw [cc_199]; decide +kernel
theorem D199_16 : decode (cod 199) 16 = .ok (.invokevirtual 230, 3) := by rw [cc_199]; decide +kernel
theorem D199_19 : decode (cod 199) 19 = .ok (.ifCond .eq 46, 3) := by rw [cc_199]; decide +kernel
theorem D199_22 : decode (cod 199) 22 = .ok (.iload 4, 2) := by rw [cc_199]; decide +kernel
theorem D199_24 : decode (cod 199) 24 = .ok (.iconst 0, 1) := by rw [cc_199]; decide +kernel
theorem D199_25 : decode (cod 199) 25 = .ok (.sipush 999, 3) := by rw [cc_199]; decide +kernel
theorem D199_28 : decode (cod 199) 28 = .ok (.invokestatic 219, 3) := by rw [cc_199]; decide +kernel
theorem D199_31 : decode (cod 199) 31 = .ok (.ifCond .eq 34, 3) := by rw [cc_199]; decide +kernel
theorem D199_34 : decode (cod 199) 34 = .ok (.iload 5, 2) := by rw [cc_199]; decide +kernel
theorem D199_36 : decode (cod 199) 36 = .ok (.iconst 0, 1) := by rw [cc_199]; decide +kernel
theorem D199_37 : decode (cod 199) 37 = .ok (.bipush 9, 2) := by rw [cc_199]; decide +kernel
theorem D199_39 : decode (cod 199) 39 = .ok (.invokestatic 219, 3) := by rw [cc_199]; decide +kernel
theorem D199_42 : decode (cod 199) 42 = .ok (.ifCond .eq 23, 3) := by rw [cc_199]; decide +kernel
theorem D199_45 : decode (cod 199) 45 = .ok (.iload 6, 2) := by rw [cc_199]; decide +kernel
theorem D199_47 : decode (cod 199) 47 = .ok (.iconst 0, 1) := by rw [cc_199]; decide +kernel
theorem D199_48 : decode (cod 199) 48 = .ok (.bipush 9, 2) := by rw [cc_199]; decide +kernel
theorem D199_50 : decode (cod 199) 50 = .ok (.invokestatic 219, 3) := by rw [cc_199]; decide +kernel
theorem D199_53 : decode (cod 199) 53 = .ok (.ifCond .eq 12, 3) := by rw [cc_199]; decide +kernel
theorem D199_56 : decode (cod 199) 56 = .ok (.aload_n 0, 1) := by rw [cc_199]; decide +kernel
theorem D199_57 : decode (cod 199) 57 = .ok (.getfield 223, 3) := by rw [cc_199]; decide +kernel
theorem D199_60 : decode (cod 199) 60 = .ok (.bipush 20, 2) := by rw [cc_199]; decide +kernel
theorem D199_62 : decode (cod 199) 62 = .ok (.if_icmp .ne 5, 3) := by rw [cc_199]; decide +kernel
theorem D199_65 : decode (cod 199) 65 = .ok (.iconst (-1), 1) := by rw [cc_199]; decide +kernel
theorem D199_66 : decode (cod 199) 66 = .ok (.ireturn, 1) := by rw [cc_199]; decide +kernel
theorem D199_67 : decode (cod 199) 67 = .ok (.aload_n 0, 1) := by rw [cc_199]; decide +kernel
theorem D199_68 : decode (cod 199) 68 = .ok (.getfield 223, 3) := by rw [cc_199]; decide +kernel
theorem D199_71 : decode (cod 199) 71 = .ok (.istore 7, 2) := by rw [cc_199]; decide +kernel
theorem D199_73 : decode (cod 199) 73 = .ok (.aload_n 0, 1) := by rw [cc_199]; decide +kernel
theorem D199_74 : decode (cod 199) 74 = .ok (.getfield 111, 3) := by rw [cc_199]; decide +kernel
theorem D199_77 : decode (cod 199) 77 = .ok (.iload 7, 2) := by rw [cc_199]; decide +kernel
theorem D199_79 : decode (cod 199) 79 = .ok (.iload_n 1, 1) := by rw [cc_199]; decide +kernel
theorem D199_80 : decode (cod 199) 80 = .ok (.iastore, 1) := by rw [cc_199]; decide +kernel
theorem D199_81 : decode (cod 199) 81 = .ok (.aload_n 0, 1) := by rw [cc_199]; decide +kernel
theorem D199_82 : decode (cod 199) 82 = .ok (.getfield 114, 3) := by rw [cc_199]; decide +kernel
theorem D199_85 : decode (cod 199) 85 = .ok (.iload 7, 2) := by rw [cc_199]; decide +kernel
theorem D199_87 : decode (cod 199) 87 = .ok (.iload_n 2, 1) := by rw [cc_199]; decide +kernel
theorem D199_88 : decode (cod 199) 88 = .ok (.iastore, 1) := by rw [cc_199]; decide +kernel
theorem D199_89 : decode (cod 199) 89 = .ok (.aload_n 0, 1) := by rw [cc_199]; decide +kernel
theorem D199_90 : decode (cod 199) 90 = .ok (.getfield 117, 3) := by rw [cc_199]; decide +kernel
theorem D199_93 : decode (cod 199) 93 = .ok (.iload 7, 2) := by rw [cc_199]; decide +kernel
theorem D199_95 : decode (cod 199) 95 = .ok (.iload_n 3, 1) := by rw [cc_199]; decide +kernel
theorem D199_96 : decode (cod 199) 96 = .ok (.iastore, 1) := by rw [cc_199]; decide +kernel
theorem D199_97 : decode (cod 199) 97 = .ok (.aload_n 0, 1) := by rw [cc_199]; decide +kernel
theorem D199_98 : decode (cod 199) 98 = .ok (.getfield 120, 3) := by rw [cc_199]; decide +kernel
theorem D199_101 : decode (cod 199) 101 = .ok (.iload 7, 2) := by rw [cc_199]; decide +kernel
theorem D199_103 : decode (cod 199) 103 = .ok (.iload 4, 2) := by rw [cc_199]; decide +kernel
theorem D199_105 : decode (cod 199) 105 = .ok (.iastore, 1) := by rw [cc_199]; decide +kernel
theorem D199_106 : decode (cod 199) 106 = .ok (.aload_n 0, 1) := by rw [cc_199]; decide +kernel
theorem D199_107 : decode (cod 199) 107 = .ok (.getfield 123, 3) := by rw [cc_199]; decide +kernel
theorem D199_110 : decode (cod 199) 110 = .ok (.iload 7, 2) := by rw [cc_199]; decide +kernel
theorem D199_112 : decode (cod 199) 112 = .ok (.iload 5, 2) := by rw [cc_199]; decide +kernel
theorem D199_114 : decode (cod 199) 114 = .ok (.iastore, 1) := by rw [cc_199]; decide +kernel
theorem D199_115 : decode (cod 199) 115 = .ok (.aload_n 0, 1) := by rw [cc_199]; decide +kernel
theorem D199_116 : decode (cod 199) 116 = .ok (.getfield 126, 3) := by rw [cc_199]; decide +kernel
theorem D199_119 : decode (cod 199) 119 = .ok (.iload 7, 2) := by rw [cc_199]; decide +kernel
theorem D199_121 : decode (cod 199) 121 = .ok (.iload 6, 2) := by rw [cc_199]; decide +kernel
theorem D199_123 : decode (cod 199) 123 = .ok (.iastore, 1) := by rw [cc_199]; decide +kernel
theorem D199_124 : decode (cod 199) 124 = .ok (.aload_n 0, 1) := by rw [cc_199]; decide +kernel
theorem D199_125 : decode (cod 199) 125 = .ok (.getfield 129, 3) := by rw [cc_199]; decide +kernel
theorem D199_128 : decode (cod 199) 128 = .ok (.iload 7, 2) := by rw [cc_199]; decide +kernel
theorem D199_130 : decode (cod 199) 130 = .ok (.aload_n 0, 1) := by rw [cc_199]; decide +kernel
theorem D199_131 : decode (cod 199) 131 = .ok (.getfield 446, 3) := by rw [cc_199]; decide +kernel
theorem D199_134 : decode (cod 199) 134 = .ok (.iastore, 1) := by rw [cc_199]; decide +kernel
theorem D199_135 : decode (cod 199) 135 = .ok (.aload_n 0, 1) := by rw [cc_199]; decide +kernel
theorem D199_136 : decode (cod 199) 136 = .ok (.getfield 150, 3) := by rw [cc_199]; decide +kernel
theorem D199_139 : decode (cod 199) 139 = .ok (.iload 7, 2) := by rw [cc_199]; decide +kernel
theorem D199_141 : decode (cod 199) 141 = .ok (.aload_n 0, 1) := by rw [cc_199]; decide +kernel
theorem D199_142 : decode (cod 199) 142 = .ok (.getfield 443, 3) := by rw [cc_199]; decide +kernel
theorem D199_145 : decode (cod 199) 145 = .ok (.iastore, 1) := by rw [cc_199]; decide +kernel
theorem D199_146 : decode (cod 199) 146 = .ok (.iconst 0, 1) := by rw [cc_199]; decide +kernel
theorem D199_147 : decode (cod 199) 147 = .ok (.istore 8, 2) := by rw [cc_199]; decide +kernel
theorem D199_149 : decode (cod 199) 149 = .ok (.iload 8, 2) := by rw [cc_199]; decide +kernel
theorem D199_151 : decode (cod 199) 151 = .ok (.bipush 16, 2) := by rw [cc_199]; decide +kernel
theorem D199_153 : decode (cod 199) 153 = .ok (.if_icmp .ge 39, 3) := by rw [cc_199]; decide +kernel
theorem D199_156 : decode (cod 199) 156 = .ok (.aload_n 0, 1) := by rw [cc_199]; decide +kernel
theorem D199_157 : decode (cod 199) 157 = .ok (.getfield 138, 3) := by rw [cc_199]; decide +kernel
theorem D199_160 : decode (cod 199) 160 = .ok (.bipush 16, 2) := by rw [cc_199]; decide +kernel
theorem D199_162 : decode (cod 199) 162 = .ok (.iload 7, 2) := by rw [cc_199]; decide +kernel
theorem D199_164 : decode (cod 199) 164 = .ok (.imul, 1) := by rw [cc_199]; decide +kernel
theorem D199_165 : decode (cod 199) 165 = .ok (.iload 8, 2) := by rw [cc_199]; decide +kernel
theorem D199_167 : decode (cod 199) 167 = .ok (.iadd, 1) := by rw [cc_199]; decide +kernel
theorem D199_168 : decode (cod 199) 168 = .ok (.aload_n 0, 1) := by rw [cc_199]; decide +kernel
theorem D199_169 : decode (cod 199) 169 = .ok (.getfield 19, 3) := by rw [cc_199]; decide +kernel
theorem D199_172 : decode (cod 199) 172 = .ok (.bipush 16, 2) := by rw [cc_199]; decide +kernel
theorem D199_174 : decode (cod 199) 174 = .ok (.aload_n 0, 1) := by rw [cc_199]; decide +kernel
theorem D199_175 : decode (cod 199) 175 = .ok (.getfield 13, 3) := by rw [cc_199]; decide +kernel
theorem D199_178 : decode (cod 199) 178 = .ok (.iload_n 3, 1) := by rw [cc_199]; decide +kernel
theorem D199_179 : decode (cod 199) 179 = .ok (.iaload, 1) := by rw [cc_199]; decide +kernel
theorem D199_180 : decode (cod 199) 180 = .ok (.imul, 1) := by rw [cc_199]; decide +kernel
theorem D199_181 : decode (cod 199) 181 = .ok (.iload 8, 2) := by rw [cc_199]; decide +kernel
theorem D199_183 : decode (cod 199) 183 = .ok (.iadd, 1) := by rw [cc_199]; decide +kernel
theorem D199_184 : decode (cod 199) 184 = .ok (.iaload, 1) := by rw [cc_199]; decide +kernel
theorem D199_185 : decode (cod 199) 185 = .ok (.iastore, 1) := by rw [cc_199]; decide +kernel
theorem D199_186 : decode (cod 199) 186 = .ok (.iinc 8 1, 3) := by rw [cc_199]; decide +kernel
theorem D199_189 : decode (cod 199) 189 = .ok (.goto (-40), 3) := by rw [cc_199]; decide +kernel
theorem D199_192 : decode (cod 199) 192 = .ok (.aload_n 0, 1) := by rw [cc_199]; decide +kernel
theorem D199_193 : decode (cod 199) 193 = .ok (.iload_n 1, 1) := by rw [cc_199]; decide +kernel
theorem D199_194 : decode (cod 199) 194 = .ok (.iload_n 2, 1) := by rw [cc_199]; decide +kernel
theorem D199_195 : decode (cod 199) 195 = .ok (.iload_n 3, 1) := by rw [cc_199]; decide +kernel
theorem D199_196 : decode (cod 199) 196 = .ok (.iload 4, 2) := by rw [cc_199]; decide +kernel
theorem D199_198 : decode (cod 199) 198 = .ok (.iload 5, 2) := by rw [cc_199]; decide +kernel
theorem D199_200 : decode (cod 199) 200 = .ok (.iload 6, 2) := by rw [cc_199]; decide +kernel
theorem D199_202 : decode (cod 199) 202 = .ok (.iconst 0, 1) := by rw [cc_199]; decide +kernel
theorem D199_203 : decode (cod 199) 203 = .ok (.invokevirtual 452, 3) := by rw [cc_199]; decide +kernel
theorem D199_206 : decode (cod 199) 206 = .ok (.aload_n 0, 1) := by rw [cc_199]; decide +kernel
theorem D199_207 : decode (cod 199) 207 = .ok (.iload 7, 2) := by rw [cc_199]; decide +kernel
theorem D199_209 : decode (cod 199) 209 = .ok (.invokevirtual 456, 3) := by rw [cc_199]; decide +kernel
theorem D199_212 : decode (cod 199) 212 = .ok (.aload_n 0, 1) := by rw [cc_199]; decide +kernel
theorem D199_213 : decode (cod 199) 213 = .ok (.dup, 1) := by rw [cc_199]; decide +kernel
theorem D199_214 : decode (cod 199) 214 = .ok (.getfield 223, 3) := by rw [cc_199]; decide +kernel
theorem D199_217 : decode (cod 199) 217 = .ok (.iconst 1, 1) := by rw [cc_199]; decide +kernel
theorem D199_218 : decode (cod 199) 218 = .ok (.iadd, 1) := by rw [cc_199]; decide +kernel
theorem D199_219 : decode (cod 199) 219 = .ok (.putfield 223, 3) := by rw [cc_199]; decide +kernel
theorem D199_222 : decode (cod 199) 222 = .ok (.iload 7, 2) := by rw [cc_199]; decide +kernel
theorem D199_224 : decode (cod 199) 224 = .ok (.ireturn, 1) := by rw [cc_199]; decide +kernel
theorem b199_0 {d : Nat} {i0 : Nat} {x1 x2 x3 x4 x5 x6 : Int} {I L : Nat → Nat → Nat → Int} {t : Nat → Nat} : Res (d + 1) 199 0 [vr 12 i0, vi x1, vi x2, vi x3, vi x4, vi x5, vi x6, vx, vx] [] (mk I L t) = (Cal d 198 [vi x1] (mk I L t)).bind fun v => Res (d + 1) 199 4 [vr 12 i0, vi x1, vi x2, vi x3, vi x4, vi x5, vi x6, vx, vx] (psh 198 v.1 []) v.2 :=
  Eq.trans (e_iload_n D199_0 rfl rfl) <| e_callS D199_1 rfl o_199 m_12_449 (by decide) rfl rfl
theorem b199_4 {d : Nat} {i0 : Nat} {x1 x2 x3 x4 x5 x6 xs0 : Int} {I L : Nat → Nat → Nat → Int} {t : Nat → Nat} : Res d 199 4 [vr 12 i0, vi x1, vi x2, vi x3, vi x4, vi x5, vi x6, vx, vx] [vi xs0] (mk I L t) = if xs0 = 0 then Res d 199 65 [vr 12 i0, vi x1, vi x2, vi x3, vi x4, vi x5, vi x6, vx, vx] [] (mk I L t) else Res d 199 7 [vr 12 i0, vi x1, vi x2, vi x3, vi x4, vi x5, vi x6, vx, vx] [] (mk I L t) :=
  e_ifeq D199_4 rfl rfl
theorem b199_7 {d : Nat} {i0 : Nat} {x1 x2 x3 x4 x5 x6 : Int} {I L : Nat → Nat → Nat → Int} {t : Nat → Nat} : Res (d + 1) 199 7 [vr 12 i0, vi x1, vi x2, vi x3, vi x4, vi x5, vi x6, vx, vx] [] (mk I L t) = (Cal d 149 [vi x2] (mk I L t)).bind fun v => Res (d + 1) 199 11 [vr 12 i0, vi x1, vi x2, vi x3, vi x4, vi x5, vi x6, vx, vx] (psh 149 v.1 []) v.2 :=
  Eq.trans (e_iload_n D199_7 rfl rfl) <| e_callS D199_8 rfl o_199 m_12_226 (by decide) rfl rfl
theorem b199_11 {d : Nat} {i0 : Nat} {x1 x2 x3 x4 x5 x6 xs0 : Int} {I L : Nat → Nat → Nat → Int} {t : Nat → Nat} : Res d 199 11 [vr 12 i0, vi x1, vi x2, vi x3, vi x4, vi x5, vi x6, vx, vx] [vi xs0] (mk I L t) = if xs0 = 0 then Res d 199 65 [vr 12 i0, vi x1, vi x2, vi x3, vi x4, vi x5, vi x6, vx, vx] [] (mk I L t) else Res d 199 14 [vr 12 i0, vi x1, vi x2, vi x3, vi x4, vi x5, vi x6, vx, vx] [] (mk I L t) :=
  e_ifeq D199_11 rfl rfl
theorem b199_14 {d : Nat} {i0 : Nat} {x1 x2 x3 x4 x5 x6 : Int} {I L : Nat → Nat → Nat → Int} {t : Nat → Nat} : Res (d + 1) 199 14 [vr 12 i0, vi x1, vi x2, vi x3, vi x4, vi x5, vi x6, vx, vx] [] (mk I L t) = (Cal d 147 [vr 12 i0, vi x3] (mk I L t)).bind fun v => Res (d + 1) 199 19 [vr 12 i0, vi x1, vi x2, vi x3, vi x4, vi x5, vi x6, vx, vx] (psh 147 v.1 []) v.2 :=
  Eq.trans (e_aload_n D199_14 rfl rfl) <| Eq.trans (e_iload_n D199_15 rfl rfl) <| e_callV D199_16 rfl o_199 m_12_230 (by decide) rfl rfl
theorem b199_19 {d : Nat} {i0 : Nat} {x1 x2 x3 x4 x5 x6 xs0 : Int} {I L : Nat → Nat → Nat → Int} {t : Nat → Nat} : Res d 199 19 [vr 12 i0, vi x1, vi x2, vi x3, vi x4, vi x5, vi x6, vx, vx] [vi xs0] (mk I L t) = if xs0 = 0 then Res d 199 65 [vr 12 i0, vi x1, vi x2, vi x3, vi x4, vi x5, vi x6, vx, vx] [] (mk I L t) else Res d 199 22 [vr 12 i0, vi x1, vi x2, vi x3, vi x4, vi x5, vi x6, vx, vx] [] (mk I L t) :=
  e_ifeq D199_19 rfl rfl
theorem b199_22 {d : Nat} {i0 : Nat} {x1 x2 x3 x4 x5 x6 : Int} {I L : Nat → Nat → Nat → Int} {t : Nat → Nat} : Res (d + 1) 199 22 [vr 12 i0, vi x1, vi x2, vi x3, vi x4, vi x5, vi x6, vx, vx] [] (mk I L t) = (Cal d 146 [vi x4, vi 0, vi 999] (mk I L t)).bind fun v => Res (d + 1) 199 31 [vr 12 i0, vi x1, vi x2, vi x3, vi x4, vi x5, vi x6, vx, vx] (psh 146 v.1 []) v.2 :=
  Eq.trans (e_iload D199_22 rfl rfl) <| Eq.trans (e_iconst (x := 0) D199_24 rfl rfl) <| Eq.trans (e_sipush (x := 999) D199_25 rfl rfl) <| e_callS D199_28 rfl o_199 m_12_219 (by decide) rfl rfl
theorem b199_31 {d : Nat} {i0 : Nat} {x1 x2 x3 x4 x5 x6 xs0 : Int} {I L : Nat → Nat → Nat → Int} {t : Nat → Nat} : Res d 199 31 [vr 12 i0, vi x1, vi x2, vi x3, vi x4, vi x5, vi x6, vx, vx] [vi xs0] (mk I L t) = if xs0 = 0 then Res d 199 65 [vr 12 i0, vi x1, vi x2, vi x3, vi x4, vi x5, vi x6, vx, vx] [] (mk I L t) else Res d 199 34 [vr 12 i0, vi x1, vi x2, vi x3, vi x4, vi x5, vi x6, vx, vx] [] (mk I L t) :=
  e_ifeq D199_31 rfl rfl
theorem b199_34 {d : Nat} {i0 : Nat} {x1 x2 x3 x4 x5 x6 : Int} {I L : Nat → Nat → Nat → Int} {t : Nat → Nat} : Res (d + 1) 199 34 [vr 12 i0, vi x1, vi x2, vi x3, vi x4, vi x5, vi x6, vx, vx] [] (mk I L t) = (Cal d 146 [vi x5, vi 0, vi 9] (mk I L t)).bind fun v => Res (d + 1) 199 42 [vr 12 i0, vi x1, vi x2, vi x3, vi x4, vi x5, vi x6, vx, vx] (psh 146 v.1 []) v.2 :=
  Eq.trans (e_iload D199_34 rfl rfl) <| Eq.trans (e_iconst (x := 0) D199_36 rfl rfl) <| Eq.trans (e_bipush (x := 9) D199_37 rfl rfl) <| e_callS D199_39 rfl o_199 m_12_219 (by decide) rfl rfl
theorem b199_42 {d : Nat} {i0 : Nat} {x1 x2 x3 x4 x5 x6 xs0 : Int} {I L : Nat → Nat → Nat → Int} {t : Nat → Nat} : Res d 199 42 [vr 12 i0, vi x1, vi x2, vi x3, vi x4, vi x5, vi x6, vx, vx] [vi xs0] (mk I L t) = if xs0 = 0 then Res d 199 65 [vr 12 i0, vi x1, vi x2, vi x3, vi x4, vi x5, vi x6, vx, vx] [] (mk I L t) else Res d 199 45 [vr 12 i0, vi x1, vi x2, vi x3, vi x4, vi x5, vi x6, vx, vx] [] (mk I L t) :=
  e_ifeq D199_42 rfl rfl
theorem b199_45 {d : Nat} {i0 : Nat} {x1 x2 x3 x4 x5 x6 : Int} {I L : Nat → Nat → Nat → Int} {t : Nat → Nat} : Res (d + 1) 199 45 [vr 12 i0, vi x1, vi x2, vi x3, vi x4, vi x5, vi x6, vx, vx] [] (mk I L t) = (Cal d 146 [vi x6, vi 0, vi 9] (mk I L t)).bind fun v => Res (d + 1) 199 53 [vr 12 i0, vi x1, vi x2, vi x3, vi x4, vi x5, vi x6, vx, vx] (psh 146 v.1 []) v.2 :=
  Eq.trans (e_iload D199_45 rfl rfl) <| Eq.trans (e_iconst (x := 0) D199_47 rfl rfl) <| Eq.trans (e_bipush (x := 9) D199_48 rfl rfl) <| e_callS D199_50 rfl o_199 m_12_219 (by decide) rfl rfl
theorem b199_53 {d : Nat} {i0 : Nat} {x1 x2 x3 x4 x5 x6 xs0 : Int} {I L : Nat → Nat → Nat → Int} {t : Nat → Nat} : Res d 199 53 [vr 12 i0, vi x1, vi x2, vi x3, vi x4, vi x5, vi x6, vx, vx] [vi xs0] (mk I L t) = if xs0 = 0 then Res d 199 65 [vr 12 i0, vi x1, vi x2, vi x3, vi x4, vi x5, vi x6, vx, vx] [] (mk I L t) else Res d 199 56 [vr 12 i0, vi x1, vi x2, vi x3, vi x4, vi x5, vi x6, vx, vx] [] (mk I L t) :=
  e_ifeq D199_53 rfl rfl
theorem b199_56 {d : Nat} {i0 : Nat} {x1 x2 x3 x4 x5 x6 : Int} {I L : Nat → Nat → Nat → Int} {t : Nat → Nat} : Res d 199 56 [vr 12 i0, vi x1, vi x2, vi x3, vi x4, vi x5, vi x6, vx, vx] [] (mk I L t) = if ¬ I 12 i0 2 = 20 then Res d 199 67 [vr 12 i0, vi x1, vi x2, vi x3, vi x4, vi x5, vi x6, vx, vx] [] (mk I L t) else Res d 199 65 [vr 12 i0, vi x1, vi x2, vi x3, vi x4, vi x5, vi x6, vx, vx] [] (mk I L t) :=
  Eq.trans (e_aload_n D199_56 rfl rfl) <| Eq.trans (e_getI D199_57 rfl o_199 f_12_223 (sh_12 _) (by decide)) <| Eq.trans (e_bipush (x := 20) D199_60 rfl rfl) <| e_icne D199_62 rfl rfl
theorem b199_65 {d : Nat} {i0 : Nat} {x1 x2 x3 x4 x5 x6 : Int} {I L : Nat → Nat → Nat → Int} {t : Nat → Nat} : Res d 199 65 [vr 12 i0, vi x1, vi x2, vi x3, vi x4, vi x5, vi x6, vx, vx] [] (mk I L t) = some (vi (-1), (mk I L t)) :=
  Eq.trans (e_iconst (x := -1) D199_65 rfl rfl) <| e_iret D199_66 rfl
theorem b199_67 {d : Nat} {i0 : Nat} {x1 x2 x3 x4 x5 x6 : Int} {I L : Nat → Nat → Nat → Int} {t : Nat → Nat} (g1 : 0 ≤ I 12 i0 2 ∧ I 12 i0 2 < 20) : Res d 199 67 [vr 12 i0, vi x1, vi x2, vi x3, vi x4, vi x5, vi x6, vx, vx] [] (mk I L t) = Res d 199 149 [vr 12 i0, vi x1, vi x2, vi x3, vi x4, vi x5, vi x6, vi (I 12 i0 2), vi 0] [] (mk (up3 (up3 (up3 (up3 (up3 (up3 (up3 (up3 I 80 i0 (I 12 i0 2).toNat x1) 81 i0 (I 12 i0 2).toNat x2) 82 i0 (I 12 i0 2).toNat x3) 83 i0 (I 12 i0 2).toNat x4) 84 i0 (I 12 i0 2).toNat x5) 85 i0 (I 12 i0 2).toNat x6) 86 i0 (I 12 i0 2).toNat ((up3 (up3 (up3 (up3 (up3 (up3 I 80 i0 (I 12 i0 2).toNat x1) 81 i0 (I 12 i0 2).toNat x2) 82 i0 (I 12 i0 2).toNat x3) 83 i0 (I 12 i0 2).toNat x4) 84 i0 (I 12 i0 2).toNat x5) 85 i0 (I 12 i0 2).toNat x6) 12 i0 0)) 93 i0 (I 12 i0 2).toNat ((up3 (up3 (up3 (up3 (up3 (up3 (up3 I 80 i0 (I 12 i0 2).toNat x1) 81 i0 (I 12 i0 2).toNat x2) 82 i0 (I 12 i0 2).toNat x3) 83 i0 (I 12 i0 2).toNat x4) 84 i0 (I 12 i0 2).toNat x5) 85 i0 (I 12 i0 2).toNat x6) 86 i0 (I 12 i0 2).toNat ((up3 (up3 (up3 (up3 (up3 (up3 I 80 i0 (I 12 i0 2).toNat x1) 81 i0 (I 12 i0 2).toNat x2) 82 i0 (I 12 i0 2).toNat x3) 83 i0 (I 12 i0 2).toNat x4) 84 i0 (I 12 i0 2).toNat x5) 85 i0 (I 12 i0 2).toNat x6) 12 i0 0)) 12 i0 72)) L t) :=
  Eq.trans (e_aload_n D199_67 rfl rfl) <| Eq.trans (e_getI D199_68 rfl o_199 f_12_223 (sh_12 _) (by decide)) <| Eq.trans (e_istore (ls1 := [vr 12 i0, vi x1, vi x2, vi x3, vi x4, vi x5, vi x6, vi (I 12 i0 2), vx]) D199_71 rfl (show 7 < 9 by decide) rfl) <| Eq.trans (e_aload_n D199_73 rfl rfl) <| Eq.trans (e_getP (p := (80, i0)) D199_74 rfl o_199 f_12_111 (sh_12 _) (by decide) (pp_12_58 _ _)) <| Eq.trans (e_iload D199_77 rfl rfl) <| Eq.trans (e_iload_n D199_79 rfl rfl) <| Eq.trans (e_iast D199_80 rfl (al_80 _) rfl g1) <| Eq.trans (e_aload_n D199_81 rfl rfl) <| Eq.trans (e_getP (p := (81, i0)) D199_82 rfl o_199 f_12_114 (sh_12 _) (by decide) (pp_12_59 _ _)) <| Eq.trans (e_iload D199_85 rfl rfl) <| Eq.trans (e_iload_n D199_87 rfl rfl) <| Eq.trans (e_iast D199_88 rfl (al_81 _) rfl g1) <| Eq.trans (e_aload_n D199_89 rfl rfl) <| Eq.trans (e_getP (p := (82, i0)) D199_90 rfl o_199 f_12_117 (sh_12 _) (by decide) (pp_12_60 _ _)) <| Eq.trans (e_iload D199_93 rfl rfl) <| Eq.trans (e_iload_n D199_95 rfl rfl) <| Eq.trans (e_iast D199_96 rfl (al_82 _) rfl g1) <| Eq.trans (e_aload_n D199_97 rfl rfl) <| Eq.trans (e_getP (p := (83, i0)) D199_98 rfl o_199 f_12_120 (sh_12 _) (by decide) (pp_12_61 _ _)) <| Eq.trans (e_iload D199_101 rfl rfl) <| Eq.trans (e_iload D199_103 rfl rfl) <| Eq.trans (e_iast D199_105 rfl (al_83 _) rfl g1) <| Eq.trans (e_aload_n D199_106 rfl rfl) <| Eq.trans (e_getP (p := (84, i0)) D199_107 rfl o_199 f_12_123 (sh_12 _) (by decide) (pp_12_62 _ _)) <| Eq.trans (e_iload D199_110 rfl rfl) <| Eq.trans (e_iload D199_112 rfl rfl) <| Eq.trans (e_iast D199_114 rfl (al_84 _) rfl g1) <| Eq.trans (e_aload_n D199_115 rfl rfl) <| Eq.trans (e_getP (p := (85, i0)) D199_116 rfl o_199 f_12_126 (sh_12 _) (by decide) (pp_12_63 _ _)) <| Eq.trans (e_iload D199_119 rfl rfl) <| Eq.trans (e_iload D199_121 rfl rfl) <| Eq.trans (e_iast D199_123 rfl (al_85 _) rfl g1) <| Eq.trans (e_aload_n D199_124 rfl rfl) <| Eq.trans (e_getP (p := (86, i0)) D199_125 rfl o_199 f_12_129 (sh_12 _) (by decide) (pp_12_64 _ _)) <| Eq.trans (e_iload D199_128 rfl rfl) <| Eq.trans (e_aload_n D199_130 rfl rfl) <| Eq.trans (e_getI D199_131 rfl o_199 f_12_446 (sh_12 _) (by decide)) <| Eq.trans (e_iast D199_134 rfl (al_86 _) rfl g1) <| Eq.trans (e_aload_n D199_135 rfl rfl) <| Eq.trans (e_getP (p := (93, i0)) D199_136 rfl o_199 f_12_150 (sh_12 _) (by decide) (pp_12_71 _ _)) <| Eq.trans (e_iload D199_139 rfl rfl) <| Eq.trans (e_aload_n D199_141 rfl rfl) <| Eq.trans (e_getI D199_142 rfl o_199 f_12_443 (sh_12 _) (by decide)) <| Eq.trans (e_iast D199_145 rfl (al_93 _) rfl g1) <| Eq.trans (e_iconst (x := 0) D199_146 rfl rfl) <| e_istore (ls1 := [vr 12 i0, vi x1, vi x2, vi x3, vi x4, vi x5, vi x6, vi (I 12 i0 2), vi 0]) D199_147 rfl (show 8 < 9 by decide) rfl
theorem b199_149 {d : Nat} {i0 : Nat} {x1 x2 x3 x4 x5 x6 x7 x8 : Int} {I L : Nat → Nat → Nat → Int} {t : Nat → Nat} : Res d 199 149 [vr 12 i0, vi x1, vi x2, vi x3, vi x4, vi x5, vi x6, vi x7, vi x8] [] (mk I L t) = if 16 ≤ x8 then Res d 199 192 [vr 12 i0, vi x1, vi x2, vi x3, vi x4, vi x5, vi x6, vi x7, vi x8] [] (mk I L t) else Res d 199 156 [vr 12 i0, vi x1, vi x2, vi x3, vi x4, vi x5, vi x6, vi x7, vi x8] [] (mk I L t) :=
  Eq.trans (e_iload D199_149 rfl rfl) <| Eq.trans (e_bipush (x := 16) D199_151 rfl rfl) <| e_icge D199_153 rfl rfl
theorem b199_156 {d : Nat} {i0 : Nat} {x1 x2 x3 x4 x5 x6 x7 x8 : Int} {I L : Nat → Nat → Nat → Int} {t : Nat → Nat} (g1 : 0 ≤ x3 ∧ x3 < 132) (g2 : 0 ≤ w32 ((w32 (16 * (I 49 i0 x3.toNat))) + x8) ∧ w32 ((w32 (16 * (I 49 i0 x3.toNat))) + x8) < 96) (g3 : 0 ≤ w32 ((w32 (16 * x7)) + x8) ∧ w32 ((w32 (16 * x7)) + x8) < 320) : Res d 199 156 [vr 12 i0, vi x1, vi x2, vi x3, vi x4, vi x5, vi x6, vi x7, vi x8] [] (mk I L t) = Res d 199 149 [vr 12 i0, vi x1, vi x2, vi x3, vi x4, vi x5, vi x6, vi x7, vi (w32 (x8 + 1))] [] (mk (up3 I 89 i0 (w32 ((w32 (16 * x7)) + x8)).toNat (I 51 i0 (w32 ((w32 (16 * (I 49 i0 x3.toNat))) + x8)).toNat)) L t) :=
  Eq.trans (e_aload_n D199_156 rfl rfl) <| Eq.trans (e_getP (p := (89, i0)) D199_157 rfl o_199 f_12_138 (sh_12 _) (by decide) (pp_12_67 _ _)) <| Eq.trans (e_bipush (x := 16) D199_160 rfl rfl) <| Eq.trans (e_iload D199_162 rfl rfl) <| Eq.trans (e_imul D199_164 rfl) <| Eq.trans (e_iload D199_165 rfl rfl) <| Eq.trans (e_iadd D199_167 rfl) <| Eq.trans (e_aload_n D199_168 rfl rfl) <| Eq.trans (e_getP (p := (51, i0)) D199_169 rfl o_199 f_12_19 (sh_12 _) (by decide) (pp_12_8 _ _)) <| Eq.trans (e_bipush (x := 16) D199_172 rfl rfl) <| Eq.trans (e_aload_n D199_174 rfl rfl) <| Eq.trans (e_getP (p := (49, i0)) D199_175 rfl o_199 f_12_13 (sh_12 _) (by decide) (pp_12_6 _ _)) <| Eq.trans (e_iload_n D199_178 rfl rfl) <| Eq.trans (e_iald D199_179 rfl (al_49 _) g1) <| Eq.trans (e_imul D199_180 rfl) <| Eq.trans (e_iload D199_181 rfl rfl) <| Eq.trans (e_iadd D199_183 rfl) <| Eq.trans (e_iald D199_184 rfl (al_51 _) g2) <| Eq.trans (e_iast D199_185 rfl (al_89 _) rfl g3) <| Eq.trans (e_iinc (ls1 := [vr 12 i0, vi x1, vi x2, vi x3, vi x4, vi x5, vi x6, vi x7, vi (w32 (x8 + 1))]) D199_186 rfl rfl rfl) <| e_goto (q1 := 149) D199_189 rfl
theorem b199_192 {d : Nat} {i0 : Nat} {x1 x2 x3 x4 x5 x6 x7 x8 : Int} {I L : Nat → Nat → Nat → Int} {t : Nat → Nat} : Res (d + 1) 199 192 [vr 12 i0, vi x1, vi x2, vi x3, vi x4, vi x5, vi x6, vi x7, vi x8] [] (mk I L t) = (Cal d 191 [vr 12 i0, vi x1, vi x2, vi x3, vi x4, vi x5, vi x6, vi 0] (mk I L t)).bind fun v => Res (d + 1) 199 206 [vr 12 i0, vi x1, vi x2, vi x3, vi x4, vi x5, vi x6, vi x7, vi x8] (psh 191 v.1 []) v.2 :=
  Eq.trans (e_aload_n D199_192 rfl rfl) <| Eq.trans (e_iload_n D199_193 rfl rfl) <| Eq.trans (e_iload_n D199_194 rfl rfl) <| Eq.trans (e_iload_n D199_195 rfl rfl) <| Eq.trans (e_iload D199_196 rfl rfl) <| Eq.trans (e_iload D199_198 rfl rfl) <| Eq.trans (e_iload D199_200 rfl rfl) <| Eq.trans (e_iconst (x := 0) D199_202 rfl rfl) <| e_callV D199_203 rfl o_199 m_12_452 (by decide) rfl rfl
theorem b199_206 {d : Nat} {i0 : Nat} {x1 x2 x3 x4 x5 x6 x7 x8 : Int} {I L : Nat → Nat → Nat → Int} {t : Nat → Nat} : Res (d + 1) 199 206 [vr 12 i0, vi x1, vi x2, vi x3, vi x4, vi x5, vi x6, vi x7, vi x8] [] (mk I L t) = (Cal d 197 [vr 12 i0, vi x7] (mk I L t)).bind fun v => Res (d + 1) 199 212 [vr 12 i0, vi x1, vi x2, vi x3, vi x4, vi x5, vi x6, vi x7, vi x8] (psh 197 v.1 []) v.2 :=
  Eq.trans (e_aload_n D199_206 rfl rfl) <| Eq.trans (e_iload D199_207 rfl rfl) <| e_callV D199_209 rfl o_199 m_12_456 (by decide) rfl rfl
theorem b199_212 {d : Nat} {i0 : Nat} {x1 x2 x3 x4 x5 x6 x7 x8 : Int} {I L : Nat → Nat → Nat → Int} {t : Nat → Nat} : Res d 199 212 [vr 12 i0, vi x1, vi x2, vi x3, vi x4, vi x5, vi x6, vi x7, vi x8] [] (mk I L t) = some (vi x7, (mk (up3 I 12 i0 2 (w32 ((I 12 i0 2) + 1))) L t)) :=
  Eq.trans (e_aload_n D199_212 rfl rfl) <| Eq.trans (e_dup D199_213 rfl) <| Eq.trans (e_getI D199_214 rfl o_199 f_12_223 (sh_12 _) (by decide)) <| Eq.trans (e_iconst (x := 1) D199_217 rfl rfl) <| Eq.trans (e_iadd D199_218 rfl) <| Eq.trans (e_putI D199_219 rfl o_199 f_12_223 (sh_12 _) rfl (by decide) (Or.inl (by decide))) <| Eq.trans (e_iload D199_222 rfl rfl) <| e_iret D199_224 rfl
/-! m_days -/
theorem cc_200 : cod 200 = cX12_days := rfl
theorem D200_0 : decode (cod 200) 0 = .ok (.iload_n 1, 1) := by rw [cc_200]; decide +kernel
theorem D200_1 : decode (cod 200) 1 = .ok (.iconst 1, 1) := by rw [cc_200]; decide +kernel
theorem D200_2 : decode (cod 200) 2 = .ok (.bipush 60, 2) := by rw [cc_200]; decide +kernel
theorem D200_4 : decode (cod 200) 4 = .ok (.invokestatic 219, 3) := by rw [cc_200]; decide +kernel
theorem D200_7 : decode (cod 200) 7 = .ok (.ifCond .eq 15, 3) := by rw [cc_200]; decide +kernel
theorem D200_10 : decode (cod 200) 10 = .ok (.aload_n 0, 1) := by rw [cc_200]; decide +kernel
theorem D200_11 : decode (cod 200) 11 = .ok (.getfield 446, 3) := by rw [cc_200]; decide +kernel
theorem D200_14 : decode (cod 200) 14 = .ok (.sipush 999, 3) := by rw [cc_200]; decide +kernel
theorem D200_17 : decode (cod 200) 17 = .ok (.iload_n 1, 1) := by rw [cc_200]; decide +kernel
theorem D200_18 : decode (cod 200) 18 = .ok (.isub, 1) := by rw [cc_200]; decide +kernel
theorem D200_19 : decode (cod 200) 19 = .ok (.if_icmp .le 5, 3) := by rw [cc_200]; decide +kernel
theorem D200_22 : decode (cod 200) 22 = .ok (.iconst (-1), 1) := by rw [cc_200]; decide +kernel
theorem D200_23 : decode (cod 200) 23 = .ok (.ireturn, 1) := by rw [cc_200]; decide +kernel
theorem D200_24 : decode (cod 200) 24 = .ok (.iconst 0, 1) := by rw [cc_200]; decide +kernel
theorem D200_25 : decode (cod 200) 25 = .ok (.istore_n 2, 1) := by rw [cc_200]; decide +kernel
theorem D200_26 : decode (cod 200) 26 = .ok (.iload_n 2, 1) := by rw [cc_200]; decide +kernel
theorem D200_27 : decode (cod 200) 27 = .ok (.iload_n 1, 1) := by rw [cc_200]; decide +kernel
theorem D200_28 : decode (cod 200) 28 = .ok (.if_icmp .ge 56, 3) := by rw [cc_200]; decide +kernel
theorem D200_31 : decode (cod 200) 31 = .ok (.iconst 0, 1) := by rw [cc_200]; decide +kernel
theorem D200_32 : decode (cod 200) 32 = .ok (.istore_n 3, 1) := by rw [cc_200]; decide +kernel
theorem D200_33 : decode (cod 200) 33 = .ok (.iload_n 3, 1) := by rw [cc_200]; decide +kernel
theorem D200_34 : decode (cod 200) 34 = .ok (.aload_n 0, 1) := by rw [cc_200]; decide +kernel
theorem D200_35 : decode (cod 200) 35 = .ok (.getfield 223, 3) := by rw [cc_200]; decide +kernel
theorem D200_38 : decode (cod 200) 38 = .ok (.if_icmp .ge 23, 3) := by rw [cc_200]; decide +kernel
theorem D200_41 : decode (cod 200) 41 = .ok (.aload_n 0, 1) := by rw [cc_200]; decide +kernel
theorem D200_42 : decode (cod 200) 42 = .ok (.iload_n 3, 1) := by rw [cc_200]; decide +kernel
theorem D200_43 : decode (cod 200) 43 = .ok (.invokevirtual 459, 3) := by rw [cc_200]; decide +kernel
theorem D200_46 : decode (cod 200) 46 = .ok (.aload_n 0, 1) := by rw [cc_200]; decide +kernel
theorem D200_47 : decode (cod 200) 47 = .ok (.invokevirtual 462, 3) := by rw [cc_200]; decide +kernel
theorem D200_50 : decode (cod 200) 50 = .ok (.aload_n 0, 1) := by rw [cc_200]; decide +kernel
theorem D200_51 : decode (cod 200) 51 = .ok (.iload_n 3, 1) := by rw [cc_200]; decide +kernel
theorem D200_52 : decode (cod 200) 52 = .ok (.invokevirtual 456, 3) := by rw [cc_200]; decide +kernel
theorem D200_55 : decode (cod 200) 55 = .ok (.iinc 3 1, 3) := by rw [cc_200]; decide +kernel
theorem D200_58 : decode (cod 200) 58 = .ok (.goto (-25), 3) := by rw [cc_200]; decide +kernel
theorem D200_61 : decode (cod 200) 61 = .ok (.aload_n 0, 1) := by rw [cc_200]; decide +kernel
theorem D200_62 : decode (cod 200) 62 = .ok (.dup, 1) := by rw [cc_200]; decide +kernel
theorem D200_63 : decode (cod 200) 63 = .ok (.getfield 446, 3) := by rw [cc_200]; decide +kernel
theorem D200_66 : decode (cod 200) 66 = .ok (.iconst 1, 1) := by rw [cc_200]; decide +kernel
theorem D200_67 : decode (cod 200) 67 = .ok (.iadd, 1) := by rw [cc_200]; decide +kernel
theorem D200_68 : decode (cod 200) 68 = .ok (.putfield 446, 3) := by rw [cc_200]; decide +kernel
theorem D200_71 : decode (cod 200) 71 = .ok (.aload_n 0, 1) := by rw [cc_200]; decide +kernel
theorem D200_72 : decode (cod 200) 72 = .ok (.iconst 0, 1) := by rw [cc_200]; decide +kernel
theorem D200_73 : decode (cod 200) 73 = .ok (.iconst (-1), 1) := by rw [cc_200]; decide +kernel
theorem D200_74 : decode (cod 200) 74 = .ok (.iconst (-1), 1) := by rw [cc_200]; decide +kernel
theorem D200_75 : decode (cod 200) 75 = .ok (.invokevirtual 465, 3) := by rw [cc_200]; decide +kernel
theorem D200_78 : decode (cod 200) 78 = .ok (.iinc 2 1, 3) := by rw [cc_200]; decide +kernel
theorem D200_81 : decode (cod 200) 81 = .ok (.goto (-55), 3) := by rw [cc_200]; decide +kernel
theorem D200_84 : decode (cod 200) 84 = .ok (.aload_n 0, 1) := by rw [cc_200]; decide +kernel
theorem D200_85 : decode (cod 200) 85 = .ok (.getfield 446, 3) := by rw [cc_200]; decide +kernel
theorem D200_88 : decode (cod 200) 88 = .ok (.ireturn, 1) := by rw [cc_200]; decide +kernel
theorem b200_0 {d : Nat} {i0 : Nat} {x1 : Int} {I L : Nat → Nat → Nat → Int} {t : Nat → Nat} : Res (d + 1) 200 0 [vr 12 i0, vi x1, vx, vx] [] (mk I L t) = (Cal d 146 [vi x1, vi 1, vi 60] (mk I L t)).bind fun v => Res (d + 1) 200 7 [vr 12 i0, vi x1, vx, vx] (psh 146 v.1 []) v.2 :=
  Eq.trans (e_iload_n D200_0 rfl rfl) <| Eq.trans (e_iconst (x := 1) D200_1 rfl rfl) <| Eq.trans (e_bipush (x := 60) D200_2 rfl rfl) <| e_callS D200_4 rfl o_200 m_12_219 (by decide) rfl rfl
theorem b200_7 {d : Nat} {i0 : Nat} {x1 xs0 : Int} {I L : Nat → Nat → Nat → Int} {t : Nat → Nat} : Res d 200 7 [vr 12 i0, vi x1, vx, vx] [vi xs0] (mk I L t) = if xs0 = 0 then Res d 200 22 [vr 12 i0, vi x1, vx, vx] [] (mk I L t) else Res d 200 10 [vr 12 i0, vi x1, vx, vx] [] (mk I L t) :=
  e_ifeq D200_7 rfl rfl
theorem b200_10 {d : Nat} {i0 : Nat} {x1 : Int} {I L : Nat → Nat → Nat → Int} {t : Nat → Nat} : Res d 200 10 [vr 12 i0, vi x1, vx, vx] [] (mk I L t) = if I 12 i0 0 ≤ w32 (999 - x1) then Res d 200 24 [vr 12 i0, vi x1, vx, vx] [] (mk I L t) else Res d 200 22 [vr 12 i0, vi x1, vx, vx] [] (mk I L t) :=
  Eq.trans (e_aload_n D200_10 rfl rfl) <| Eq.trans (e_getI D200_11 rfl o_200 f_12_446 (sh_12 _) (by decide)) <| Eq.trans (e_sipush (x := 999) D200_14 rfl rfl) <| Eq.trans (e_iload_n D200_17 rfl rfl) <| Eq.trans (e_isub D200_18 rfl) <| e_icle D200_19 rfl rfl
theorem b200_22 {d : Nat} {i0 : Nat} {x1 : Int} {I L : Nat → Nat → Nat → Int} {t : Nat → Nat} : Res d 200 22 [vr 12 i0, vi x1, vx, vx] [] (mk I L t) = some (vi (-1), (mk I L t)) :=
  Eq.trans (e_iconst (x := -1) D200_22 rfl rfl) <| e_iret D200_23 rfl
theorem b200_24 {d : Nat} {i0 : Nat} {x1 : Int} {I L : Nat → Nat → Nat → Int} {t : Nat → Nat} : Res d 200 24 [vr 12 i0, vi x1, vx, vx] [] (mk I L t) = Res d 200 26 [vr 12 i0, vi x1, vi 0, vx] [] (mk I L t) :=
  Eq.trans (e_iconst (x := 0) D200_24 rfl rfl) <| e_istore_n (ls1 := [vr 12 i0, vi x1, vi 0, vx]) D200_25 rfl (show 2 < 4 by decide) rfl
theorem b200_26 {d : Nat} {i0 : Nat} {x1 x2 : Int} {u3 : MV} {I L : Nat → Nat → Nat → Int} {t : Nat → Nat} : Res d 200 26 [vr 12 i0, vi x1, vi x2, u3] [] (mk I L t) = if x1 ≤ x2 then Res d 200 84 [vr 12 i0, vi x1, vi x2, u3] [] (mk I L t) else Res d 200 31 [vr 12 i0, vi x1, vi x2, u3] [] (mk I L t) :=
  Eq.trans (e_iload_n D200_26 rfl rfl) <| Eq.trans (e_iload_n D200_27 rfl rfl) <| e_icge D200_28 rfl rfl
theorem b200_31 {d : Nat} {i0 : Nat} {x1 x2 : Int} {u3 : MV} {I L : Nat → Nat → Nat → Int} {t : Nat → Nat} : Res d 200 31 [vr 12 i0, vi x1, vi x2, u3] [] (mk I L t) = Res d 200 33 [vr 12 i0, vi x1, vi x2, vi 0] [] (mk I L t) :=
  Eq.trans (e_iconst (x := 0) D200_31 rfl rfl) <| e_istore_n (ls1 := [vr 12 i0, vi x1, vi x2, vi 0]) D200_32 rfl (show 3 < 4 by decide) rfl
theorem b200_33 {d : Nat} {i0 : Nat} {x1 x2 x3 : Int} {I L : Nat → Nat → Nat → Int} {t : Nat → Nat} : Res d 200 33 [vr 12 i0, vi x1, vi x2, vi x3] [] (mk I L t) = if I 12 i0 2 ≤ x3 then Res d 200 61 [vr 12 i0, vi x1, vi x2, vi x3] [] (mk I L t) else Res d 200 41 [vr 12 i0, vi x1, vi x2, vi x3] [] (mk I L t) :=
  Eq.trans (e_iload_n D200_33 rfl rfl) <| Eq.trans (e_aload_n D200_34 rfl rfl) <| Eq.trans (e_getI D200_35 rfl o_200 f_12_223 (sh_12 _) (by decide)) <| e_icge D200_38 rfl rfl
theorem b200_41 {d : Nat} {i0 : Nat} {x1 x2 x3 : Int} {I L : Nat → Nat → Nat → Int} {t : Nat → Nat} : Res (d + 1) 200 41 [vr 12 i0, vi x1, vi x2, vi x3] [] (mk I L t) = (Cal d 196 [vr 12 i0, vi x3] (mk I L t)).bind fun v => Res (d + 1) 200 46 [vr 12 i0, vi x1, vi x2, vi x3] (psh 196 v.1 []) v.2 :=
  Eq.trans (e_aload_n D200_41 rfl rfl) <| Eq.trans (e_iload_n D200_42 rfl rfl) <| e_callV D200_43 rfl o_200 m_12_459 (by decide) rfl rfl
theorem b200_46 {d : Nat} {i0 : Nat} {x1 x2 x3 : Int} {I L : Nat → Nat → Nat → Int} {t : Nat → Nat} : Res (d + 1) 200 46 [vr 12 i0, vi x1, vi x2, vi x3] [] (mk I L t) = (Cal d 192 [vr 12 i0] (mk I L t)).bind fun v => Res (d + 1) 200 50 [vr 12 i0, vi x1, vi x2, vi x3] (psh 192 v.1 []) v.2 :=
  Eq.trans (e_aload_n D200_46 rfl rfl) <| e_callV D200_47 rfl o_200 m_12_462 (by decide) rfl rfl
theorem b200_50 {d : Nat} {i0 : Nat} {x1 x2 x3 : Int} {I L : Nat → Nat → Nat → Int} {t : Nat → Nat} : Res (d + 1) 200 50 [vr 12 i0, vi x1, vi x2, vi x3] [] (mk I L t) = (Cal d 197 [vr 12 i0, vi x3] (mk I L t)).bind fun v => Res (d + 1) 200 55 [vr 12 i0, vi x1, vi x2, vi x3] (psh 197 v.1 []) v.2 :=
  Eq.trans (e_aload_n D200_50 rfl rfl) <| Eq.trans (e_iload_n D200_51 rfl rfl) <| e_callV D200_52 rfl o_200 m_12_456 (by decide) rfl rfl
theorem b200_55 {d : Nat} {i0 : Nat} {x1 x2 x3 : Int} {I L : Nat → Nat → Nat → Int} {t : Nat → Nat} : Res d 200 55 [vr 12 i0, vi x1, vi x2, vi x3] [] (mk I L t) = Res d 200 33 [vr 12 i0, vi x1, vi x2, vi (w32 (x3 + 1))] [] (mk I L t) :=
  Eq.trans (e_iinc (ls1 := [vr 12 i0, vi x1, vi x2, vi (w32 (x3 + 1))]) D200_55 rfl rfl rfl) <| e_goto (q1 := 33) D200_58 rfl
theorem b200_61 {d : Nat} {i0 : Nat} {x1 x2 x3 : Int} {I L : Nat → Nat → Nat → Int} {t : Nat → Nat} : Res (d + 1) 200 61 [vr 12 i0, vi x1, vi x2, vi x3] [] (mk I L t) = (Cal d 195 [vr 12 i0, vi 0, vi (-1), vi (-1)] (mk (up3 I 12 i0 0 (w32 ((I 12 i0 0) + 1))) L t)).bind fun v => Res (d + 1) 200 78 [vr 12 i0, vi x1, vi x2, vi x3] (psh 195 v.1 []) v.2 :=
  Eq.trans (e_aload_n D200_61 rfl rfl) <| Eq.trans (e_dup D200_62 rfl) <| Eq.trans (e_getI D200_63 rfl o_200 f_12_446 (sh_12 _) (by decide)) <| Eq.trans (e_iconst (x := 1) D200_66 rfl rfl) <| Eq.trans (e_iadd D200_67 rfl) <| Eq.trans (e_putI D200_68 rfl o_200 f_12_446 (sh_12 _) rfl (by decide) (Or.inl (by decide))) <| Eq.trans (e_aload_n D200_71 rfl rfl) <| Eq.trans (e_iconst (x := 0) D200_72 rfl rfl) <| Eq.trans (e_iconst (x := -1) D200_73 rfl rfl) <| Eq.trans (e_iconst (x := -1) D200_74 rfl rfl) <| e_callV D200_75 rfl o_200 m_12_465 (by decide) rfl rfl
theorem b200_78 {d : Nat} {i0 : Nat} {x1 x2 x3 : Int} {I L : Nat → Nat → Nat → Int} {t : Nat → Nat} : Res d 200 78 [vr 12 i0, vi x1, vi x2, vi x3] [] (mk I L t) = Res d 200 26 [vr 12 i0, vi x1, vi (w32 (x2 + 1)), vi x3] [] (mk I L t) :=
  Eq.trans (e_iinc (ls1 := [vr 12 i0, vi x1, vi (w32 (x2 + 1)), vi x3]) D200_78 rfl rfl rfl) <| e_goto (q1 := 26) D200_81 rfl
theorem b200_84 {d : Nat} {i0 : Nat} {x1 x2 : Int} {u3 : MV} {I L : Nat → Nat → Nat → Int} {t : Nat → Nat} : Res d 200 84 [vr 12 i0, vi x1, vi x2, u3] [] (mk I L t) = some (vi (I 12 i0 0), (mk I L t)) :=
  Eq.trans (e_aload_n D200_84 rfl rfl) <| Eq.trans (e_getI D200_85 rfl o_200 f_12_446 (sh_12 _) (by decide)) <| e_iret D200_88 rfl
/-! m_memory -/
theorem cc_201 : cod 201 = cX12_memory := rfl
theorem D201_0 : decode (cod 201) 0 = .ok (.aload_n 0, 1) := by rw [cc_201]; decide +kernel
theorem D201_1 : decode (cod 201) 1 = .ok (.iload_n 1, 1) := by rw [cc_201]; decide +kernel
theorem D201_2 : decode (cod 201) 2 = .ok (.invokevirtual 469, 3) := by rw [cc_201]; decide +kernel
theorem D201_5 : decode (cod 201) 5 = .ok (.ifCond .eq 27, 3) := by rw [cc_201]; decide +kernel
theorem D201_8 : decode (cod 201) 8 = .ok (.iload_n 2, 1) := by rw [cc_201]; decide +kernel
theorem D201_9 : decode (cod 201) 9 = .ok (.iconst 0, 1) := by rw [cc_201]; decide +kernel
theorem D201_10 : decode (cod 201) 10 = .ok (.bipush 15, 2) := by rw [cc_201]; decide +kernel
theorem D201_12 : decode (cod 201) 12 = .ok (.invokestatic 219, 3) := by rw [cc_201]; decide +kernel
theorem D201_15 : decode (cod 201) 15 = .ok (.ifCond .eq 17, 3) := by rw [cc_201]; decide +kernel
theorem D201_18 : decode (cod 201) 18 = .ok (.aload_n 0, 1) := by rw [cc_201]; decide +kernel
theorem D201_19 : decode (cod 201) 19 = .ok (.getfield 135, 3) := by rw [cc_201]; decide +kernel
theorem D201_22 : decode (cod 201) 22 = .ok (.bipush 16, 2) := by rw [cc_201]; decide +kernel
theorem D201_24 : decode (cod 201) 24 = .ok (.iload_n 1, 1) := by rw [cc_201]; decide +kernel
theorem D201_25 : decode (cod 201) 25 = .ok (.imul, 1) := by rw [cc_201]; decide +kernel
theorem D201_26 : decode (cod 201) 26 = .ok (.iload_n 2, 1) := by rw [cc_201]; decide +kernel
theorem D201_27 : decode (cod 201) 27 = .ok (.iadd, 1) := by rw [cc_201]; decide +kernel
theorem D201_28 : decode (cod 201) 28 = .ok (.iaload, 1) := by rw [cc_201]; decide +kernel
theorem D201_29 : decode (cod 201) 29 = .ok (.goto 4, 3) := by rw [cc_201]; decide +kernel
theorem D201_32 : decode (cod 201) 32 = .ok (.iconst (-1), 1) := by rw [cc_201]; decide +kernel
theorem D201_33 : decode (cod 201) 33 = .ok (.ireturn, 1) := by rw [cc_201]; decide +kernel
theorem b201_0 {d : Nat} {i0 : Nat} {x1 x2 : Int} {I L : Nat → Nat → Nat → Int} {t : Nat → Nat} : Res (d + 1) 201 0 [vr 12 i0, vi x1, vi x2] [] (mk I L t) = (Cal d 150 [vr 12 i0, vi x1] (mk I L t)).bind fun v => Res (d + 1) 201 5 [vr 12 i0, vi x1, vi x2] (psh 150 v.1 []) v.2 :=
  Eq.trans (e_aload_n D201_0 rfl rfl) <| Eq.trans (e_iload_n D201_1 rfl rfl) <| e_callV D201_2 rfl o_201 m_12_469 (by decide) rfl rfl
theorem b201_5 {d : Nat} {i0 : Nat} {x1 x2 xs0 : Int} {I L : Nat → Nat → Nat → Int} {t : Nat → Nat} : Res d 201 5 [vr 12 i0, vi x1, vi x2] [vi xs0] (mk I L t) = if xs0 = 0 then Res d 201 32 [vr 12 i0, vi x1, vi x2] [] (mk I L t) else Res d 201 8 [vr 12 i0, vi x1, vi x2] [] (mk I L t) :=
  e_ifeq D201_5 rfl rfl
theorem b201_8 {d : Nat} {i0 : Nat} {x1 x2 : Int} {I L : Nat → Nat → Nat → Int} {t : Nat → Nat} : Res (d + 1) 201 8 [vr 12 i0, vi x1, vi x2] [] (mk I L t) = (Cal d 146 [vi x2, vi 0, vi 15] (mk I L t)).bind fun v => Res (d + 1) 201 15 [vr 12 i0, vi x1, vi x2] (psh 146 v.1 []) v.2 :=
  Eq.trans (e_iload_n D201_8 rfl rfl) <| Eq.trans (e_iconst (x := 0) D201_9 rfl rfl) <| Eq.trans (e_bipush (x := 15) D201_10 rfl rfl) <| e_callS D201_12 rfl o_201 m_12_219 (by decide) rfl rfl
theorem b201_15 {d : Nat} {i0 : Nat} {x1 x2 xs0 : Int} {I L : Nat → Nat → Nat → Int} {t : Nat → Nat} : Res d 201 15 [vr 12 i0, vi x1, vi x2] [vi xs0] (mk I L t) = if xs0 = 0 then Res d 201 32 [vr 12 i0, vi x1, vi x2] [] (mk I L t) else Res d 201 18 [vr 12 i0, vi x1, vi x2] [] (mk I L t) :=
  e_ifeq D201_15 rfl rfl
theorem b201_18 {d : Nat} {i0 : Nat} {x1 x2 : Int} {I L : Nat → Nat → Nat → Int} {t : Nat → Nat} (g1 : 0 ≤ w32 ((w32 (16 * x1)) + x2) ∧ w32 ((w32 (16 * x1)) + x2) < 320) : Res d 201 18 [vr 12 i0, vi x1, vi x2] [] (mk I L t) = Res d 201 33 [vr 12 i0, vi x1, vi x2] [vi (I 88 i0 (w32 ((w32 (16 * x1)) + x2)).toNat)] (mk I L t) :=
  Eq.trans (e_aload_n D201_18 rfl rfl) <| Eq.trans (e_getP (p := (88, i0)) D201_19 rfl o_201 f_12_135 (sh_12 _) (by decide) (pp_12_66 _ _)) <| Eq.trans (e_bipush (x := 16) D201_22 rfl rfl) <| Eq.trans (e_iload_n D201_24 rfl rfl) <| Eq.trans (e_imul D201_25 rfl) <| Eq.trans (e_iload_n D201_26 rfl rfl) <| Eq.trans (e_iadd D201_27 rfl) <| Eq.trans (e_iald D201_28 rfl (al_88 _) g1) <| e_goto (q1 := 33) D201_29 rfl
theorem b201_32 {d : Nat} {i0 : Nat} {x1 x2 : Int} {I L : Nat → Nat → Nat → Int} {t : Nat → Nat} : Res d 201 32 [vr 12 i0, vi x1, vi x2] [] (mk I L t) = Res d 201 33 [vr 12 i0, vi x1, vi x2] [vi (-1)] (mk I L t) :=
  e_iconst (x := -1) D201_32 rfl rfl
theorem b201_33 {d : Nat} {i0 : Nat} {x1 x2 xs0 : Int} {I L : Nat → Nat → Nat → Int} {t : Nat → Nat} : Res d 201 33 [vr 12 i0, vi x1, vi x2] [vi xs0] (mk I L t) = some (vi xs0, (mk I L t)) :=
  e_iret D201_33 rfl
/-! m_far -/
theorem cc_202 : cod 202 = cX12_far := rfl
theorem D202_0 : decode (cod 202) 0 = .ok (.aload_n 0, 1) := by rw [cc_202]; decide +kernel
theorem D202_1 : decode (cod 202) 1 = .ok (.iload_n 1, 1) := by rw [cc_202]; decide +kernel
theorem D202_2 : decode (cod 202) 2 = .ok (.invokevirtual 469, 3) := by rw [cc_202]; decide +kernel
theorem D202_5 : decode (cod 202) 5 = .ok (.ifCond .eq 11, 3) := by rw [cc_202]; decide +kernel
theorem D202_8 : decode (cod 202) 8 = .ok (.aload_n 0, 1) := by rw [cc_202]; decide +kernel
theorem D202_9 : decode (cod 202) 9 = .ok (.iload_n 2, 1) := by rw [cc_202]; decide +kernel
theorem D202_10 : decode (cod 202) 10 = .ok (.invokevirtual 230, 3) := by rw [cc_202]; decide +kernel
theorem D202_13 : decode (cod 202) 13 = .ok (.ifCond .ne 5, 3) := by rw [cc_202]; decide +kernel
theorem D202_16 : decode (cod 202) 16 = .ok (.iconst (-1), 1) := by rw [cc_202]; decide +kernel
theorem D202_17 : decode (cod 202) 17 = .ok (.ireturn, 1) := by rw [cc_202]; decide +kernel
theorem D202_18 : decode (cod 202) 18 = .ok (.aload_n 0, 1) := by rw [cc_202]; decide +kernel
theorem D202_19 : decode (cod 202) 19 = .ok (.iload_n 1, 1) := by rw [cc_202]; decide +kernel
theorem D202_20 : decode (cod 202) 20 = .ok (.invokevirtual 459, 3) := by rw [cc_202]; decide +kernel
theorem D202_23 : decode (cod 202) 23 = .ok (.aload_n 0, 1) := by rw [cc_202]; decide +kernel
theorem D202_24 : decode (cod 202) 24 = .ok (.iload_n 2, 1) := by rw [cc_202]; decide +kernel
theorem D202_25 : decode (cod 202) 25 = .ok (.invokevirtual 438, 3) := by rw [cc_202]; decide +kernel
theorem D202_28 : decode (cod 202) 28 = .ok (.ireturn, 1) := by rw [cc_202]; decide +kernel
theorem b202_0 {d : Nat} {i0 : Nat} {x1 x2 : Int} {I L : Nat → Nat → Nat → Int} {t : Nat → Nat} : Res (d + 1) 202 0 [vr 12 i0, vi x1, vi x2] [] (mk I L t) = (Cal d 150 [vr 12 i0, vi x1] (mk I L t)).bind fun v => Res (d + 1) 202 5 [vr 12 i0, vi x1, vi x2] (psh 150 v.1 []) v.2 :=
  Eq.trans (e_aload_n D202_0 rfl rfl) <| Eq.trans (e_iload_n D202_1 rfl rfl) <| e_callV D202_2 rfl o_202 m_12_469 (by decide) rfl rfl
theorem b202_5 {d : Nat} {i0 : Nat} {x1 x2 xs0 : Int} {I L : Nat → Nat → Nat → Int} {t : Nat → Nat} : Res d 202 5 [vr 12 i0, vi x1, vi x2] [vi xs0] (mk I L t) = if xs0 = 0 then Res d 202 16 [vr 12 i0, vi x1, vi x2] [] (mk I L t) else Res d 202 8 [vr 12 i0, vi x1, vi x2] [] (mk I L t) :=
  e_ifeq D202_5 rfl rfl
theorem b202_8 {d : Nat} {i0 : Nat} {x1 x2 : Int} {I L : Nat → Nat → Nat → Int} {t : Nat → Nat} : Res (d + 1) 202 8 [vr 12 i0, vi x1, vi x2] [] (mk I L t) = (Cal d 147 [vr 12 i0, vi x2] (mk I L t)).bind fun v => Res (d + 1) 202 13 [vr 12 i0, vi x1, vi x2] (psh 147 v.1 []) v.2 :=
  Eq.trans (e_aload_n D202_8 rfl rfl) <| Eq.trans (e_iload_n D202_9 rfl rfl) <| e_callV D202_10 rfl o_202 m_12_230 (by decide) rfl rfl
theorem b202_13 {d : Nat} {i0 : Nat} {x1 x2 xs0 : Int} {I L : Nat → Nat → Nat → Int} {t : Nat → Nat} : Res d 202 13 [vr 12 i0, vi x1, vi x2] [vi xs0] (mk I L t) = if ¬ xs0 = 0 then Res d 202 18 [vr 12 i0, vi x1, vi x2] [] (mk I L t) else Res d 202 16 [vr 12 i0, vi x1, vi x2] [] (mk I L t) :=
  e_ifne D202_13 rfl rfl
theorem b202_16 {d : Nat} {i0 : Nat} {x1 x2 : Int} {I L : Nat → Nat → Nat → Int} {t : Nat → Nat} : Res d 202 16 [vr 12 i0, vi x1, vi x2] [] (mk I L t) = some (vi (-1), (mk I L t)) :=
  Eq.trans (e_iconst (x := -1) D202_16 rfl rfl) <| e_iret D202_17 rfl
theorem b202_18 {d : Nat} {i0 : Nat} {x1 x2 : Int} {I L : Nat → Nat → Nat → Int} {t : Nat → Nat} : Res (d + 1) 202 18 [vr 12 i0, vi x1, vi x2] [] (mk I L t) = (Cal d 196 [vr 12 i0, vi x1] (mk I L t)).bind fun v => Res (d + 1) 202 23 [vr 12 i0, vi x1, vi x2] (psh 196 v.1 []) v.2 :=
  Eq.trans (e_aload_n D202_18 rfl rfl) <| Eq.trans (e_iload_n D202_19 rfl rfl) <| e_callV D202_20 rfl o_202 m_12_459 (by decide) rfl rfl
theorem b202_23 {d : Nat} {i0 : Nat} {x1 x2 : Int} {I L : Nat → Nat → Nat → Int} {t : Nat → Nat} : Res (d + 1) 202 23 [vr 12 i0, vi x1, vi x2] [] (mk I L t) = (Cal d 188 [vr 12 i0, vi x2] (mk I L t)).bind fun v => Res (d + 1) 202 28 [vr 12 i0, vi x1, vi x2] (psh 188 v.1 []) v.2 :=
  Eq.trans (e_aload_n D202_23 rfl rfl) <| Eq.trans (e_iload_n D202_24 rfl rfl) <| e_callV D202_25 rfl o_202 m_12_438 (by decide) rfl rfl
theorem b202_28 {d : Nat} {i0 : Nat} {x1 x2 xs0 : Int} {I L : Nat → Nat → Nat → Int} {t : Nat → Nat} : Res d 202 28 [vr 12 i0, vi x1, vi x2] [vi xs0] (mk I L t) = some (vi xs0, (mk I L t)) :=
  e_iret D202_28 rfl
/-! m_odds -/
theorem cc_203 : cod 203 = cX12_odds := rfl
theorem D203_0 : decode (cod 203) 0 = .ok (.aload_n 0, 1) := by rw [cc_203]; decide +kernel
theorem D203_1 : decode (cod 203) 1 = .ok (.iload_n 1, 1) := by rw [cc_203]; decide +kernel
theorem D203_2 : decode (cod 203) 2 = .ok (.invokevirtual 469, 3) := by rw [cc_203]; decide +kernel
theorem D203_5 : decode (cod 203) 5 = .ok (.ifCond .eq 30, 3) := by rw [cc_203]; decide +kernel
theorem D203_8 : decode (cod 203) 8 = .ok (.iload_n 2, 1) := by rw [cc_203]; decide +kernel
theorem D203_9 : decode (cod 203) 9 = .ok (.invokestatic 233, 3) := by rw [cc_203]; decide +kernel
theorem D203_12 : decode (cod 203) 12 = .ok (.ifCond .eq 23, 3) := by rw [cc_203]; decide +kernel
theorem D203_15 : decode (cod 203) 15 = .ok (.iload_n 3, 1) := by rw [cc_203]; decide +kernel
theorem D203_16 : decode (cod 203) 16 = .ok (.iconst 0, 1) := by rw [cc_203]; decide +kernel
theorem D203_17 : decode (cod 203) 17 = .ok (.iconst 1, 1) := by rw [cc_203]; decide +kernel
theorem D203_18 : decode (cod 203) 18 = .ok (.invokestatic 219, 3) := by rw [cc_203]; decide +kernel
theorem D203_21 : decode (cod 203) 21 = .ok (.ifCond .eq 14, 3) := by rw [cc_203]; decide +kernel
theorem D203_24 : decode (cod 203) 24 = .ok (.iload 5, 2) := by rw [cc_203]; decide +kernel
theorem D203_26 : decode (cod 203) 26 = .ok (.iconst 0, 1) := by rw [cc_203]; decide +kernel
theorem D203_27 : decode (cod 203) 27 = .ok (.bipush 99, 2) := by rw [cc_203]; decide +kernel
theorem D203_29 : decode (cod 203) 29 = .ok (.invokestatic 219, 3) := by rw [cc_203]; decide +kernel
theorem D203_32 : decode (cod 203) 32 = .ok (.ifCond .ne 5, 3) := by rw [cc_203]; decide +kernel
theorem D203_35 : decode (cod 203) 35 = .ok (.iconst (-1), 1) := by rw [cc_203]; decide +kernel
theorem D203_36 : decode (cod 203) 36 = .ok (.ireturn, 1) := by rw [cc_203]; decide +kernel
theorem D203_37 : decode (cod 203) 37 = .ok (.aload_n 0, 1) := by rw [cc_203]; decide +kernel
theorem D203_38 : decode (cod 203) 38 = .ok (.iload_n 2, 1) := by rw [cc_203]; decide +kernel
theorem D203_39 : decode (cod 203) 39 = .ok (.invokevirtual 472, 3) := by rw [cc_203]; decide +kernel
theorem D203_42 : decode (cod 203) 42 = .ok (.iload 4, 2) := by rw [cc_203]; decide +kernel
theorem D203_44 : decode (cod 203) 44 = .ok (.iconst (-1), 1) := by rw [cc_203]; decide +kernel
theorem D203_45 : decode (cod 203) 45 = .ok (.if_icmp .eq 12, 3) := by rw [cc_203]; decide +kernel
theorem D203_48 : decode (cod 203) 48 = .ok (.aload_n 0, 1) := by rw [cc_203]; decide +kernel
theorem D203_49 : decode (cod 203) 49 = .ok (.iload 4, 2) := by rw [cc_203]; decide +kernel
theorem D203_51 : decode (cod 203) 51 = .ok (.invokevirtual 475, 3) := by rw [cc_203]; decide +kernel
theorem D203_54 : decode (cod 203) 54 = .ok (.ifCond .eq 18, 3) := by rw [cc_203]; decide +kernel
theorem D203_57 : decode (cod 203) 57 = .ok (.iload 6, 2) := by rw [cc_203]; decide +kernel
theorem D203_59 : decode (cod 203) 59 = .ok (.iconst (-1), 1) := by rw [cc_203]; decide +kernel
theorem D203_60 : decode (cod 203) 60 = .ok (.if_icmp .eq 14, 3) := by rw [cc_203]; decide +kernel
theorem D203_63 : decode (cod 203) 63 = .ok (.aload_n 0, 1) := by rw [cc_203]; decide +kernel
theorem D203_64 : decode (cod 203) 64 = .ok (.iload 6, 2) := by rw [cc_203]; decide +kernel
theorem D203_66 : decode (cod 203) 66 = .ok (.invokevirtual 475, 3) := by rw [cc_203]; decide +kernel
theorem D203_69 : decode (cod 203) 69 = .ok (.ifCond .ne 5, 3) := by rw [cc_203]; decide +kernel
theorem D203_72 : decode (cod 203) 72 = .ok (.iconst (-1), 1) := by rw [cc_203]; decide +kernel
theorem D203_73 : decode (cod 203) 73 = .ok (.ireturn, 1) := by rw [cc_203]; decide +kernel
theorem D203_74 : decode (cod 203) 74 = .ok (.aload_n 0, 1) := by rw [cc_203]; decide +kernel
theorem D203_75 : decode (cod 203) 75 = .ok (.iload_n 1, 1) := by rw [cc_203]; decide +kernel
theorem D203_76 : decode (cod 203) 76 = .ok (.invokevirtual 459, 3) := by rw [cc_203]; decide +kernel
theorem D203_79 : decode (cod 203) 79 = .ok (.aload_n 0, 1) := by rw [cc_203]; decide +kernel
theorem D203_80 : decode (cod 203) 80 = .ok (.iload_n 3, 1) := by rw [cc_203]; decide +kernel
theorem D203_81 : decode (cod 203) 81 = .ok (.iload 4, 2) := by rw [cc_203]; decide +kernel
theorem D203_83 : decode (cod 203) 83 = .ok (.iload 5, 2) := by rw [cc_203]; decide +kernel
theorem D203_85 : decode (cod 203) 85 = .ok (.invokevirtual 478, 3) := by rw [cc_203]; decide +kernel
theorem D203_88 : decode (cod 203) 88 = .ok (.iload 6, 2) := by rw [cc_203]; decide +kernel
theorem D203_90 : decode (cod 203) 90 = .ok (.iconst (-1), 1) := by rw [cc_203]; decide +kernel
theorem D203_91 : decode (cod 203) 91 = .ok (.if_icmp .ne 13, 3) := by rw [cc_203]; decide +kernel
theorem D203_94 : decode (cod 203) 94 = .ok (.aload_n 0, 1) := by rw [cc_203]; decide +kernel
theorem D203_95 : decode (cod 203) 95 = .ok (.getfield 105, 3) := by rw [cc_203]; decide +kernel
theorem D203_98 : decode (cod 203) 98 = .ok (.bipush 9, 2) := by rw [cc_203]; decide +kernel
theorem D203_100 : decode (cod 203) 100 = .ok (.iaload, 1) := by rw [cc_203]; decide +kernel
theorem D203_101 : decode (cod 203) 101 = .ok (.goto 10, 3) := by rw [cc_203]; decide +kernel
theorem D203_104 : decode (cod 203) 104 = .ok (.aload_n 0, 1) := by rw [cc_203]; decide +kernel
theorem D203_105 : decode (cod 203) 105 = .ok (.getfield 105, 3) := by rw [cc_203]; decide +kernel
theorem D203_108 : decode (cod 203) 108 = .ok (.iload 6, 2) := by rw [cc_203]; decide +kernel
theorem D203_110 : decode (cod 203) 110 = .ok (.iaload, 1) := by rw [cc_203]; decide +kernel
theorem D203_111 : decode (cod 203) 111 = .ok (.ireturn, 1) := by rw [cc_203]; decide +kernel
theorem b203_0 {d : Nat} {i0 : Nat} {x1 x2 x3 x4 x5 x6 : Int} {I L : Nat → Nat → Nat → Int} {t : Nat → Nat} : Res (d + 1) 203 0 [vr 12 i0, vi x1, vi x2, vi x3, vi x4, vi x5, vi x6] [] (mk I L t) = (Cal d 150 [vr 12 i0, vi x1] (mk I L t)).bind fun v => Res (d + 1) 203 5 [vr 12 i0, vi x1, vi x2, vi x3, vi x4, vi x5, vi x6] (psh 150 v.1 []) v.2 :=
  Eq.trans (e_aload_n D203_0 rfl rfl) <| Eq.trans (e_iload_n D203_1 rfl rfl) <| e_callV D203_2 rfl o_203 m_12_469 (by decide) rfl rfl
theorem b203_5 {d : Nat} {i0 : Nat} {x1 x2 x3 x4 x5 x6 xs0 : Int} {I L : Nat → Nat → Nat → Int} {t : Nat → Nat} : Res d 203 5 [vr 12 i0, vi x1, vi x2, vi x3, vi x4, vi x5, vi x6] [vi xs0] (mk I L t) = if xs0 = 0 then Res d 203 35 [vr 12 i0, vi x1, vi x2, vi x3, vi x4, vi x5, vi x6] [] (mk I L t) else Res d 203 8 [vr 12 i0, vi x1, vi x2, vi x3, vi x4, vi x5, vi x6] [] (mk I L t) :=
  e_ifeq D203_5 rfl rfl
theorem b203_8 {d : Nat} {i0 : Nat} {x1 x2 x3 x4 x5 x6 : Int} {I L : Nat → Nat → Nat → Int} {t : Nat → Nat} : Res (d + 1) 203 8 [vr 12 i0, vi x1, vi x2, vi x3, vi x4, vi x5, vi x6] [] (mk I L t) = (Cal d 148 [vi x2] (mk I L t)).bind fun v => Res (d + 1) 203 12 [vr 12 i0, vi x1, vi x2, vi x3, vi x4, vi x5, vi x6] (psh 148 v.1 []) v.2 :=
  Eq.trans (e_iload_n D203_8 rfl rfl) <| e_callS D203_9 rfl o_203 m_12_233 (by decide) rfl rfl
theorem b203_12 {d : Nat} {i0 : Nat} {x1 x2 x3 x4 x5 x6 xs0 : Int} {I L : Nat → Nat → Nat → Int} {t : Nat → Nat} : Res d 203 12 [vr 12 i0, vi x1, vi x2, vi x3, vi x4, vi x5, vi x6] [vi xs0] (mk I L t) = if xs0 = 0 then Res d 203 35 [vr 12 i0, vi x1, vi x2, vi x3, vi x4, vi x5, vi x6] [] (mk I L t) else Res d 203 15 [vr 12 i0, vi x1, vi x2, vi x3, vi x4, vi x5, vi x6] [] (mk I L t) :=
  e_ifeq D203_12 rfl rfl
theorem b203_15 {d : Nat} {i0 : Nat} {x1 x2 x3 x4 x5 x6 : Int} {I L : Nat → Nat → Nat → Int} {t : Nat → Nat} : Res (d + 1) 203 15 [vr 12 i0, vi x1, vi x2, vi x3, vi x4, vi x5, vi x6] [] (mk I L t) = (Cal d 146 [vi x3, vi 0, vi 1] (mk I L t)).bind fun v => Res (d + 1) 203 21 [vr 12 i0, vi x1, vi x2, vi x3, vi x4, vi x5, vi x6] (psh 146 v.1 []) v.2 :=
  Eq.trans (e_iload_n D203_15 rfl rfl) <| Eq.trans (e_iconst (x := 0) D203_16 rfl rfl) <| Eq.trans (e_iconst (x := 1) D203_17 rfl rfl) <| e_callS D203_18 rfl o_203 m_12_219 (by decide) rfl rfl
theorem b203_21 {d : Nat} {i0 : Nat} {x1 x2 x3 x4 x5 x6 xs0 : Int} {I L : Nat → Nat → Nat → Int} {t : Nat → Nat} : Res d 203 21 [vr 12 i0, vi x1, vi x2, vi x3, vi x4, vi x5, vi x6] [vi xs0] (mk I L t) = if xs0 = 0 then Res d 203 35 [vr 12 i0, vi x1, vi x2, vi x3, vi x4, vi x5, vi x6] [] (mk I L t) else Res d 203 24 [vr 12 i0, vi x1, vi x2, vi x3, vi x4, vi x5, vi x6] [] (mk I L t) :=
  e_ifeq D203_21 rfl rfl
theorem b203_24 {d : Nat} {i0 : Nat} {x1 x2 x3 x4 x5 x6 : Int} {I L : Nat → Nat → Nat → Int} {t : Nat → Nat} : Res (d + 1) 203 24 [vr 12 i0, vi x1, vi x2, vi x3, vi x4, vi x5, vi x6] [] (mk I L t) = (Cal d 146 [vi x5, vi 0, vi 99] (mk I L t)).bind fun v => Res (d + 1) 203 32 [vr 12 i0, vi x1, vi x2, vi x3, vi x4, vi x5, vi x6] (psh 146 v.1 []) v.2 :=
  Eq.trans (e_iload D203_24 rfl rfl) <| Eq.trans (e_iconst (x := 0) D203_26 rfl rfl) <| Eq.trans (e_bipush (x := 99) D203_27 rfl rfl) <| e_callS D203_29 rfl o_203 m_12_219 (by decide) rfl rfl
theorem b203_32 {d : Nat} {i0 : Nat} {x1 x2 x3 x4 x5 x6 xs0 : Int} {I L : Nat → Nat → Nat → Int} {t : Nat → Nat} : Res d 203 32 [vr 12 i0, vi x1, vi x2, vi x3, vi x4, vi x5, vi x6] [vi xs0] (mk I L t) = if ¬ xs0 = 0 then Res d 203 37 [vr 12 i0, vi x1, vi x2, vi x3, vi x4, vi x5, vi x6] [] (mk I L t) else Res d 203 35 [vr 12 i0, vi x1, vi x2, vi x3, vi x4, vi x5, vi x6] [] (mk I L t) :=
  e_ifne D203_32 rfl rfl
theorem b203_35 {d : Nat} {i0 : Nat} {x1 x2 x3 x4 x5 x6 : Int} {I L : Nat → Nat → Nat → Int} {t : Nat → Nat} : Res d 203 35 [vr 12 i0, vi x1, vi x2, vi x3, vi x4, vi x5, vi x6] [] (mk I L t) = some (vi (-1), (mk I L t)) :=
  Eq.trans (e_iconst (x := -1) D203_35 rfl rfl) <| e_iret D203_36 rfl
theorem b203_37 {d : Nat} {i0 : Nat} {x1 x2 x3 x4 x5 x6 : Int} {I L : Nat → Nat → Nat → Int} {t : Nat → Nat} : Res (d + 1) 203 37 [vr 12 i0, vi x1, vi x2, vi x3, vi x4, vi x5, vi x6] [] (mk I L t) = (Cal d 156 [vr 12 i0, vi x2] (mk I L t)).bind fun v => Res (d + 1) 203 42 [vr 12 i0, vi x1, vi x2, vi x3, vi x4, vi x5, vi x6] (psh 156 v.1 []) v.2 :=
  Eq.trans (e_aload_n D203_37 rfl rfl) <| Eq.trans (e_iload_n D203_38 rfl rfl) <| e_callV D203_39 rfl o_203 m_12_472 (by decide) rfl rfl
theorem b203_42 {d : Nat} {i0 : Nat} {x1 x2 x3 x4 x5 x6 : Int} {I L : Nat → Nat → Nat → Int} {t : Nat → Nat} : Res d 203 42 [vr 12 i0, vi x1, vi x2, vi x3, vi x4, vi x5, vi x6] [] (mk I L t) = if x4 = -1 then Res d 203 57 [vr 12 i0, vi x1, vi x2, vi x3, vi x4, vi x5, vi x6] [] (mk I L t) else Res d 203 48 [vr 12 i0, vi x1, vi x2, vi x3, vi x4, vi x5, vi x6] [] (mk I L t) :=
  Eq.trans (e_iload D203_42 rfl rfl) <| Eq.trans (e_iconst (x := -1) D203_44 rfl rfl) <| e_iceq D203_45 rfl rfl
theorem b203_48 {d : Nat} {i0 : Nat} {x1 x2 x3 x4 x5 x6 : Int} {I L : Nat → Nat → Nat → Int} {t : Nat → Nat} : Res (d + 1) 203 48 [vr 12 i0, vi x1, vi x2, vi x3, vi x4, vi x5, vi x6] [] (mk I L t) = (Cal d 157 [vr 12 i0, vi x4] (mk I L t)).bind fun v => Res (d + 1) 203 54 [vr 12 i0, vi x1, vi x2, vi x3, vi x4, vi x5, vi x6] (psh 157 v.1 []) v.2 :=
  Eq.trans (e_aload_n D203_48 rfl rfl) <| Eq.trans (e_iload D203_49 rfl rfl) <| e_callV D203_51 rfl o_203 m_12_475 (by decide) rfl rfl
theorem b203_54 {d : Nat} {i0 : Nat} {x1 x2 x3 x4 x5 x6 xs0 : Int} {I L : Nat → Nat → Nat → Int} {t : Nat → Nat} : Res d 203 54 [vr 12 i0, vi x1, vi x2, vi x3, vi x4, vi x5, vi x6] [vi xs0] (mk I L t) = if xs0 = 0 then Res d 203 72 [vr 12 i0, vi x1, vi x2, vi x3, vi x4, vi x5, vi x6] [] (mk I L t) else Res d 203 57 [vr 12 i0, vi x1, vi x2, vi x3, vi x4, vi x5, vi x6] [] (mk I L t) :=
  e_ifeq D203_54 rfl rfl
theorem b203_57 {d : Nat} {i0 : Nat} {x1 x2 x3 x4 x5 x6 : Int} {I L : Nat → Nat → Nat → Int} {t : Nat → Nat} : Res d 203 57 [vr 12 i0, vi x1, vi x2, vi x3, vi x4, vi x5, vi x6] [] (mk I L t) = if x6 = -1 then Res d 203 74 [vr 12 i0, vi x1, vi x2, vi x3, vi x4, vi x5, vi x6] [] (mk I L t) else Res d 203 63 [vr 12 i0, vi x1, vi x2, vi x3, vi x4, vi x5, vi x6] [] (mk I L t) :=
  Eq.trans (e_iload D203_57 rfl rfl) <| Eq.trans (e_iconst (x := -1) D203_59 rfl rfl) <| e_iceq D203_60 rfl rfl
theorem b203_63 {d : Nat} {i0 : Nat} {x1 x2 x3 x4 x5 x6 : Int} {I L : Nat → Nat → Nat → Int} {t : Nat → Nat} : Res (d + 1) 203 63 [vr 12 i0, vi x1, vi x2, vi x3, vi x4, vi x5, vi x6] [] (mk I L t) = (Cal d 157 [vr 12 i0, vi x6] (mk I L t)).bind fun v => Res (d + 1) 203 69 [vr 12 i0, vi x1, vi x2, vi x3, vi x4, vi x5, vi x6] (psh 157 v.1 []) v.2 :=
  Eq.trans (e_aload_n D203_63 rfl rfl) <| Eq.trans (e_iload D203_64 rfl rfl) <| e_callV D203_66 rfl o_203 m_12_475 (by decide) rfl rfl
theorem b203_69 {d : Nat} {i0 : Nat} {x1 x2 x3 x4 x5 x6 xs0 : Int} {I L : Nat → Nat → Nat → Int} {t : Nat → Nat} : Res d 203 69 [vr 12 i0, vi x1, vi x2, vi x3, vi x4, vi x5, vi x6] [vi xs0] (mk I L t) = if ¬ xs0 = 0 then Res d 203 74 [vr 12 i0, vi x1, vi x2, vi x3, vi x4, vi x5, vi x6] [] (mk I L t) else Res d 203 72 [vr 12 i0, vi x1, vi x2, vi x3, vi x4, vi x5, vi x6] [] (mk I L t) :=
  e_ifne D203_69 rfl rfl
theorem b203_72 {d : Nat} {i0 : Nat} {x1 x2 x3 x4 x5 x6 : Int} {I L : Nat → Nat → Nat → Int} {t : Nat → Nat} : Res d 203 72 [vr 12 i0, vi x1, vi x2, vi x3, vi x4, vi x5, vi x6] [] (mk I L t) = some (vi (-1), (mk I L t)) :=
  Eq.trans (e_iconst (x := -1) D203_72 rfl rfl) <| e_iret D203_73 rfl
theorem b203_74 {d : Nat} {i0 : Nat} {x1 x2 x3 x4 x5 x6 : Int} {I L : Nat → Nat → Nat → Int} {t : Nat → Nat} : Res (d + 1) 203 74 [vr 12 i0, vi x1, vi x2, vi x3, vi x4, vi x5, vi x6] [] (mk I L t) = (Cal d 196 [vr 12 i0, vi x1] (mk I L t)).bind fun v => Res (d + 1) 203 79 [vr 12 i0, vi x1, vi x2, vi x3, vi x4, vi x5, vi x6] (psh 196 v.1 []) v.2 :=
  Eq.trans (e_aload_n D203_74 rfl rfl) <| Eq.trans (e_iload_n D203_75 rfl rfl) <| e_callV D203_76 rfl o_203 m_12_459 (by decide) rfl rfl
theorem b203_79 {d : Nat} {i0 : Nat} {x1 x2 x3 x4 x5 x6 : Int} {I L : Nat → Nat → Nat → Int} {t : Nat → Nat} : Res (d + 1) 203 79 [vr 12 i0, vi x1, vi x2, vi x3, vi x4, vi x5, vi x6] [] (mk I L t) = (Cal d 193 [vr 12 i0, vi x3, vi x4, vi x5] (mk I L t)).bind fun v => Res (d + 1) 203 88 [vr 12 i0, vi x1, vi x2, vi x3, vi x4, vi x5, vi x6] (psh 193 v.1 []) v.2 :=
  Eq.trans (e_aload_n D203_79 rfl rfl) <| Eq.trans (e_iload_n D203_80 rfl rfl) <| Eq.trans (e_iload D203_81 rfl rfl) <| Eq.trans (e_iload D203_83 rfl rfl) <| e_callV D203_85 rfl o_203 m_12_478 (by decide) rfl rfl
theorem b203_88 {d : Nat} {i0 : Nat} {x1 x2 x3 x4 x5 x6 : Int} {I L : Nat → Nat → Nat → Int} {t : Nat → Nat} : Res d 203 88 [vr 12 i0, vi x1, vi x2, vi x3, vi x4, vi x5, vi x6] [] (mk I L t) = if ¬ x6 = -1 then Res d 203 104 [vr 12 i0, vi x1, vi x2, vi x3, vi x4, vi x5, vi x6] [] (mk I L t) else Res d 203 94 [vr 12 i0, vi x1, vi x2, vi x3, vi x4, vi x5, vi x6] [] (mk I L t) :=
  Eq.trans (e_iload D203_88 rfl rfl) <| Eq.trans (e_iconst (x := -1) D203_90 rfl rfl) <| e_icne D203_91 rfl rfl
theorem b203_94 {d : Nat} {i0 : Nat} {x1 x2 x3 x4 x5 x6 : Int} {I L : Nat → Nat → Nat → Int} {t : Nat → Nat} : Res d 203 94 [vr 12 i0, vi x1, vi x2, vi x3, vi x4, vi x5, vi x6] [] (mk I L t) = Res d 203 111 [vr 12 i0, vi x1, vi x2, vi x3, vi x4, vi x5, vi x6] [vi (I 78 i0 9)] (mk I L t) :=
  Eq.trans (e_aload_n D203_94 rfl rfl) <| Eq.trans (e_getP (p := (78, i0)) D203_95 rfl o_203 f_12_105 (sh_12 _) (by decide) (pp_12_56 _ _)) <| Eq.trans (e_bipush (x := 9) D203_98 rfl rfl) <| Eq.trans (e_iald D203_100 rfl (al_78 _) (by decide)) <| e_goto (q1 := 111) D203_101 rfl
theorem b203_104 {d : Nat} {i0 : Nat} {x1 x2 x3 x4 x5 x6 : Int} {I L : Nat → Nat → Nat → Int} {t : Nat → Nat} (g1 : 0 ≤ x6 ∧ x6 < 10) : Res d 203 104 [vr 12 i0, vi x1, vi x2, vi x3, vi x4, vi x5, vi x6] [] (mk I L t) = Res d 203 111 [vr 12 i0, vi x1, vi x2, vi x3, vi x4, vi x5, vi x6] [vi (I 78 i0 x6.toNat)] (mk I L t) :=
  Eq.trans (e_aload_n D203_104 rfl rfl) <| Eq.trans (e_getP (p := (78, i0)) D203_105 rfl o_203 f_12_105 (sh_12 _) (by decide) (pp_12_56 _ _)) <| Eq.trans (e_iload D203_108 rfl rfl) <| e_iald D203_110 rfl (al_78 _) g1
theorem b203_111 {d : Nat} {i0 : Nat} {x1 x2 x3 x4 x5 x6 xs0 : Int} {I L : Nat → Nat → Nat → Int} {t : Nat → Nat} : Res d 203 111 [vr 12 i0, vi x1, vi x2, vi x3, vi x4, vi x5, vi x6] [vi xs0] (mk I L t) = some (vi xs0, (mk I L t)) :=
  e_iret D203_111 rfl
/-! m_pulls -/
theorem cc_204 : cod 204 = cX12_pulls := rfl
theorem D204_0 : decode (cod 204) 0 = .ok (.aload_n 0, 1) := by rw [cc_204]; decide +kernel
theorem D204_1 : decode (cod 204) 1 = .ok (.invokevirtual 419, 3) := by rw [cc_204]; decide +kernel
theorem D204_4 : decode (cod 204) 4 = .ok (.aload_n 0, 1) := by rw [cc_204]; decide +kernel
theorem D204_5 : decode (cod 204) 5 = .ok (.iconst 3, 1) := by rw [cc_204]; decide +kernel
theorem D204_6 : decode (cod 204) 6 = .ok (.invokevirtual 432, 3) := by rw [cc_204]; decide +kernel
theorem D204_9 : decode (cod 204) 9 = .ok (.istore_n 2, 1) := by rw [cc_204]; decide +kernel
theorem D204_10 : decode (cod 204) 10 = .ok (.iconst 0, 1) := by rw [cc_204]; decide +kernel
theorem D204_11 : decode (cod 204) 11 = .ok (.istore_n 3, 1) := by rw [cc_204]; decide +kernel
theorem D204_12 : decode (cod 204) 12 = .ok (.iload_n 3, 1) := by rw [cc_204]; decide +kernel
theorem D204_13 : decode (cod 204) 13 = .ok (.aload_n 0, 1) := by rw [cc_204]; decide +kernel
theorem D204_14 : decode (cod 204) 14 = .ok (.getfield 236, 3) := by rw [cc_204]; decide +kernel
theorem D204_17 : decode (cod 204) 17 = .ok (.if_icmp .ge 32, 3) := by rw [cc_204]; decide +kernel
theorem D204_20 : decode (cod 204) 20 = .ok (.aload_n 0, 1) := by rw [cc_204]; decide +kernel
theorem D204_21 : decode (cod 204) 21 = .ok (.getfield 28, 3) := by rw [cc_204]; decide +kernel
theorem D204_24 : decode (cod 204) 24 = .ok (.iload_n 3, 1) := by rw [cc_204]; decide +kernel
theorem D204_25 : decode (cod 204) 25 = .ok (.iaload, 1) := by rw [cc_204]; decide +kernel
theorem D204_26 : decode (cod 204) 26 = .ok (.iconst (-1), 1) := by rw [cc_204]; decide +kernel
theorem D204_27 : decode (cod 204) 27 = .ok (.if_icmp .eq 16, 3) := by rw [cc_204]; decide +kernel
theorem D204_30 : decode (cod 204) 30 = .ok (.aload_n 0, 1) := by rw [cc_204]; decide +kernel
theorem D204_31 : decode (cod 204) 31 = .ok (.iload_n 2, 1) := by rw [cc_204]; decide +kernel
theorem D204_32 : decode (cod 204) 32 = .ok (.iconst 2, 1) := by rw [cc_204]; decide +kernel
theorem D204_33 : decode (cod 204) 33 = .ok (.idiv, 1) := by rw [cc_204]; decide +kernel
theorem D204_34 : decode (cod 204) 34 = .ok (.aload_n 0, 1) := by rw [cc_204]; decide +kernel
theorem D204_35 : decode (cod 204) 35 = .ok (.getfield 28, 3) := by rw [cc_204]; decide +kernel
theorem D204_38 : decode (cod 204) 38 = .ok (.iload_n 3, 1) := by rw [cc_204]; decide +kernel
theorem D204_39 : decode (cod 204) 39 = .ok (.iaload, 1) := by rw [cc_204]; decide +kernel
theorem D204_40 : decode (cod 204) 40 = .ok (.invokevirtual 481, 3) := by rw [cc_204]; decide +kernel
theorem D204_43 : decode (cod 204) 43 = .ok (.iinc 3 1, 3) := by rw [cc_204]; decide +kernel
theorem D204_46 : decode (cod 204) 46 = .ok (.goto (-34), 3) := by rw [cc_204]; decide +kernel
theorem D204_49 : decode (cod 204) 49 = .ok (.iload_n 1, 1) := by rw [cc_204]; decide +kernel
theorem D204_50 : decode (cod 204) 50 = .ok (.iconst (-1), 1) := by rw [cc_204]; decide +kernel
theorem D204_51 : decode (cod 204) 51 = .ok (.if_icmp .eq 14, 3) := by rw [cc_204]; decide +kernel
theorem D204_54 : decode (cod 204) 54 = .ok (.aload_n 0, 1) := by rw [cc_204]; decide +kernel
theorem D204_55 : decode (cod 204) 55 = .ok (.iload_n 2, 1) := by rw [cc_204]; decide +kernel
theorem D204_56 : decode (cod 204) 56 = .ok (.aload_n 0, 1) := by rw [cc_204]; decide +kernel
theorem D204_57 : decode (cod 204) 57 = .ok (.getfield 28, 3) := by rw [cc_204]; decide +kernel
theorem D204_60 : decode (cod 204) 60 = .ok (.iload_n 1, 1) := by rw [cc_204]; decide +kernel
theorem D204_61 : decode (cod 204) 61 = .ok (.iaload, 1) := by rw [cc_204]; decide +kernel
theorem D204_62 : decode (cod 204) 62 = .ok (.invokevirtual 481, 3) := by rw [cc_204]; decide +kernel
theorem D204_65 : decode (cod 204) 65 = .ok (.return_, 1) := by rw [cc_204]; decide +kernel
theorem b204_0 {d : Nat} {i0 : Nat} {x1 : Int} {I L : Nat → Nat → Nat → Int} {t : Nat → Nat} : Res (d + 1) 204 0 [vr 12 i0, vi x1, vx, vx] [] (mk I L t) = (Cal d 185 [vr 12 i0] (mk I L t)).bind fun v => Res (d + 1) 204 4 [vr 12 i0, vi x1, vx, vx] (psh 185 v.1 []) v.2 :=
  Eq.trans (e_aload_n D204_0 rfl rfl) <| e_callV D204_1 rfl o_204 m_12_419 (by decide) rfl rfl
theorem b204_4 {d : Nat} {i0 : Nat} {x1 : Int} {I L : Nat → Nat → Nat → Int} {t : Nat → Nat} : Res (d + 1) 204 4 [vr 12 i0, vi x1, vx, vx] [] (mk I L t) = (Cal d 184 [vr 12 i0, vi 3] (mk I L t)).bind fun v => Res (d + 1) 204 9 [vr 12 i0, vi x1, vx, vx] (psh 184 v.1 []) v.2 :=
  Eq.trans (e_aload_n D204_4 rfl rfl) <| Eq.trans (e_iconst (x := 3) D204_5 rfl rfl) <| e_callV D204_6 rfl o_204 m_12_432 (by decide) rfl rfl
theorem b204_9 {d : Nat} {i0 : Nat} {x1 xs0 : Int} {I L : Nat → Nat → Nat → Int} {t : Nat → Nat} : Res d 204 9 [vr 12 i0, vi x1, vx, vx] [vi xs0] (mk I L t) = Res d 204 12 [vr 12 i0, vi x1, vi xs0, vi 0] [] (mk I L t) :=
  Eq.trans (e_istore_n (ls1 := [vr 12 i0, vi x1, vi xs0, vx]) D204_9 rfl (show 2 < 4 by decide) rfl) <| Eq.trans (e_iconst (x := 0) D204_10 rfl rfl) <| e_istore_n (ls1 := [vr 12 i0, vi x1, vi xs0, vi 0]) D204_11 rfl (show 3 < 4 by decide) rfl
theorem b204_12 {d : Nat} {i0 : Nat} {x1 x2 x3 : Int} {I L : Nat → Nat → Nat → Int} {t : Nat → Nat} : Res d 204 12 [vr 12 i0, vi x1, vi x2, vi x3] [] (mk I L t) = if I 12 i0 12 ≤ x3 then Res d 204 49 [vr 12 i0, vi x1, vi x2, vi x3] [] (mk I L t) else Res d 204 20 [vr 12 i0, vi x1, vi x2, vi x3] [] (mk I L t) :=
  Eq.trans (e_iload_n D204_12 rfl rfl) <| Eq.trans (e_aload_n D204_13 rfl rfl) <| Eq.trans (e_getI D204_14 rfl o_204 f_12_236 (sh_12 _) (by decide)) <| e_icge D204_17 rfl rfl
theorem b204_20 {d : Nat} {i0 : Nat} {x1 x2 x3 : Int} {I L : Nat → Nat → Nat → Int} {t : Nat → Nat} (g1 : 0 ≤ x3 ∧ x3 < 9) : Res d 204 20 [vr 12 i0, vi x1, vi x2, vi x3] [] (mk I L t) = if I 54 i0 x3.toNat = -1 then Res d 204 43 [vr 12 i0, vi x1, vi x2, vi x3] [] (mk I L t) else Res d 204 30 [vr 12 i0, vi x1, vi x2, vi x3] [] (mk I L t) :=
  Eq.trans (e_aload_n D204_20 rfl rfl) <| Eq.trans (e_getP (p := (54, i0)) D204_21 rfl o_204 f_12_28 (sh_12 _) (by decide) (pp_12_11 _ _)) <| Eq.trans (e_iload_n D204_24 rfl rfl) <| Eq.trans (e_iald D204_25 rfl (al_54 _) g1) <| Eq.trans (e_iconst (x := -1) D204_26 rfl rfl) <| e_iceq D204_27 rfl rfl
theorem b204_30 {d : Nat} {i0 : Nat} {x1 x2 x3 : Int} {I L : Nat → Nat → Nat → Int} {t : Nat → Nat} (g1 : 0 ≤ x3 ∧ x3 < 9) : Res (d + 1) 204 30 [vr 12 i0, vi x1, vi x2, vi x3] [] (mk I L t) = (Cal d 190 [vr 12 i0, vi (vIdiv x2 2), vi (I 54 i0 x3.toNat)] (mk I L t)).bind fun v => Res (d + 1) 204 43 [vr 12 i0, vi x1, vi x2, vi x3] (psh 190 v.1 []) v.2 :=
  Eq.trans (e_aload_n D204_30 rfl rfl) <| Eq.trans (e_iload_n D204_31 rfl rfl) <| Eq.trans (e_iconst (x := 2) D204_32 rfl rfl) <| Eq.trans (e_idiv D204_33 rfl (by decide)) <| Eq.trans (e_aload_n D204_34 rfl rfl) <| Eq.trans (e_getP (p := (54, i0)) D204_35 rfl o_204 f_12_28 (sh_12 _) (by decide) (pp_12_11 _ _)) <| Eq.trans (e_iload_n D204_38 rfl rfl) <| Eq.trans (e_iald D204_39 rfl (al_54 _) g1) <| e_callV D204_40 rfl o_204 m_12_481 (by decide) rfl rfl
theorem b204_43 {d : Nat} {i0 : Nat} {x1 x2 x3 : Int} {I L : Nat → Nat → Nat → Int} {t : Nat → Nat} : Res d 204 43 [vr 12 i0, vi x1, vi x2, vi x3] [] (mk I L t) = Res d 204 12 [vr 12 i0, vi x1, vi x2, vi (w32 (x3 + 1))] [] (mk I L t) :=
  Eq.trans (e_iinc (ls1 := [vr 12 i0, vi x1, vi x2, vi (w32 (x3 + 1))]) D204_43 rfl rfl rfl) <| e_goto (q1 := 12) D204_46 rfl
theorem b204_49 {d : Nat} {i0 : Nat} {x1 x2 x3 : Int} {I L : Nat → Nat → Nat → Int} {t : Nat → Nat} : Res d 204 49 [vr 12 i0, vi x1, vi x2, vi x3] [] (mk I L t) = if x1 = -1 then Res d 204 65 [vr 12 i0, vi x1, vi x2, vi x3] [] (mk I L t) else Res d 204 54 [vr 12 i0, vi x1, vi x2, vi x3] [] (mk I L t) :=
  Eq.trans (e_iload_n D204_49 rfl rfl) <| Eq.trans (e_iconst (x := -1) D204_50 rfl rfl) <| e_iceq D204_51 rfl rfl
theorem b204_54 {d : Nat} {i0 : Nat} {x1 x2 x3 : Int} {I L : Nat → Nat → Nat → Int} {t : Nat → Nat} (g1 : 0 ≤ x1 ∧ x1 < 9) : Res (d + 1) 204 54 [vr 12 i0, vi x1, vi x2, vi x3] [] (mk I L t) = (Cal d 190 [vr 12 i0, vi x2, vi (I 54 i0 x1.toNat)] (mk I L t)).bind fun v => Res (d + 1) 204 65 [vr 12 i0, vi x1, vi x2, vi x3] (psh 190 v.1 []) v.2 :=
  Eq.trans (e_aload_n D204_54 rfl rfl) <| Eq.trans (e_iload_n D204_55 rfl rfl) <| Eq.trans (e_aload_n D204_56 rfl rfl) <| Eq.trans (e_getP (p := (54, i0)) D204_57 rfl o_204 f_12_28 (sh_12 _) (by decide) (pp_12_11 _ _)) <| Eq.trans (e_iload_n D204_60 rfl rfl) <| Eq.trans (e_iald D204_61 rfl (al_54 _) g1) <| e_callV D204_62 rfl o_204 m_12_481 (by decide) rfl rfl
theorem b204_65 {d : Nat} {i0 : Nat} {x1 x2 x3 : Int} {I L : Nat → Nat → Nat → Int} {t : Nat → Nat} : Res d 204 65 [vr 12 i0, vi x1, vi x2, vi x3] [] (mk I L t) = some (vx, (mk I L t)) :=
  e_vret D204_65 rfl
/-! m_show -/
theorem cc_205 : cod 205 = cX12_show := rfl
theorem D205_0 : decode (cod 205) 0 = .ok (.aload_n 0, 1) := by rw [cc_205]; decide +kernel
theorem D205_1 : decode (cod 205) 1 = .ok (.iload_n 1, 1) := by rw [cc_205]; decide +kernel
theorem D205_2 : decode (cod 205) 2 = .ok (.invokevirtual 469, 3) := by rw [cc_205]; decide +kernel
theorem D205_5 : decode (cod 205) 5 = .ok (.ifCond .eq 39, 3) := by rw [cc_205]; decide +kernel
theorem D205_8 : decode (cod 205) 8 = .ok (.iload_n 2, 1) := by rw [cc_205]; decide +kernel
theorem D205_9 : decode (cod 205) 9 = .ok (.invokestatic 233, 3) := by rw [cc_205]; decide +kernel
theorem D205_12 : decode (cod 205) 12 = .ok (.ifCond .eq 32, 3) := by rw [cc_205]; decide +kernel
theorem D205_15 : decode (cod 205) 15 = .ok (.iload_n 3, 1) := by rw [cc_205]; decide +kernel
theorem D205_16 : decode (cod 205) 16 = .ok (.iconst 0, 1) := by rw [cc_205]; decide +kernel
theorem D205_17 : decode (cod 205) 17 = .ok (.iconst 2, 1) := by rw [cc_205]; decide +kernel
theorem D205_18 : decode (cod 205) 18 = .ok (.invokestatic 219, 3) := by rw [cc_205]; decide +kernel
theorem D205_21 : decode (cod 205) 21 = .ok (.ifCond .eq 23, 3) := by rw [cc_205]; decide +kernel
theorem D205_24 : decode (cod 205) 24 = .ok (.iload 5, 2) := by rw [cc_205]; decide +kernel
theorem D205_26 : decode (cod 205) 26 = .ok (.iconst 0, 1) := by rw [cc_205]; decide +kernel
theorem D205_27 : decode (cod 205) 27 = .ok (.bipush 99, 2) := by rw [cc_205]; decide +kernel
theorem D205_29 : decode (cod 205) 29 = .ok (.invokestatic 219, 3) := by rw [cc_205]; decide +kernel
theorem D205_32 : decode (cod 205) 32 = .ok (.ifCond .eq 12, 3) := by rw [cc_205]; decide +kernel
theorem D205_35 : decode (cod 205) 35 = .ok (.aload_n 0, 1) := by rw [cc_205]; decide +kernel
theorem D205_36 : decode (cod 205) 36 = .ok (.getfield 484, 3) := by rw [cc_205]; decide +kernel
theorem D205_39 : decode (cod 205) 39 = .ok (.bipush 100, 2) := by rw [cc_205]; decide +kernel
theorem D205_41 : decode (cod 205) 41 = .ok (.if_icmp .ne 5, 3) := by rw [cc_205]; decide +kernel
theorem D205_44 : decode (cod 205) 44 = .ok (.iconst (-1), 1) := by rw [cc_205]; decide +kernel
theorem D205_45 : decode (cod 205) 45 = .ok (.ireturn, 1) := by rw [cc_205]; decide +kernel
theorem D205_46 : decode (cod 205) 46 = .ok (.aload_n 0, 1) := by rw [cc_205]; decide +kernel
theorem D205_47 : decode (cod 205) 47 = .ok (.iload_n 2, 1) := by rw [cc_205]; decide +kernel
theorem D205_48 : decode (cod 205) 48 = .ok (.invokevirtual 472, 3) := by rw [cc_205]; decide +kernel
theorem D205_51 : decode (cod 205) 51 = .ok (.iload 4, 2) := by rw [cc_205]; decide +kernel
theorem D205_53 : decode (cod 205) 53 = .ok (.iconst (-1), 1) := by rw [cc_205]; decide +kernel
theorem D205_54 : decode (cod 205) 54 = .ok (.if_icmp .eq 12, 3) := by rw [cc_205]; decide +kernel
theorem D205_57 : decode (cod 205) 57 = .ok (.aload_n 0, 1) := by rw [cc_205]; decide +kernel
theorem D205_58 : decode (cod 205) 58 = .ok (.iload 4, 2) := by rw [cc_205]; decide +kernel
theorem D205_60 : decode (cod 205) 60 = .ok (.invokevirtual 475, 3) := by rw [cc_205]; decide +kernel
theorem D205_63 : decode (cod 205) 63 = .ok (.ifCond .eq 34, 3) := by rw [cc_205]; decide +kernel
theorem D205_66 : decode (cod 205) 66 = .ok (.iload 6, 2) := by rw [cc_205]; decide +kernel
theorem D205_68 : decode (cod 205) 68 = .ok (.iconst (-1), 1) := by rw [cc_205]; decide +kernel
theorem D205_69 : decode (cod 205) 69 = .ok (.if_icmp .eq 30, 3) := by rw [cc_205]; decide +kernel
theorem D205_72 : decode (cod 205) 72 = .ok (.iload_n 3, 1) := by rw [cc_205]; decide +kernel
theorem D205_73 : decode (cod 205) 73 = .ok (.iconst 2, 1) := by rw [cc_205]; decide +kernel
theorem D205_74 : decode (cod 205) 74 = .ok (.if_icmp .eq 23, 3) := by rw [cc_205]; decide +kernel
theorem D205_77 : decode (cod 205) 77 = .ok (.aload_n 0, 1) := by rw [cc_205]; decide +kernel
theorem D205_78 : decode (cod 205) 78 = .ok (.iload 6, 2) := by rw [cc_205]; decide +kernel
theorem D205_80 : decode (cod 205) 80 = .ok (.invokevirtual 475, 3) := by rw [cc_205]; decide +kernel
theorem D205_83 : decode (cod 205) 83 = .ok (.ifCond .eq 14, 3) := by rw [cc_205]; decide +kernel
theorem D205_86 : decode (cod 205) 86 = .ok (.aload_n 0, 1) := by rw [cc_205]; decide +kernel
theorem D205_87 : decode (cod 205) 87 = .ok (.getfield 28, 3) := by rw [cc_205]; decide +kernel
theorem D205_90 : decode (cod 205) 90 = .ok (.iload 6, 2) := by rw [cc_205]; decide +kernel
theorem D205_92 : decode (cod 205) 92 = .ok (.iaload, 1) := by rw [cc_205]; decide +kernel
theorem D205_93 : decode (cod 205) 93 = .ok (.iconst (-1), 1) := by rw [cc_205]; decide +kernel
theorem D205_94 : decode (cod 205) 94 = .ok (.if_icmp .ne 5, 3) := by rw [cc_205]; decide +kernel
theorem D205_97 : decode (cod 205) 97 = .ok (.iconst (-1), 1) := by rw [cc_205]; decide +kernel
theorem D205_98 : decode (cod 205) 98 = .ok (.ireturn, 1) := by rw [cc_205]; decide +kernel
theorem D205_99 : decode (cod 205) 99 = .ok (.aload_n 0, 1) := by rw [cc_205]; decide +kernel
theorem D205_100 : decode (cod 205) 100 = .ok (.getfield 484, 3) := by rw [cc_205]; decide +kernel
theorem D205_103 : decode (cod 205) 103 = .ok (.istore 7, 2) := by rw [cc_205]; decide +kernel
theorem D205_105 : decode (cod 205) 105 = .ok (.aload_n 0, 1) := by rw [cc_205]; decide +kernel
theorem D205_106 : decode (cod 205) 106 = .ok (.iload_n 1, 1) := by rw [cc_205]; decide +kernel
theorem D205_107 : decode (cod 205) 107 = .ok (.invokevirtual 459, 3) := by rw [cc_205]; decide +kernel
theorem D205_110 : decode (cod 205) 110 = .ok (.aload_n 0, 1) := by rw [cc_205]; decide +kernel
theorem D205_111 : decode (cod 205) 111 = .ok (.getfield 171, 3) := by rw [cc_205]; decide +kernel
theorem D205_114 : decode (cod 205) 114 = .ok (.iload 7, 2) := by rw [cc_205]; decide +kernel
theorem D205_116 : decode (cod 205) 116 = .ok (.iconst 0, 1) := by rw [cc_205]; decide +kernel
theorem D205_117 : decode (cod 205) 117 = .ok (.iastore, 1) := by rw [cc_205]; decide +kernel
theorem D205_118 : decode (cod 205) 118 = .ok (.iload_n 3, 1) := by rw [cc_205]; decide +kernel
theorem D205_119 : decode (cod 205) 119 = .ok (.iconst 2, 1) := by rw [cc_205]; decide +kernel
theorem D205_120 : decode (cod 205) 120 = .ok (.if_icmp .ge 37, 3) := by rw [cc_205]; decide +kernel
theorem D205_123 : decode (cod 205) 123 = .ok (.aload_n 0, 1) := by rw [cc_205]; decide +kernel
theorem D205_124 : decode (cod 205) 124 = .ok (.iload_n 3, 1) := by rw [cc_205]; decide +kernel
theorem D205_125 : decode (cod 205) 125 = .ok (.iload 4, 2) := by rw [cc_205]; decide +kernel
theorem D205_127 : decode (cod 205) 127 = .ok (.iload 5, 2) := by rw [cc_205]; decide +kernel
theorem D205_129 : decode (cod 205) 129 = .ok (.invokevirtual 478, 3) := by rw [cc_205]; decide +kernel
theorem D205_132 : decode (cod 205) 132 = .ok (.aload_n 0, 1) := by rw [cc_205]; decide +kernel
theorem D205_133 : decode (cod 205) 133 = .ok (.getfield 171, 3) := by rw [cc_205]; decide +kernel
theorem D205_136 : decode (cod 205) 136 = .ok (.iload 7, 2) := by rw [cc_205]; decide +kernel
theorem D205_138 : decode (cod 205) 138 = .ok (.aload_n 0, 1) := by rw [cc_205]; decide +kernel
theorem D205_139 : decode (cod 205) 139 = .ok (.getfield 105, 3) := by rw [cc_205]; decide +kernel
theorem D205_142 : decode (cod 205) 142 = .ok (.iload 6, 2) := by rw [cc_205]; decide +kernel
theorem D205_144 : decode (cod 205) 144 = .ok (.iconst (-1), 1) := by rw [cc_205]; decide +kernel
theorem D205_145 : decode (cod 205) 145 = .ok (.if_icmp .ne 8, 3) := by rw [cc_205]; decide +kernel
theorem D205_148 : decode (cod 205) 148 = .ok (.bipush 9, 2) := by rw [cc_205]; decide +kernel
theorem D205_150 : decode (cod 205) 150 = .ok (.goto 5, 3) := by rw [cc_205]; decide +kernel
theorem D205_153 : decode (cod 205) 153 = .ok (.iload 6, 2) := by rw [cc_205]; decide +kernel
theorem D205_155 : decode (cod 205) 155 = .ok (.iaload, 1) := by rw [cc_205]; decide +kernel
theorem D205_156 : decode (cod 205) 156 = .ok (.iastore, 1) := by rw [cc_205]; decide +kernel
theorem D205_157 : decode (cod 205) 157 = .ok (.aload_n 0, 1) := by rw [cc_205]; decide +kernel
theorem D205_158 : decode (cod 205) 158 = .ok (.getfield 174, 3) := by rw [cc_205]; decide +kernel
theorem D205_161 : decode (cod 205) 161 = .ok (.iload 7, 2) := by rw [cc_205]; decide +kernel
theorem D205_163 : decode (cod 205) 163 = .ok (.iload 6, 2) := by rw [cc_205]; decide +kernel
theorem D205_165 : decode (cod 205) 165 = .ok (.iconst (-1), 1) := by rw [cc_205]; decide +kernel
theorem D205_166 : decode (cod 205) 166 = .ok (.if_icmp .ne 7, 3) := by rw [cc_205]; decide +kernel
theorem D205_169 : decode (cod 205) 169 = .ok (.iconst (-1), 1) := by rw [cc_205]; decide +kernel
theorem D205_170 : decode (cod 205) 170 = .ok (.goto 9, 3) := by rw [cc_205]; decide +kernel
theorem D205_173 : decode (cod 205) 173 = .ok (.aload_n 0, 1) := by rw [cc_205]; decide +kernel
theorem D205_174 : decode (cod 205) 174 = .ok (.iload 6, 2) := by rw [cc_205]; decide +kernel
theorem D205_176 : decode (cod 205) 176 = .ok (.invokevirtual 487, 3) := by rw [cc_205]; decide +kernel
theorem D205_179 : decode (cod 205) 179 = .ok (.iastore, 1) := by rw [cc_205]; decide +kernel
theorem D205_180 : decode (cod 205) 180 = .ok (.aload_n 0, 1) := by rw [cc_205]; decide +kernel
theorem D205_181 : decode (cod 205) 181 = .ok (.getfield 153, 3) := by rw [cc_205]; decide +kernel
theorem D205_184 : decode (cod 205) 184 = .ok (.iload 7, 2) := by rw [cc_205]; decide +kernel
theorem D205_186 : decode (cod 205) 186 = .ok (.iload_n 1, 1) := by rw [cc_205]; decide +kernel
theorem D205_187 : decode (cod 205) 187 = .ok (.iastore, 1) := by rw [cc_205]; decide +kernel
theorem D205_188 : decode (cod 205) 188 = .ok (.aload_n 0, 1) := by rw [cc_205]; decide +kernel
theorem D205_189 : decode (cod 205) 189 = .ok (.getfield 156, 3) := by rw [cc_205]; decide +kernel
theorem D205_192 : decode (cod 205) 192 = .ok (.iload 7, 2) := by rw [cc_205]; decide +kernel
theorem D205_194 : decode (cod 205) 194 = .ok (.iload_n 3, 1) := by rw [cc_205]; decide +kernel
theorem D205_195 : decode (cod 205) 195 = .ok (.iastore, 1) := by rw [cc_205]; decide +kernel
theorem D205_196 : decode (cod 205) 196 = .ok (.aload_n 0, 1) := by rw [cc_205]; decide +kernel
theorem D205_197 : decode (cod 205) 197 = .ok (.getfield 159, 3) := by rw [cc_205]; decide +kernel
theorem D205_200 : decode (cod 205) 200 = .ok (.iload 7, 2) := by rw [cc_205]; decide +kernel
theorem D205_202 : decode (cod 205) 202 = .ok (.aload_n 0, 1) := by rw [cc_205]; decide +kernel
theorem D205_203 : decode (cod 205) 203 = .ok (.getfield 446, 3) := by rw [cc_205]; decide +kernel
theorem D205_206 : decode (cod 205) 206 = .ok (.iastore, 1) := by rw [cc_205]; decide +kernel
theorem D205_207 : decode (cod 205) 207 = .ok (.aload_n 0, 1) := by rw [cc_205]; decide +kernel
theorem D205_208 : decode (cod 205) 208 = .ok (.getfield 162, 3) := by rw [cc_205]; decide +kernel
theorem D205_211 : decode (cod 205) 211 = .ok (.iload 7, 2) := by rw [cc_205]; decide +kernel
theorem D205_213 : decode (cod 205) 213 = .ok (.iload 6, 2) := by rw [cc_205]; decide +kernel
theorem D205_215 : decode (cod 205) 215 = .ok (.iastore, 1) := by rw [cc_205]; decide +kernel
theorem D205_216 : decode (cod 205) 216 = .ok (.aload_n 0, 1) := by rw [cc_205]; decide +kernel
theorem D205_217 : decode (cod 205) 217 = .ok (.getfield 165, 3) := by rw [cc_205]; decide +kernel
theorem D205_220 : decode (cod 205) 220 = .ok (.iload 7, 2) := by rw [cc_205]; decide +kernel
theorem D205_222 : decode (cod 205) 222 = .ok (.iload 4, 2) := by rw [cc_205]; decide +kernel
theorem D205_224 : decode (cod 205) 224 = .ok (.iastore, 1) := by rw [cc_205]; decide +kernel
theorem D205_225 : decode (cod 205) 225 = .ok (.aload_n 0, 1) := by rw [cc_205]; decide +kernel
theorem D205_226 : decode (cod 205) 226 = .ok (.getfield 168, 3) := by rw [cc_205]; decide +kernel
theorem D205_229 : decode (cod 205) 229 = .ok (.iload 7, 2) := by rw [cc_205]; decide +kernel
theorem D205_231 : decode (cod 205) 231 = .ok (.iload 5, 2) := by rw [cc_205]; decide +kernel
theorem D205_233 : decode (cod 205) 233 = .ok (.iastore, 1) := by rw [cc_205]; decide +kernel
theorem D205_234 : decode (cod 205) 234 = .ok (.aload_n 0, 1) := by rw [cc_205]; decide +kernel
theorem D205_235 : decode (cod 205) 235 = .ok (.getfield 180, 3) := by rw [cc_205]; decide +kernel
theorem D205_238 : decode (cod 205) 238 = .ok (.iload 7, 2) := by rw [cc_205]; decide +kernel
theorem D205_240 : decode (cod 205) 240 = .ok (.aload_n 0, 1) := by rw [cc_205]; decide +kernel
theorem D205_241 : decode (cod 205) 241 = .ok (.getfield 236, 3) := by rw [cc_205]; decide +kernel
theorem D205_244 : decode (cod 205) 244 = .ok (.iastore, 1) := by rw [cc_205]; decide +kernel
theorem D205_245 : decode (cod 205) 245 = .ok (.iconst 0, 1) := by rw [cc_205]; decide +kernel
theorem D205_246 : decode (cod 205) 246 = .ok (.istore 8, 2) := by rw [cc_205]; decide +kernel
theorem D205_248 : decode (cod 205) 248 = .ok (.iload 8, 2) := by rw [cc_205]; decide +kernel
theorem D205_250 : decode (cod 205) 250 = .ok (.aload_n 0, 1) := by rw [cc_205]; decide +kernel
theorem D205_251 : decode (cod 205) 251 = .ok (.getfield 236, 3) := by rw [cc_205]; decide +kernel
theorem D205_254 : decode (cod 205) 254 = .ok (.if_icmp .ge 29, 3) := by rw [cc_205]; decide +kernel
theorem D205_257 : decode (cod 205) 257 = .ok (.aload_n 0, 1) := by rw [cc_205]; decide +kernel
theorem D205_258 : decode (cod 205) 258 = .ok (.getfield 177, 3) := by rw [cc_205]; decide +kernel
theorem D205_261 : decode (cod 205) 261 = .ok (.bipush 9, 2) := by rw [cc_205]; decide +kernel
theorem D205_263 : decode (cod 205) 263 = .ok (.iload 7, 2) := by rw [cc_205]; decide +kernel
theorem D205_265 : decode (cod 205) 265 = .ok (.imul, 1) := by rw [cc_205]; decide +kernel
theorem D205_266 : decode (cod 205) 266 = .ok (.iload 8, 2) := by rw [cc_205]; decide +kernel
theorem D205_268 : decode (cod 205) 268 = .ok (.iadd, 1) := by rw [cc_205]; decide +kernel
theorem D205_269 : decode (cod 205) 269 = .ok (.aload_n 0, 1) := by rw [cc_205]; decide +kernel
theorem D205_270 : decode (cod 205) 270 = .ok (.getfield 28, 3) := by rw [cc_205]; decide +kernel
theorem D205_273 : decode (cod 205) 273 = .ok (.iload 8, 2) := by rw [cc_205]; decide +kernel
theorem D205_275 : decode (cod 205) 275 = .ok (.iaload, 1) := by rw [cc_205]; decide +kernel
theorem D205_276 : decode (cod 205) 276 = .ok (.iastore, 1) := by rw [cc_205]; decide +kernel
theorem D205_277 : decode (cod 205) 277 = .ok (.iinc 8 1, 3) := by rw [cc_205]; decide +kernel
theorem D205_280 : decode (cod 205) 280 = .ok (.goto (-32), 3) := by rw [cc_205]; decide +kernel
theorem D205_283 : decode (cod 205) 283 = .ok (.aload_n 0, 1) := by rw [cc_205]; decide +kernel
theorem D205_284 : decode (cod 205) 284 = .ok (.iload 6, 2) := by rw [cc_205]; decide +kernel
theorem D205_286 : decode (cod 205) 286 = .ok (.invokevirtual 490, 3) := by rw [cc_205]; decide +kernel
theorem D205_289 : decode (cod 205) 289 = .ok (.aload_n 0, 1) := by rw [cc_205]; decide +kernel
theorem D205_290 : decode (cod 205) 290 = .ok (.iload_n 1, 1) := by rw [cc_205]; decide +kernel
theorem D205_291 : decode (cod 205) 291 = .ok (.invokevirtual 456, 3) := by rw [cc_205]; decide +kernel
theorem D205_294 : decode (cod 205) 294 = .ok (.aload_n 0, 1) := by rw [cc_205]; decide +kernel
theorem D205_295 : decode (cod 205) 295 = .ok (.iconst 1, 1) := by rw [cc_205]; decide +kernel
theorem D205_296 : decode (cod 205) 296 = .ok (.iload_n 1, 1) := by rw [cc_205]; decide +kernel
theorem D205_297 : decode (cod 205) 297 = .ok (.iload 7, 2) := by rw [cc_205]; decide +kernel
theorem D205_299 : decode (cod 205) 299 = .ok (.invokevirtual 465, 3) := by rw [cc_205]; decide +kernel
theorem D205_302 : decode (cod 205) 302 = .ok (.aload_n 0, 1) := by rw [cc_205]; decide +kernel
theorem D205_303 : decode (cod 205) 303 = .ok (.dup, 1) := by rw [cc_205]; decide +kernel
theorem D205_304 : decode (cod 205) 304 = .ok (.getfield 484, 3) := by rw [cc_205]; decide +kernel
theorem D205_307 : decode (cod 205) 307 = .ok (.iconst 1, 1) := by rw [cc_205]; decide +kernel
theorem D205_308 : decode (cod 205) 308 = .ok (.iadd, 1) := by rw [cc_205]; decide +kernel
theorem D205_309 : decode (cod 205) 309 = .ok (.putfield 484, 3) := by rw [cc_205]; decide +kernel
theorem D205_312 : decode (cod 205) 312 = .ok (.iload 7, 2) := by rw [cc_205]; decide +kernel
theorem D205_314 : decode (cod 205) 314 = .ok (.ireturn, 1) := by rw [cc_205]; decide +kernel
theorem b205_0 {d : Nat} {i0 : Nat} {x1 x2 x3 x4 x5 x6 : Int} {I L : Nat → Nat → Nat → Int} {t : Nat → Nat} : Res (d + 1) 205 0 [vr 12 i0, vi x1, vi x2, vi x3, vi x4, vi x5, vi x6, vx, vx] [] (mk I L t) = (Cal d 150 [vr 12 i0, vi x1] (mk I L t)).bind fun v => Res (d + 1) 205 5 [vr 12 i0, vi x1, vi x2, vi x3, vi x4, vi x5, vi x6, vx, vx] (psh 150 v.1 []) v.2 :=
  Eq.trans (e_aload_n D205_0 rfl rfl) <| Eq.trans (e_iload_n D205_1 rfl rfl) <| e_callV D205_2 rfl o_205 m_12_469 (by decide) rfl rfl
theorem b205_5 {d : Nat} {i0 : Nat} {x1 x2 x3 x4 x5 x6 xs0 : Int} {I L : Nat → Nat → Nat → Int} {t : Nat → Nat} : Res d 205 5 [vr 12 i0, vi x1, vi x2, vi x3, vi x4, vi x5, vi x6, vx, vx] [vi xs0] (mk I L t) = if xs0 = 0 then Res d 205 44 [vr 12 i0, vi x1, vi x2, vi x3, vi x4, vi x5, vi x6, vx, vx] [] (mk I L t) else Res d 205 8 [vr 12 i0, vi x1, vi x2, vi x3, vi x4, vi x5, vi x6, vx, vx] [] (mk I L t) :=
  e_ifeq D205_5 rfl rfl
theorem b205_8 {d : Nat} {i0 : Nat} {x1 x2 x3 x4 x5 x6 : Int} {I L : Nat → Nat → Nat → Int} {t : Nat → Nat} : Res (d + 1) 205 8 [vr 12 i0, vi x1, vi x2, vi x3, vi x4, vi x5, vi x6, vx, vx] [] (mk I L t) = (Cal d 148 [vi x2] (mk I L t)).bind fun v => Res (d + 1) 205 12 [vr 12 i0, vi x1, vi x2, vi x3, vi x4, vi x5, vi x6, vx, vx] (psh 148 v.1 []) v.2 :=
  Eq.trans (e_iload_n D205_8 rfl rfl) <| e_callS D205_9 rfl o_205 m_12_233 (by decide) rfl rfl
theorem b205_12 {d : Nat} {i0 : Nat} {x1 x2 x3 x4 x5 x6 xs0 : Int} {I L : Nat → Nat → Nat → Int} {t : Nat → Nat} : Res d 205 12 [vr 12 i0, vi x1, vi x2, vi x3, vi x4, vi x5, vi x6, vx, vx] [vi xs0] (mk I L t) = if xs0 = 0 then Res d 205 44 [vr 12 i0, vi x1, vi x2, vi x3, vi x4, vi x5, vi x6, vx, vx] [] (mk I L t) else Res d 205 15 [vr 12 i0, vi x1, vi x2, vi x3, vi x4, vi x5, vi x6, vx, vx] [] (mk I L t) :=
  e_ifeq D205_12 rfl rfl
theorem b205_15 {d : Nat} {i0 : Nat} {x1 x2 x3 x4 x5 x6 : Int} {I L : Nat → Nat → Nat → Int} {t : Nat → Nat} : Res (d + 1) 205 15 [vr 12 i0, vi x1, vi x2, vi x3, vi x4, vi x5, vi x6, vx, vx] [] (mk I L t) = (Cal d 146 [vi x3, vi 0, vi 2] (mk I L t)).bind fun v => Res (d + 1) 205 21 [vr 12 i0, vi x1, vi x2, vi x3, vi x4, vi x5, vi x6, vx, vx] (psh 146 v.1 []) v.2 :=
  Eq.trans (e_iload_n D205_15 rfl rfl) <| Eq.trans (e_iconst (x := 0) D205_16 rfl rfl) <| Eq.trans (e_iconst (x := 2) D205_17 rfl rfl) <| e_callS D205_18 rfl o_205 m_12_219 (by decide) rfl rfl
theorem b205_21 {d : Nat} {i0 : Nat} {x1 x2 x3 x4 x5 x6 xs0 : Int} {I L : Nat → Nat → Nat → Int} {t : Nat → Nat} : Res d 205 21 [vr 12 i0, vi x1, vi x2, vi x3, vi x4, vi x5, vi x6, vx, vx] [vi xs0] (mk I L t) = if xs0 = 0 then Res d 205 44 [vr 12 i0, vi x1, vi x2, vi x3, vi x4, vi x5, vi x6, vx, vx] [] (mk I L t) else Res d 205 24 [vr 12 i0, vi x1, vi x2, vi x3, vi x4, vi x5, vi x6, vx, vx] [] (mk I L t) :=
  e_ifeq D205_21 rfl rfl
theorem b205_24 {d : Nat} {i0 : Nat} {x1 x2 x3 x4 x5 x6 : Int} {I L : Nat → Nat → Nat → Int} {t : Nat → Nat} : Res (d + 1) 205 24 [vr 12 i0, vi x1, vi x2, vi x3, vi x4, vi x5, vi x6, vx, vx] [] (mk I L t) = (Cal d 146 [vi x5, vi 0, vi 99] (mk I L t)).bind fun v => Res (d + 1) 205 32 [vr 12 i0, vi x1, vi x2, vi x3, vi x4, vi x5, vi x6, vx, vx] (psh 146 v.1 []) v.2 :=
  Eq.trans (e_iload D205_24 rfl rfl) <| Eq.trans (e_iconst (x := 0) D205_26 rfl rfl) <| Eq.trans (e_bipush (x := 99) D205_27 rfl rfl) <| e_callS D205_29 rfl o_205 m_12_219 (by decide) rfl rfl
theorem b205_32 {d : Nat} {i0 : Nat} {x1 x2 x3 x4 x5 x6 xs0 : Int} {I L : Nat → Nat → Nat → Int} {t : Nat → Nat} : Res d 205 32 [vr 12 i0, vi x1, vi x2, vi x3, vi x4, vi x5, vi x6, vx, vx] [vi xs0] (mk I L t) = if xs0 = 0 then Res d 205 44 [vr 12 i0, vi x1, vi x2, vi x3, vi x4, vi x5, vi x6, vx, vx] [] (mk I L t) else Res d 205 35 [vr 12 i0, vi x1, vi x2, vi x3, vi x4, vi x5, vi x6, vx, vx] [] (mk I L t) :=
  e_ifeq D205_32 rfl rfl
theorem b205_35 {d : Nat} {i0 : Nat} {x1 x2 x3 x4 x5 x6 : Int} {I L : Nat → Nat → Nat → Int} {t : Nat → Nat} : Res d 205 35 [vr 12 i0, vi x1, vi x2, vi x3, vi x4, vi x5, vi x6, vx, vx] [] (mk I L t) = if ¬ I 12 i0 3 = 100 then Res d 205 46 [vr 12 i0, vi x1, vi x2, vi x3, vi x4, vi x5, vi x6, vx, vx] [] (mk I L t) else Res d 205 44 [vr 12 i0, vi x1, vi x2, vi x3, vi x4, vi x5, vi x6, vx, vx] [] (mk I L t) :=
  Eq.trans (e_aload_n D205_35 rfl rfl) <| Eq.trans (e_getI D205_36 rfl o_205 f_12_484 (sh_12 _) (by decide)) <| Eq.trans (e_bipush (x := 100) D205_39 rfl rfl) <| e_icne D205_41 rfl rfl
theorem b205_44 {d : Nat} {i0 : Nat} {x1 x2 x3 x4 x5 x6 : Int} {I L : Nat → Nat → Nat → Int} {t : Nat → Nat} : Res d 205 44 [vr 12 i0, vi x1, vi x2, vi x3, vi x4, vi x5, vi x6, vx, vx] [] (mk I L t) = some (vi (-1), (mk I L t)) :=
  Eq.trans (e_iconst (x := -1) D205_44 rfl rfl) <| e_iret D205_45 rfl
theorem b205_46 {d : Nat} {i0 : Nat} {x1 x2 x3 x4 x5 x6 : Int} {I L : Nat → Nat → Nat → Int} {t : Nat → Nat} : Res (d + 1) 205 46 [vr 12 i0, vi x1, vi x2, vi x3, vi x4, vi x5, vi x6, vx, vx] [] (mk I L t) = (Cal d 156 [vr 12 i0, vi x2] (mk I L t)).bind fun v => Res (d + 1) 205 51 [vr 12 i0, vi x1, vi x2, vi x3, vi x4, vi x5, vi x6, vx, vx] (psh 156 v.1 []) v.2 :=
  Eq.trans (e_aload_n D205_46 rfl rfl) <| Eq.trans (e_iload_n D205_47 rfl rfl) <| e_callV D205_48 rfl o_205 m_12_472 (by decide) rfl rfl
theorem b205_51 {d : Nat} {i0 : Nat} {x1 x2 x3 x4 x5 x6 : Int} {I L : Nat → Nat → Nat → Int} {t : Nat → Nat} : Res d 205 51 [vr 12 i0, vi x1, vi x2, vi x3, vi x4, vi x5, vi x6, vx, vx] [] (mk I L t) = if x4 = -1 then Res d 205 66 [vr 12 i0, vi x1, vi x2, vi x3, vi x4, vi x5, vi x6, vx, vx] [] (mk I L t) else Res d 205 57 [vr 12 i0, vi x1, vi x2, vi x3, vi x4, vi x5, vi x6, vx, vx] [] (mk I L t) :=
  Eq.trans (e_iload D205_51 rfl rfl) <| Eq.trans (e_iconst (x := -1) D205_53 rfl rfl) <| e_iceq D205_54 rfl rfl
theorem b205_57 {d : Nat} {i0 : Nat} {x1 x2 x3 x4 x5 x6 : Int} {I L : Nat → Nat → Nat → Int} {t : Nat → Nat} : Res (d + 1) 205 57 [vr 12 i0, vi x1, vi x2, vi x3, vi x4, vi x5, vi x6, vx, vx] [] (mk I L t) = (Cal d 157 [vr 12 i0, vi x4] (mk I L t)).bind fun v => Res (d + 1) 205 63 [vr 12 i0, vi x1, vi x2, vi x3, vi x4, vi x5, vi x6, vx, vx] (psh 157 v.1 []) v.2 :=
  Eq.trans (e_aload_n D205_57 rfl rfl) <| Eq.trans (e_iload D205_58 rfl rfl) <| e_callV D205_60 rfl o_205 m_12_475 (by decide) rfl rfl
theorem b205_63 {d : Nat} {i0 : Nat} {x1 x2 x3 x4 x5 x6 xs0 : Int} {I L : Nat → Nat → Nat → Int} {t : Nat → Nat} : Res d 205 63 [vr 12 i0, vi x1, vi x2, vi x3, vi x4, vi x5, vi x6, vx, vx] [vi xs0] (mk I L t) = if xs0 = 0 then Res d 205 97 [vr 12 i0, vi x1, vi x2, vi x3, vi x4, vi x5, vi x6, vx, vx] [] (mk I L t) else Res d 205 66 [vr 12 i0, vi x1, vi x2, vi x3, vi x4, vi x5, vi x6, vx, vx] [] (mk I L t) :=
  e_ifeq D205_63 rfl rfl
theorem b205_66 {d : Nat} {i0 : Nat} {x1 x2 x3 x4 x5 x6 : Int} {I L : Nat → Nat → Nat → Int} {t : Nat → Nat} : Res d 205 66 [vr 12 i0, vi x1, vi x2, vi x3, vi x4, vi x5, vi x6, vx, vx] [] (mk I L t) = if x6 = -1 then Res d 205 99 [vr 12 i0, vi x1, vi x2, vi x3, vi x4, vi x5, vi x6, vx, vx] [] (mk I L t) else Res d 205 72 [vr 12 i0, vi x1, vi x2, vi x3, vi x4, vi x5, vi x6, vx, vx] [] (mk I L t) :=
  Eq.trans (e_iload D205_66 rfl rfl) <| Eq.trans (e_iconst (x := -1) D205_68 rfl rfl) <| e_iceq D205_69 rfl rfl
theorem b205_72 {d : Nat} {i0 : Nat} {x1 x2 x3 x4 x5 x6 : Int} {I L : Nat → Nat → Nat → Int} {t : Nat → Nat} : Res d 205 72 [vr 12 i0, vi x1, vi x2, vi x3, vi x4, vi x5, vi x6, vx, vx] [] (mk I L t) = if x3 = 2 then Res d 205 97 [vr 12 i0, vi x1, vi x2, vi x3, vi x4, vi x5, vi x6, vx, vx] [] (mk I L t) else Res d 205 77 [vr 12 i0, vi x1, vi x2, vi x3, vi x4, vi x5, vi x6, vx, vx] [] (mk I L t) :=
  Eq.trans (e_iload_n D205_72 rfl rfl) <| Eq.trans (e_iconst (x := 2) D205_73 rfl rfl) <| e_iceq D205_74 rfl rfl
theorem b205_77 {d : Nat} {i0 : Nat} {x1 x2 x3 x4 x5 x6 : Int} {I L : Nat → Nat → Nat → Int} {t : Nat → Nat} : Res (d + 1) 205 77 [vr 12 i0, vi x1, vi x2, vi x3, vi x4, vi x5, vi x6, vx, vx] [] (mk I L t) = (Cal d 157 [vr 12 i0, vi x6] (mk I L t)).bind fun v => Res (d + 1) 205 83 [vr 12 i0, vi x1, vi x2, vi x3, vi x4, vi x5, vi x6, vx, vx] (psh 157 v.1 []) v.2 :=
  Eq.trans (e_aload_n D205_77 rfl rfl) <| Eq.trans (e_iload D205_78 rfl rfl) <| e_callV D205_80 rfl o_205 m_12_475 (by decide) rfl rfl
theorem b205_83 {d : Nat} {i0 : Nat} {x1 x2 x3 x4 x5 x6 xs0 : Int} {I L : Nat → Nat → Nat → Int} {t : Nat → Nat} : Res d 205 83 [vr 12 i0, vi x1, vi x2, vi x3, vi x4, vi x5, vi x6, vx, vx] [vi xs0] (mk I L t) = if xs0 = 0 then Res d 205 97 [vr 12 i0, vi x1, vi x2, vi x3, vi x4, vi x5, vi x6, vx, vx] [] (mk I L t) else Res d 205 86 [vr 12 i0, vi x1, vi x2, vi x3, vi x4, vi x5, vi x6, vx, vx] [] (mk I L t) :=
  e_ifeq D205_83 rfl rfl
theorem b205_86 {d : Nat} {i0 : Nat} {x1 x2 x3 x4 x5 x6 : Int} {I L : Nat → Nat → Nat → Int} {t : Nat → Nat} (g1 : 0 ≤ x6 ∧ x6 < 9) : Res d 205 86 [vr 12 i0, vi x1, vi x2, vi x3, vi x4, vi x5, vi x6, vx, vx] [] (mk I L t) = if ¬ I 54 i0 x6.toNat = -1 then Res d 205 99 [vr 12 i0, vi x1, vi x2, vi x3, vi x4, vi x5, vi x6, vx, vx] [] (mk I L t) else Res d 205 97 [vr 12 i0, vi x1, vi x2, vi x3, vi x4, vi x5, vi x6, vx, vx] [] (mk I L t) :=
  Eq.trans (e_aload_n D205_86 rfl rfl) <| Eq.trans (e_getP (p := (54, i0)) D205_87 rfl o_205 f_12_28 (sh_12 _) (by decide) (pp_12_11 _ _)) <| Eq.trans (e_iload D205_90 rfl rfl) <| Eq.trans (e_iald D205_92 rfl (al_54 _) g1) <| Eq.trans (e_iconst (x := -1) D205_93 rfl rfl) <| e_icne D205_94 rfl rfl
theorem b205_97 {d : Nat} {i0 : Nat} {x1 x2 x3 x4 x5 x6 : Int} {I L : Nat → Nat → Nat → Int} {t : Nat → Nat} : Res d 205 97 [vr 12 i0, vi x1, vi x2, vi x3, vi x4, vi x5, vi x6, vx, vx] [] (mk I L t) = some (vi (-1), (mk I L t)) :=
  Eq.trans (e_iconst (x := -1) D205_97 rfl rfl) <| e_iret D205_98 rfl
theorem b205_99 {d : Nat} {i0 : Nat} {x1 x2 x3 x4 x5 x6 : Int} {I L : Nat → Nat → Nat → Int} {t : Nat → Nat} : Res (d + 1) 205 99 [vr 12 i0, vi x1, vi x2, vi x3, vi x4, vi x5, vi x6, vx, vx] [] (mk I L t) = (Cal d 196 [vr 12 i0, vi x1] (mk I L t)).bind fun v => Res (d + 1) 205 110 [vr 12 i0, vi x1, vi x2, vi x3, vi x4, vi x5, vi x6, vi (I 12 i0 3), vx] (psh 196 v.1 []) v.2 :=
  Eq.trans (e_aload_n D205_99 rfl rfl) <| Eq.trans (e_getI D205_100 rfl o_205 f_12_484 (sh_12 _) (by decide)) <| Eq.trans (e_istore (ls1 := [vr 12 i0, vi x1, vi x2, vi x3, vi x4, vi x5, vi x6, vi (I 12 i0 3), vx]) D205_103 rfl (show 7 < 9 by decide) rfl) <| Eq.trans (e_aload_n D205_105 rfl rfl) <| Eq.trans (e_iload_n D205_106 rfl rfl) <| e_callV D205_107 rfl o_205 m_12_459 (by decide) rfl rfl
theorem b205_110 {d : Nat} {i0 : Nat} {x1 x2 x3 x4 x5 x6 x7 : Int} {I L : Nat → Nat → Nat → Int} {t : Nat → Nat} (g1 : 0 ≤ x7 ∧ x7 < 100) : Res d 205 110 [vr 12 i0, vi x1, vi x2, vi x3, vi x4, vi x5, vi x6, vi x7, vx] [] (mk I L t) = if 2 ≤ x3 then Res d 205 157 [vr 12 i0, vi x1, vi x2, vi x3, vi x4, vi x5, vi x6, vi x7, vx] [] (mk (up3 I 100 i0 x7.toNat 0) L t) else Res d 205 123 [vr 12 i0, vi x1, vi x2, vi x3, vi x4, vi x5, vi x6, vi x7, vx] [] (mk (up3 I 100 i0 x7.toNat 0) L t) :=
  Eq.trans (e_aload_n D205_110 rfl rfl) <| Eq.trans (e_getP (p := (100, i0)) D205_111 rfl o_205 f_12_171 (sh_12 _) (by decide) (pp_12_79 _ _)) <| Eq.trans (e_iload D205_114 rfl rfl) <| Eq.trans (e_iconst (x := 0) D205_116 rfl rfl) <| Eq.trans (e_iast D205_117 rfl (al_100 _) rfl g1) <| Eq.trans (e_iload_n D205_118 rfl rfl) <| Eq.trans (e_iconst (x := 2) D205_119 rfl rfl) <| e_icge D205_120 rfl rfl
theorem b205_123 {d : Nat} {i0 : Nat} {x1 x2 x3 x4 x5 x6 x7 : Int} {I L : Nat → Nat → Nat → Int} {t : Nat → Nat} : Res (d + 1) 205 123 [vr 12 i0, vi x1, vi x2, vi x3, vi x4, vi x5, vi x6, vi x7, vx] [] (mk I L t) = (Cal d 193 [vr 12 i0, vi x3, vi x4, vi x5] (mk I L t)).bind fun v => Res (d + 1) 205 132 [vr 12 i0, vi x1, vi x2, vi x3, vi x4, vi x5, vi x6, vi x7, vx] (psh 193 v.1 []) v.2 :=
  Eq.trans (e_aload_n D205_123 rfl rfl) <| Eq.trans (e_iload_n D205_124 rfl rfl) <| Eq.trans (e_iload D205_125 rfl rfl) <| Eq.trans (e_iload D205_127 rfl rfl) <| e_callV D205_129 rfl o_205 m_12_478 (by decide) rfl rfl
theorem b205_132 {d : Nat} {i0 : Nat} {x1 x2 x3 x4 x5 x6 x7 : Int} {I L : Nat → Nat → Nat → Int} {t : Nat → Nat} : Res d 205 132 [vr 12 i0, vi x1, vi x2, vi x3, vi x4, vi x5, vi x6, vi x7, vx] [] (mk I L t) = if ¬ x6 = -1 then Res d 205 153 [vr 12 i0, vi x1, vi x2, vi x3, vi x4, vi x5, vi x6, vi x7, vx] [vr 78 i0, vi x7, vr 100 i0] (mk I L t) else Res d 205 148 [vr 12 i0, vi x1, vi x2, vi x3, vi x4, vi x5, vi x6, vi x7, vx] [vr 78 i0, vi x7, vr 100 i0] (mk I L t) :=
  Eq.trans (e_aload_n D205_132 rfl rfl) <| Eq.trans (e_getP (p := (100, i0)) D205_133 rfl o_205 f_12_171 (sh_12 _) (by decide) (pp_12_79 _ _)) <| Eq.trans (e_iload D205_136 rfl rfl) <| Eq.trans (e_aload_n D205_138 rfl rfl) <| Eq.trans (e_getP (p := (78, i0)) D205_139 rfl o_205 f_12_105 (sh_12 _) (by decide) (pp_12_56 _ _)) <| Eq.trans (e_iload D205_142 rfl rfl) <| Eq.trans (e_iconst (x := -1) D205_144 rfl rfl) <| e_icne D205_145 rfl rfl
theorem b205_148 {d : Nat} {i0 is2 is0 : Nat} {x1 x2 x3 x4 x5 x6 x7 xs1 : Int} {I L : Nat → Nat → Nat → Int} {t : Nat → Nat} : Res d 205 148 [vr 12 i0, vi x1, vi x2, vi x3, vi x4, vi x5, vi x6, vi x7, vx] [vr 78 is2, vi xs1, vr 100 is0] (mk I L t) = Res d 205 155 [vr 12 i0, vi x1, vi x2, vi x3, vi x4, vi x5, vi x6, vi x7, vx] [vi 9, vr 78 is2, vi xs1, vr 100 is0] (mk I L t) :=
  Eq.trans (e_bipush (x := 9) D205_148 rfl rfl) <| e_goto (q1 := 155) D205_150 rfl
theorem b205_153 {d : Nat} {i0 is2 is0 : Nat} {x1 x2 x3 x4 x5 x6 x7 xs1 : Int} {I L : Nat → Nat → Nat → Int} {t : Nat → Nat} : Res d 205 153 [vr 12 i0, vi x1, vi x2, vi x3, vi x4, vi x5, vi x6, vi x7, vx] [vr 78 is2, vi xs1, vr 100 is0] (mk I L t) = Res d 205 155 [vr 12 i0, vi x1, vi x2, vi x3, vi x4, vi x5, vi x6, vi x7, vx] [vi x6, vr 78 is2, vi xs1, vr 100 is0] (mk I L t) :=
  e_iload D205_153 rfl rfl
theorem b205_155 {d : Nat} {i0 is2 is0 : Nat} {x1 x2 x3 x4 x5 x6 x7 xs3 xs1 : Int} {I L : Nat → Nat → Nat → Int} {t : Nat → Nat} (g1 : 0 ≤ xs3 ∧ xs3 < 10) (g2 : 0 ≤ xs1 ∧ xs1 < 100) : Res d 205 155 [vr 12 i0, vi x1, vi x2, vi x3, vi x4, vi x5, vi x6, vi x7, vx] [vi xs3, vr 78 is2, vi xs1, vr 100 is0] (mk I L t) = Res d 205 157 [vr 12 i0, vi x1, vi x2, vi x3, vi x4, vi x5, vi x6, vi x7, vx] [] (mk (up3 I 100 is0 xs1.toNat (I 78 is2 xs3.toNat)) L t) :=
  Eq.trans (e_iald D205_155 rfl (al_78 _) g1) <| e_iast D205_156 rfl (al_100 _) rfl g2
theorem b205_157 {d : Nat} {i0 : Nat} {x1 x2 x3 x4 x5 x6 x7 : Int} {I L : Nat → Nat → Nat → Int} {t : Nat → Nat} : Res d 205 157 [vr 12 i0, vi x1, vi x2, vi x3, vi x4, vi x5, vi x6, vi x7, vx] [] (mk I L t) = if ¬ x6 = -1 then Res d 205 173 [vr 12 i0, vi x1, vi x2, vi x3, vi x4, vi x5, vi x6, vi x7, vx] [vi x7, vr 101 i0] (mk I L t) else Res d 205 169 [vr 12 i0, vi x1, vi x2, vi x3, vi x4, vi x5, vi x6, vi x7, vx] [vi x7, vr 101 i0] (mk I L t) :=
  Eq.trans (e_aload_n D205_157 rfl rfl) <| Eq.trans (e_getP (p := (101, i0)) D205_158 rfl o_205 f_12_174 (sh_12 _) (by decide) (pp_12_80 _ _)) <| Eq.trans (e_iload D205_161 rfl rfl) <| Eq.trans (e_iload D205_163 rfl rfl) <| Eq.trans (e_iconst (x := -1) D205_165 rfl rfl) <| e_icne D205_166 rfl rfl
theorem b205_169 {d : Nat} {i0 is0 : Nat} {x1 x2 x3 x4 x5 x6 x7 xs1 : Int} {I L : Nat → Nat → Nat → Int} {t : Nat → Nat} : Res d 205 169 [vr 12 i0, vi x1, vi x2, vi x3, vi x4, vi x5, vi x6, vi x7, vx] [vi xs1, vr 101 is0] (mk I L t) = Res d 205 179 [vr 12 i0, vi x1, vi x2, vi x3, vi x4, vi x5, vi x6, vi x7, vx] [vi (-1), vi xs1, vr 101 is0] (mk I L t) :=
  Eq.trans (e_iconst (x := -1) D205_169 rfl rfl) <| e_goto (q1 := 179) D205_170 rfl
theorem b205_173 {d : Nat} {i0 is0 : Nat} {x1 x2 x3 x4 x5 x6 x7 xs1 : Int} {I L : Nat → Nat → Nat → Int} {t : Nat → Nat} : Res (d + 1) 205 173 [vr 12 i0, vi x1, vi x2, vi x3, vi x4, vi x5, vi x6, vi x7, vx] [vi xs1, vr 101 is0] (mk I L t) = (Cal d 194 [vr 12 i0, vi x6] (mk I L t)).bind fun v => Res (d + 1) 205 179 [vr 12 i0, vi x1, vi x2, vi x3, vi x4, vi x5, vi x6, vi x7, vx] (psh 194 v.1 [vi xs1, vr 101 is0]) v.2 :=
  Eq.trans (e_aload_n D205_173 rfl rfl) <| Eq.trans (e_iload D205_174 rfl rfl) <| e_callV D205_176 rfl o_205 m_12_487 (by decide) rfl rfl
theorem b205_179 {d : Nat} {i0 is0 : Nat} {x1 x2 x3 x4 x5 x6 x7 xs2 xs1 : Int} {I L : Nat → Nat → Nat → Int} {t : Nat → Nat} (g1 : 0 ≤ xs1 ∧ xs1 < 100) (g2 : 0 ≤ x7 ∧ x7 < 100) : Res d 205 179 [vr 12 i0, vi x1, vi x2, vi x3, vi x4, vi x5, vi x6, vi x7, vx] [vi xs2, vi xs1, vr 101 is0] (mk I L t) = Res d 205 248 [vr 12 i0, vi x1, vi x2, vi x3, vi x4, vi x5, vi x6, vi x7, vi 0] [] (mk (up3 (up3 (up3 (up3 (up3 (up3 (up3 (up3 I 101 is0 xs1.toNat xs2) 94 i0 x7.toNat x1) 95 i0 x7.toNat x3) 96 i0 x7.toNat ((up3 (up3 (up3 I 101 is0 xs1.toNat xs2) 94 i0 x7.toNat x1) 95 i0 x7.toNat x3) 12 i0 0)) 97 i0 x7.toNat x6) 98 i0 x7.toNat x4) 99 i0 x7.toNat x5) 103 i0 x7.toNat ((up3 (up3 (up3 (up3 (up3 (up3 (up3 I 101 is0 xs1.toNat xs2) 94 i0 x7.toNat x1) 95 i0 x7.toNat x3) 96 i0 x7.toNat ((up3 (up3 (up3 I 101 is0 xs1.toNat xs2) 94 i0 x7.toNat x1) 95 i0 x7.toNat x3) 12 i0 0)) 97 i0 x7.toNat x6) 98 i0 x7.toNat x4) 99 i0 x7.toNat x5) 12 i0 12)) L t) :=
  Eq.trans (e_iast D205_179 rfl (al_101 _) rfl g1) <| Eq.trans (e_aload_n D205_180 rfl rfl) <| Eq.trans (e_getP (p := (94, i0)) D205_181 rfl o_205 f_12_153 (sh_12 _) (by decide) (pp_12_73 _ _)) <| Eq.trans (e_iload D205_184 rfl rfl) <| Eq.trans (e_iload_n D205_186 rfl rfl) <| Eq.trans (e_iast D205_187 rfl (al_94 _) rfl g2) <| Eq.trans (e_aload_n D205_188 rfl rfl) <| Eq.trans (e_getP (p := (95, i0)) D205_189 rfl o_205 f_12_156 (sh_12 _) (by decide) (pp_12_74 _ _)) <| Eq.trans (e_iload D205_192 rfl rfl) <| Eq.trans (e_iload_n D205_194 rfl rfl) <| Eq.trans (e_iast D205_195 rfl (al_95 _) rfl g2) <| Eq.trans (e_aload_n D205_196 rfl rfl) <| Eq.trans (e_getP (p := (96, i0)) D205_197 rfl o_205 f_12_159 (sh_12 _) (by decide) (pp_12_75 _ _)) <| Eq.trans (e_iload D205_200 rfl rfl) <| Eq.trans (e_aload_n D205_202 rfl rfl) <| Eq.trans (e_getI D205_203 rfl o_205 f_12_446 (sh_12 _) (by decide)) <| Eq.trans (e_iast D205_206 rfl (al_96 _) rfl g2) <| Eq.trans (e_aload_n D205_207 rfl rfl) <| Eq.trans (e_getP (p := (97, i0)) D205_208 rfl o_205 f_12_162 (sh_12 _) (by decide) (pp_12_76 _ _)) <| Eq.trans (e_iload D205_211 rfl rfl) <| Eq.trans (e_iload D205_213 rfl rfl) <| Eq.trans (e_iast D205_215 rfl (al_97 _) rfl g2) <| Eq.trans (e_aload_n D205_216 rfl rfl) <| Eq.trans (e_getP (p := (98, i0)) D205_217 rfl o_205 f_12_165 (sh_12 _) (by decide) (pp_12_77 _ _)) <| Eq.trans (e_iload D205_220 rfl rfl) <| Eq.trans (e_iload D205_222 rfl rfl) <| Eq.trans (e_iast D205_224 rfl (al_98 _) rfl g2) <| Eq.trans (e_aload_n D205_225 rfl rfl) <| Eq.trans (e_getP (p := (99, i0)) D205_226 rfl o_205 f_12_168 (sh_12 _) (by decide) (pp_12_78 _ _)) <| Eq.trans (e_iload D205_229 rfl rfl) <| Eq.trans (e_iload D205_231 rfl rfl) <| Eq.trans (e_iast D205_233 rfl (al_99 _) rfl g2) <| Eq.trans (e_aload_n D205_234 rfl rfl) <| Eq.trans (e_getP (p := (103, i0)) D205_235 rfl o_205 f_12_180 (sh_12 _) (by decide) (pp_12_82 _ _)) <| Eq.trans (e_iload D205_238 rfl rfl) <| Eq.trans (e_aload_n D205_240 rfl rfl) <| Eq.trans (e_getI D205_241 rfl o_205 f_12_236 (sh_12 _) (by decide)) <| Eq.trans (e_iast D205_244 rfl (al_103 _) rfl g2) <| Eq.trans (e_iconst (x := 0) D205_245 rfl rfl) <| e_istore (ls1 := [vr 12 i0, vi x1, vi x2, vi x3, vi x4, vi x5, vi x6, vi x7, vi 0]) D205_246 rfl (show 8 < 9 by decide) rfl
theorem b205_248 {d : Nat} {i0 : Nat} {x1 x2 x3 x4 x5 x6 x7 x8 : Int} {I L : Nat → Nat → Nat → Int} {t : Nat → Nat} : Res d 205 248 [vr 12 i0, vi x1, vi x2, vi x3, vi x4, vi x5, vi x6, vi x7, vi x8] [] (mk I L t) = if I 12 i0 12 ≤ x8 then Res d 205 283 [vr 12 i0, vi x1, vi x2, vi x3, vi x4, vi x5, vi x6, vi x7, vi x8] [] (mk I L t) else Res d 205 257 [vr 12 i0, vi x1, vi x2, vi x3, vi x4, vi x5, vi x6, vi x7, vi x8] [] (mk I L t) :=
  Eq.trans (e_iload D205_248 rfl rfl) <| Eq.trans (e_aload_n D205_250 rfl rfl) <| Eq.trans (e_getI D205_251 rfl o_205 f_12_236 (sh_12 _) (by decide)) <| e_icge D205_254 rfl rfl
theorem b205_257 {d : Nat} {i0 : Nat} {x1 x2 x3 x4 x5 x6 x7 x8 : Int} {I L : Nat → Nat → Nat → Int} {t : Nat → Nat} (g1 : 0 ≤ x8 ∧ x8 < 9) (g2 : 0 ≤ w32 ((w32 (9 * x7)) + x8) ∧ w32 ((w32 (9 * x7)) + x8) < 900) : Res d 205 257 [vr 12 i0, vi x1, vi x2, vi x3, vi x4, vi x5, vi x6, vi x7, vi x8] [] (mk I L t) = Res d 205 248 [vr 12 i0, vi x1, vi x2, vi x3, vi x4, vi x5, vi x6, vi x7, vi (w32 (x8 + 1))] [] (mk (up3 I 102 i0 (w32 ((w32 (9 * x7)) + x8)).toNat (I 54 i0 x8.toNat)) L t) :=
  Eq.trans (e_aload_n D205_257 rfl rfl) <| Eq.trans (e_getP (p := (102, i0)) D205_258 rfl o_205 f_12_177 (sh_12 _) (by decide) (pp_12_81 _ _)) <| Eq.trans (e_bipush (x := 9) D205_261 rfl rfl) <| Eq.trans (e_iload D205_263 rfl rfl) <| Eq.trans (e_imul D205_265 rfl) <| Eq.trans (e_iload D205_266 rfl rfl) <| Eq.trans (e_iadd D205_268 rfl) <| Eq.trans (e_aload_n D205_269 rfl rfl) <| Eq.trans (e_getP (p := (54, i0)) D205_270 rfl o_205 f_12_28 (sh_12 _) (by decide) (pp_12_11 _ _)) <| Eq.trans (e_iload D205_273 rfl rfl) <| Eq.trans (e_iald D205_275 rfl (al_54 _) g1) <| Eq.trans (e_iast D205_276 rfl (al_102 _) rfl g2) <| Eq.trans (e_iinc (ls1 := [vr 12 i0, vi x1, vi x2, vi x3, vi x4, vi x5, vi x6, vi x7, vi (w32 (x8 + 1))]) D205_277 rfl rfl rfl) <| e_goto (q1 := 248) D205_280 rfl
theorem b205_283 {d : Nat} {i0 : Nat} {x1 x2 x3 x4 x5 x6 x7 x8 : Int} {I L : Nat → Nat → Nat → Int} {t : Nat → Nat} : Res (d + 1) 205 283 [vr 12 i0, vi x1, vi x2, vi x3, vi x4, vi x5, vi x6, vi x7, vi x8] [] (mk I L t) = (Cal d 204 [vr 12 i0, vi x6] (mk I L t)).bind fun v => Res (d + 1) 205 289 [vr 12 i0, vi x1, vi x2, vi x3, vi x4, vi x5, vi x6, vi x7, vi x8] (psh 204 v.1 []) v.2 :=
  Eq.trans (e_aload_n D205_283 rfl rfl) <| Eq.trans (e_iload D205_284 rfl rfl) <| e_callV D205_286 rfl o_205 m_12_490 (by decide) rfl rfl
theorem b205_289 {d : Nat} {i0 : Nat} {x1 x2 x3 x4 x5 x6 x7 x8 : Int} {I L : Nat → Nat → Nat → Int} {t : Nat → Nat} : Res (d + 1) 205 289 [vr 12 i0, vi x1, vi x2, vi x3, vi x4, vi x5, vi x6, vi x7, vi x8] [] (mk I L t) = (Cal d 197 [vr 12 i0, vi x1] (mk I L t)).bind fun v => Res (d + 1) 205 294 [vr 12 i0, vi x1, vi x2, vi x3, vi x4, vi x5, vi x6, vi x7, vi x8] (psh 197 v.1 []) v.2 :=
  Eq.trans (e_aload_n D205_289 rfl rfl) <| Eq.trans (e_iload_n D205_290 rfl rfl) <| e_callV D205_291 rfl o_205 m_12_456 (by decide) rfl rfl
theorem b205_294 {d : Nat} {i0 : Nat} {x1 x2 x3 x4 x5 x6 x7 x8 : Int} {I L : Nat → Nat → Nat → Int} {t : Nat → Nat} : Res (d + 1) 205 294 [vr 12 i0, vi x1, vi x2, vi x3, vi x4, vi x5, vi x6, vi x7, vi x8] [] (mk I L t) = (Cal d 195 [vr 12 i0, vi 1, vi x1, vi x7] (mk I L t)).bind fun v => Res (d + 1) 205 302 [vr 12 i0, vi x1, vi x2, vi x3, vi x4, vi x5, vi x6, vi x7, vi x8] (psh 195 v.1 []) v.2 :=
  Eq.trans (e_aload_n D205_294 rfl rfl) <| Eq.trans (e_iconst (x := 1) D205_295 rfl rfl) <| Eq.trans (e_iload_n D205_296 rfl rfl) <| Eq.trans (e_iload D205_297 rfl rfl) <| e_callV D205_299 rfl o_205 m_12_465 (by decide) rfl rfl
theorem b205_302 {d : Nat} {i0 : Nat} {x1 x2 x3 x4 x5 x6 x7 x8 : Int} {I L : Nat → Nat → Nat → Int} {t : Nat → Nat} : Res d 205 302 [vr 12 i0, vi x1, vi x2, vi x3, vi x4, vi x5, vi x6, vi x7, vi x8] [] (mk I L t) = some (vi x7, (mk (up3 I 12 i0 3 (w32 ((I 12 i0 3) + 1))) L t)) :=
  Eq.trans (e_aload_n D205_302 rfl rfl) <| Eq.trans (e_dup D205_303 rfl) <| Eq.trans (e_getI D205_304 rfl o_205 f_12_484 (sh_12 _) (by decide)) <| Eq.trans (e_iconst (x := 1) D205_307 rfl rfl) <| Eq.trans (e_iadd D205_308 rfl) <| Eq.trans (e_putI D205_309 rfl o_205 f_12_484 (sh_12 _) rfl (by decide) (Or.inl (by decide))) <| Eq.trans (e_iload D205_312 rfl rfl) <| e_iret D205_314 rfl
/-! m_isShowing -/
theorem cc_206 : cod 206 = cX12_isShowing := rfl
theorem D206_0 : decode (cod 206) 0 = .ok (.iload_n 1, 1) := by rw [cc_206]; decide +kernel
theorem D206_1 : decode (cod 206) 1 = .ok (.iconst 0, 1) := by rw [cc_206]; decide +kernel
theorem D206_2 : decode (cod 206) 2 = .ok (.aload_n 0, 1) := by rw [cc_206]; decide +kernel
theorem D206_3 : decode (cod 206) 3 = .ok (.getfield 484, 3) := by rw [cc_206]; decide +kernel
theorem D206_6 : decode (cod 206) 6 = .ok (.iconst 1, 1) := by rw [cc_206]; decide +kernel
theorem D206_7 : decode (cod 206) 7 = .ok (.isub, 1) := by rw [cc_206]; decide +kernel
theorem D206_8 : decode (cod 206) 8 = .ok (.invokestatic 219, 3) := by rw [cc_206]; decide +kernel
theorem D206_11 : decode (cod 206) 11 = .ok (.ireturn, 1) := by rw [cc_206]; decide +kernel
theorem b206_0 {d : Nat} {i0 : Nat} {x1 : Int} {I L : Nat → Nat → Nat → Int} {t : Nat → Nat} : Res (d + 1) 206 0 [vr 12 i0, vi x1] [] (mk I L t) = (Cal d 146 [vi x1, vi 0, vi (w32 ((I 12 i0 3) - 1))] (mk I L t)).bind fun v => Res (d + 1) 206 11 [vr 12 i0, vi x1] (psh 146 v.1 []) v.2 :=
  Eq.trans (e_iload_n D206_0 rfl rfl) <| Eq.trans (e_iconst (x := 0) D206_1 rfl rfl) <| Eq.trans (e_aload_n D206_2 rfl rfl) <| Eq.trans (e_getI D206_3 rfl o_206 f_12_484 (sh_12 _) (by decide)) <| Eq.trans (e_iconst (x := 1) D206_6 rfl rfl) <| Eq.trans (e_isub D206_7 rfl) <| e_callS D206_8 rfl o_206 m_12_219 (by decide) rfl rfl
theorem b206_11 {d : Nat} {i0 : Nat} {x1 xs0 : Int} {I L : Nat → Nat → Nat → Int} {t : Nat → Nat} (g1 : xs0 = 0 ∨ xs0 = 1) : Res d 206 11 [vr 12 i0, vi x1] [vi xs0] (mk I L t) = some (vi xs0, (mk I L t)) :=
  e_iret D206_11 (nrz rfl g1)
/-! m_takesShown -/
theorem cc_207 : cod 207 = cX12_takesShown := rfl
theorem D207_0 : decode (cod 207) 0 = .ok (.aload_n 0, 1) := by rw [cc_207]; decide +kernel
theorem D207_1 : decode (cod 207) 1 = .ok (.aload_n 0, 1) := by rw [cc_207]; decide +kernel
theorem D207_2 : decode (cod 207) 2 = .ok (.getfield 180, 3) := by rw [cc_207]; decide +kernel
theorem D207_5 : decode (cod 207) 5 = .ok (.iload_n 1, 1) := by rw [cc_207]; decide +kernel
theorem D207_6 : decode (cod 207) 6 = .ok (.iaload, 1) := by rw [cc_207]; decide +kernel
theorem D207_7 : decode (cod 207) 7 = .ok (.putfield 236, 3) := by rw [cc_207]; decide +kernel
theorem D207_10 : decode (cod 207) 10 = .ok (.iconst 0, 1) := by rw [cc_207]; decide +kernel
theorem D207_11 : decode (cod 207) 11 = .ok (.istore_n 2, 1) := by rw [cc_207]; decide +kernel
theorem D207_12 : decode (cod 207) 12 = .ok (.iload_n 2, 1) := by rw [cc_207]; decide +kernel
theorem D207_13 : decode (cod 207) 13 = .ok (.aload_n 0, 1) := by rw [cc_207]; decide +kernel
theorem D207_14 : decode (cod 207) 14 = .ok (.getfield 236, 3) := by rw [cc_207]; decide +kernel
theorem D207_17 : decode (cod 207) 17 = .ok (.if_icmp .ge 26, 3) := by rw [cc_207]; decide +kernel
theorem D207_20 : decode (cod 207) 20 = .ok (.aload_n 0, 1) := by rw [cc_207]; decide +kernel
theorem D207_21 : decode (cod 207) 21 = .ok (.getfield 28, 3) := by rw [cc_207]; decide +kernel
theorem D207_24 : decode (cod 207) 24 = .ok (.iload_n 2, 1) := by rw [cc_207]; decide +kernel
theorem D207_25 : decode (cod 207) 25 = .ok (.aload_n 0, 1) := by rw [cc_207]; decide +kernel
theorem D207_26 : decode (cod 207) 26 = .ok (.getfield 177, 3) := by rw [cc_207]; decide +kernel
theorem D207_29 : decode (cod 207) 29 = .ok (.bipush 9, 2) := by rw [cc_207]; decide +kernel
theorem D207_31 : decode (cod 207) 31 = .ok (.iload_n 1, 1) := by rw [cc_207]; decide +kernel
theorem D207_32 : decode (cod 207) 32 = .ok (.imul, 1) := by rw [cc_207]; decide +kernel
theorem D207_33 : decode (cod 207) 33 = .ok (.iload_n 2, 1) := by rw [cc_207]; decide +kernel
theorem D207_34 : decode (cod 207) 34 = .ok (.iadd, 1) := by rw [cc_207]; decide +kernel
theorem D207_35 : decode (cod 207) 35 = .ok (.iaload, 1) := by rw [cc_207]; decide +kernel
theorem D207_36 : decode (cod 207) 36 = .ok (.iastore, 1) := by rw [cc_207]; decide +kernel
theorem D207_37 : decode (cod 207) 37 = .ok (.iinc 2 1, 3) := by rw [cc_207]; decide +kernel
theorem D207_40 : decode (cod 207) 40 = .ok (.goto (-28), 3) := by rw [cc_207]; decide +kernel
theorem D207_43 : decode (cod 207) 43 = .ok (.return_, 1) := by rw [cc_207]; decide +kernel
theorem b207_0 {d : Nat} {i0 : Nat} {x1 : Int} {I L : Nat → Nat → Nat → Int} {t : Nat → Nat} (g1 : 0 ≤ x1 ∧ x1 < 100) : Res d 207 0 [vr 12 i0, vi x1, vx] [] (mk I L t) = Res d 207 12 [vr 12 i0, vi x1, vi 0] [] (mk (up3 I 12 i0 12 (I 103 i0 x1.toNat)) L t) :=
  Eq.trans (e_aload_n D207_0 rfl rfl) <| Eq.trans (e_aload_n D207_1 rfl rfl) <| Eq.trans (e_getP (p := (103, i0)) D207_2 rfl o_207 f_12_180 (sh_12 _) (by decide) (pp_12_82 _ _)) <| Eq.trans (e_iload_n D207_5 rfl rfl) <| Eq.trans (e_iald D207_6 rfl (al_103 _) g1) <| Eq.trans (e_putI D207_7 rfl o_207 f_12_236 (sh_12 _) rfl (by decide) (Or.inl (by decide))) <| Eq.trans (e_iconst (x := 0) D207_10 rfl rfl) <| e_istore_n (ls1 := [vr 12 i0, vi x1, vi 0]) D207_11 rfl (show 2 < 3 by decide) rfl
theorem b207_12 {d : Nat} {i0 : Nat} {x1 x2 : Int} {I L : Nat → Nat → Nat → Int} {t : Nat → Nat} : Res d 207 12 [vr 12 i0, vi x1, vi x2] [] (mk I L t) = if I 12 i0 12 ≤ x2 then Res d 207 43 [vr 12 i0, vi x1, vi x2] [] (mk I L t) else Res d 207 20 [vr 12 i0, vi x1, vi x2] [] (mk I L t) :=
  Eq.trans (e_iload_n D207_12 rfl rfl) <| Eq.trans (e_aload_n D207_13 rfl rfl) <| Eq.trans (e_getI D207_14 rfl o_207 f_12_236 (sh_12 _) (by decide)) <| e_icge D207_17 rfl rfl
theorem b207_20 {d : Nat} {i0 : Nat} {x1 x2 : Int} {I L : Nat → Nat → Nat → Int} {t : Nat → Nat} (g1 : 0 ≤ w32 ((w32 (9 * x1)) + x2) ∧ w32 ((w32 (9 * x1)) + x2) < 900) (g2 : 0 ≤ x2 ∧ x2 < 9) : Res d 207 20 [vr 12 i0, vi x1, vi x2] [] (mk I L t) = Res d 207 12 [vr 12 i0, vi x1, vi (w32 (x2 + 1))] [] (mk (up3 I 54 i0 x2.toNat (I 102 i0 (w32 ((w32 (9 * x1)) + x2)).toNat)) L t) :=
  Eq.trans (e_aload_n D207_20 rfl rfl) <| Eq.trans (e_getP (p := (54, i0)) D207_21 rfl o_207 f_12_28 (sh_12 _) (by decide) (pp_12_11 _ _)) <| Eq.trans (e_iload_n D207_24 rfl rfl) <| Eq.trans (e_aload_n D207_25 rfl rfl) <| Eq.trans (e_getP (p := (102, i0)) D207_26 rfl o_207 f_12_177 (sh_12 _) (by decide) (pp_12_81 _ _)) <| Eq.trans (e_bipush (x := 9) D207_29 rfl rfl) <| Eq.trans (e_iload_n D207_31 rfl rfl) <| Eq.trans (e_imul D207_32 rfl) <| Eq.trans (e_iload_n D207_33 rfl rfl) <| Eq.trans (e_iadd D207_34 rfl) <| Eq.trans (e_iald D207_35 rfl (al_102 _) g1) <| Eq.trans (e_iast D207_36 rfl (al_54 _) rfl g2) <| Eq.trans (e_iinc (ls1 := [vr 12 i0, vi x1, vi (w32 (x2 + 1))]) D207_37 rfl rfl rfl) <| e_goto (q1 := 12) D207_40 rfl
theorem b207_43 {d : Nat} {i0 : Nat} {x1 x2 : Int} {I L : Nat → Nat → Nat → Int} {t : Nat → Nat} : Res d 207 43 [vr 12 i0, vi x1, vi x2] [] (mk I L t) = some (vx, (mk I L t)) :=
  e_vret D207_43 rfl
/-! m_showing -/
theorem cc_208 : cod 208 = cX12_showing := rfl
theorem D208_0 : decode (cod 208) 0 = .ok (.aload_n 0, 1) := by rw [cc_208]; decide +kernel
theorem D208_1 : decode (cod 208) 1 = .ok (.iload_n 1, 1) := by rw [cc_208]; decide +kernel
theorem D208_2 : decode (cod 208) 2 = .ok (.invokevirtual 493, 3) := by rw [cc_208]; decide +kernel
theorem D208_5 : decode (cod 208) 5 = .ok (.ifCond .ne 5, 3) := by rw [cc_208]; decide +kernel
theorem D208_8 : decode (cod 208) 8 = .ok (.iconst (-1), 1) := by rw [cc_208]; decide +kernel
theorem D208_9 : decode (cod 208) 9 = .ok (.ireturn, 1) := by rw [cc_208]; decide +kernel
theorem D208_10 : decode (cod 208) 10 = .ok (.iload_n 2, 1) := by rw [cc_208]; decide +kernel
theorem D208_11 : decode (cod 208) 11 = .ok (.tableswitch 79 0 5 #[37, 44, 51, 58, 65, 72], 37) := by rw [cc_208]; decide +kernel
theorem D208_48 : decode (cod 208) 48 = .ok (.aload_n 0, 1) := by rw [cc_208]; decide +kernel
theorem D208_49 : decode (cod 208) 49 = .ok (.getfield 153, 3) := by rw [cc_208]; decide +kernel
theorem D208_52 : decode (cod 208) 52 = .ok (.iload_n 1, 1) := by rw [cc_208]; decide +kernel
theorem D208_53 : decode (cod 208) 53 = .ok (.iaload, 1) := by rw [cc_208]; decide +kernel
theorem D208_54 : decode (cod 208) 54 = .ok (.ireturn, 1) := by rw [cc_208]; decide +kernel
theorem D208_55 : decode (cod 208) 55 = .ok (.aload_n 0, 1) := by rw [cc_208]; decide +kernel
theorem D208_56 : decode (cod 208) 56 = .ok (.getfield 156, 3) := by rw [cc_208]; decide +kernel
theorem D208_59 : decode (cod 208) 59 = .ok (.iload_n 1, 1) := by rw [cc_208]; decide +kernel
theorem D208_60 : decode (cod 208) 60 = .ok (.iaload, 1) := by rw [cc_208]; decide +kernel
theorem D208_61 : decode (cod 208) 61 = .ok (.ireturn, 1) := by rw [cc_208]; decide +kernel
theorem D208_62 : decode (cod 208) 62 = .ok (.aload_n 0, 1) := by rw [cc_208]; decide +kernel
theorem D208_63 : decode (cod 208) 63 = .ok (.getfield 159, 3) := by rw [cc_208]; decide +kernel
theorem D208_66 : decode (cod 208) 66 = .ok (.iload_n 1, 1) := by rw [cc_208]; decide +kernel
theorem D208_67 : decode (cod 208) 67 = .ok (.iaload, 1) := by rw [cc_208]; decide +kernel
theorem D208_68 : decode (cod 208) 68 = .ok (.ireturn, 1) := by rw [cc_208]; decide +kernel
theorem D208_69 : decode (cod 208) 69 = .ok (.aload_n 0, 1) := by rw [cc_208]; decide +kernel
theorem D208_70 : decode (cod 208) 70 = .ok (.getfield 162, 3) := by rw [cc_208]; decide +kernel
theorem D208_73 : decode (cod 208) 73 = .ok (.iload_n 1, 1) := by rw [cc_208]; decide +kernel
theorem D208_74 : decode (cod 208) 74 = .ok (.iaload, 1) := by rw [cc_208]; decide +kernel
theorem D208_75 : decode (cod 208) 75 = .ok (.ireturn, 1) := by rw [cc_208]; decide +kernel
theorem D208_76 : decode (cod 208) 76 = .ok (.aload_n 0, 1) := by rw [cc_208]; decide +kernel
theorem D208_77 : decode (cod 208) 77 = .ok (.getfield 171, 3) := by rw [cc_208]; decide +kernel
theorem D208_80 : decode (cod 208) 80 = .ok (.iload_n 1, 1) := by rw [cc_208]; decide +kernel
theorem D208_81 : decode (cod 208) 81 = .ok (.iaload, 1) := by rw [cc_208]; decide +kernel
theorem D208_82 : decode (cod 208) 82 = .ok (.ireturn, 1) := by rw [cc_208]; decide +kernel
theorem D208_83 : decode (cod 208) 83 = .ok (.aload_n 0, 1) := by rw [cc_208]; decide +kernel
theorem D208_84 : decode (cod 208) 84 = .ok (.getfield 174, 3) := by rw [cc_208]; decide +kernel
theorem D208_87 : decode (cod 208) 87 = .ok (.iload_n 1, 1) := by rw [cc_208]; decide +kernel
theorem D208_88 : decode (cod 208) 88 = .ok (.iaload, 1) := by rw [cc_208]; decide +kernel
theorem D208_89 : decode (cod 208) 89 = .ok (.ireturn, 1) := by rw [cc_208]; decide +kernel
theorem D208_90 : decode (cod 208) 90 = .ok (.iload_n 2, 1) := by rw [cc_208]; decide +kernel
theorem D208_91 : decode (cod 208) 91 = .ok (.bipush 10, 2) := by rw [cc_208]; decide +kernel
theorem D208_93 : decode (cod 208) 93 = .ok (.bipush 9, 2) := by rw [cc_208]; decide +kernel
theorem D208_95 : decode (cod 208) 95 = .ok (.aload_n 0, 1) := by rw [cc_208]; decide +kernel
theorem D208_96 : decode (cod 208) 96 = .ok (.getfield 180, 3) := by rw [cc_208]; decide +kernel
theorem D208_99 : decode (cod 208) 99 = .ok (.iload_n 1, 1) := by rw [cc_208]; decide +kernel
theorem D208_100 : decode (cod 208) 100 = .ok (.iaload, 1) := by rw [cc_208]; decide +kernel
theorem D208_101 : decode (cod 208) 101 = .ok (.iadd, 1) := by rw [cc_208]; decide +kernel
theorem D208_102 : decode (cod 208) 102 = .ok (.invokestatic 219, 3) := by rw [cc_208]; decide +kernel
theorem D208_105 : decode (cod 208) 105 = .ok (.ifCond .eq 20, 3) := by rw [cc_208]; decide +kernel
theorem D208_108 : decode (cod 208) 108 = .ok (.aload_n 0, 1) := by rw [cc_208]; decide +kernel
theorem D208_109 : decode (cod 208) 109 = .ok (.getfield 177, 3) := by rw [cc_208]; decide +kernel
theorem D208_112 : decode (cod 208) 112 = .ok (.bipush 9, 2) := by rw [cc_208]; decide +kernel
theorem D208_114 : decode (cod 208) 114 = .ok (.iload_n 1, 1) := by rw [cc_208]; decide +kernel
theorem D208_115 : decode (cod 208) 115 = .ok (.imul, 1) := by rw [cc_208]; decide +kernel
theorem D208_116 : decode (cod 208) 116 = .ok (.iload_n 2, 1) := by rw [cc_208]; decide +kernel
theorem D208_117 : decode (cod 208) 117 = .ok (.iadd, 1) := by rw [cc_208]; decide +kernel
theorem D208_118 : decode (cod 208) 118 = .ok (.bipush 10, 2) := by rw [cc_208]; decide +kernel
theorem D208_120 : decode (cod 208) 120 = .ok (.isub, 1) := by rw [cc_208]; decide +kernel
theorem D208_121 : decode (cod 208) 121 = .ok (.iaload, 1) := by rw [cc_208]; decide +kernel
theorem D208_122 : decode (cod 208) 122 = .ok (.goto 4, 3) := by rw [cc_208]; decide +kernel
theorem D208_125 : decode (cod 208) 125 = .ok (.iconst (-1), 1) := by rw [cc_208]; decide +kernel
theorem D208_126 : decode (cod 208) 126 = .ok (.ireturn, 1) := by rw [cc_208]; decide +kernel
theorem b208_0 {d : Nat} {i0 : Nat} {x1 x2 : Int} {I L : Nat → Nat → Nat → Int} {t : Nat → Nat} : Res (d + 1) 208 0 [vr 12 i0, vi x1, vi x2] [] (mk I L t) = (Cal d 206 [vr 12 i0, vi x1] (mk I L t)).bind fun v => Res (d + 1) 208 5 [vr 12 i0, vi x1, vi x2] (psh 206 v.1 []) v.2 :=
  Eq.trans (e_aload_n D208_0 rfl rfl) <| Eq.trans (e_iload_n D208_1 rfl rfl) <| e_callV D208_2 rfl o_208 m_12_493 (by decide) rfl rfl
theorem b208_5 {d : Nat} {i0 : Nat} {x1 x2 xs0 : Int} {I L : Nat → Nat → Nat → Int} {t : Nat → Nat} : Res d 208 5 [vr 12 i0, vi x1, vi x2] [vi xs0] (mk I L t) = if ¬ xs0 = 0 then Res d 208 10 [vr 12 i0, vi x1, vi x2] [] (mk I L t) else Res d 208 8 [vr 12 i0, vi x1, vi x2] [] (mk I L t) :=
  e_ifne D208_5 rfl rfl
theorem b208_8 {d : Nat} {i0 : Nat} {x1 x2 : Int} {I L : Nat → Nat → Nat → Int} {t : Nat → Nat} : Res d 208 8 [vr 12 i0, vi x1, vi x2] [] (mk I L t) = some (vi (-1), (mk I L t)) :=
  Eq.trans (e_iconst (x := -1) D208_8 rfl rfl) <| e_iret D208_9 rfl
theorem b208_10_d {d : Nat} {i0 : Nat} {x1 x2 : Int} {I L : Nat → Nat → Nat → Int} {t : Nat → Nat} (gx : x2 < 0 ∨ 5 < x2) : Res d 208 10 [vr 12 i0, vi x1, vi x2] [] (mk I L t) = Res d 208 90 [vr 12 i0, vi x1, vi x2] [] (mk I L t) :=
  Eq.trans (e_iload_n D208_10 rfl rfl) <| e_tswD (q1 := 90) D208_11 gx rfl
theorem b208_10_c0 {d : Nat} {i0 : Nat} {x1 x2 : Int} {I L : Nat → Nat → Nat → Int} {t : Nat → Nat} (gx : x2 = 0) : Res d 208 10 [vr 12 i0, vi x1, vi x2] [] (mk I L t) = Res d 208 48 [vr 12 i0, vi x1, vi x2] [] (mk I L t) :=
  Eq.trans (e_iload_n D208_10 rfl rfl) <| e_tswK (k := 0) (q1 := 48) D208_11 gx (by decide) rfl rfl
theorem b208_10_c1 {d : Nat} {i0 : Nat} {x1 x2 : Int} {I L : Nat → Nat → Nat → Int} {t : Nat → Nat} (gx : x2 = 1) : Res d 208 10 [vr 12 i0, vi x1, vi x2] [] (mk I L t) = Res d 208 55 [vr 12 i0, vi x1, vi x2] [] (mk I L t) :=
  Eq.trans (e_iload_n D208_10 rfl rfl) <| e_tswK (k := 1) (q1 := 55) D208_11 gx (by decide) rfl rfl
theorem b208_10_c2 {d : Nat} {i0 : Nat} {x1 x2 : Int} {I L : Nat → Nat → Nat → Int} {t : Nat → Nat} (gx : x2 = 2) : Res d 208 10 [vr 12 i0, vi x1, vi x2] [] (mk I L t) = Res d 208 62 [vr 12 i0, vi x1, vi x2] [] (mk I L t) :=
  Eq.trans (e_iload_n D208_10 rfl rfl) <| e_tswK (k := 2) (q1 := 62) D208_11 gx (by decide) rfl rfl
theorem b208_10_c3 {d : Nat} {i0 : Nat} {x1 x2 : Int} {I L : Nat → Nat → Nat → Int} {t : Nat → Nat} (gx : x2 = 3) : Res d 208 10 [vr 12 i0, vi x1, vi x2] [] (mk I L t) = Res d 208 69 [vr 12 i0, vi x1, vi x2] [] (mk I L t) :=
  Eq.trans (e_iload_n D208_10 rfl rfl) <| e_tswK (k := 3) (q1 := 69) D208_11 gx (by decide) rfl rfl
theorem b208_10_c4 {d : Nat} {i0 : Nat} {x1 x2 : Int} {I L : Nat → Nat → Nat → Int} {t : Nat → Nat} (gx : x2 = 4) : Res d 208 10 [vr 12 i0, vi x1, vi x2] [] (mk I L t) = Res d 208 76 [vr 12 i0, vi x1, vi x2] [] (mk I L t) :=
  Eq.trans (e_iload_n D208_10 rfl rfl) <| e_tswK (k := 4) (q1 := 76) D208_11 gx (by decide) rfl rfl
theorem b208_10_c5 {d : Nat} {i0 : Nat} {x1 x2 : Int} {I L : Nat → Nat → Nat → Int} {t : Nat → Nat} (gx : x2 = 5) : Res d 208 10 [vr 12 i0, vi x1, vi x2] [] (mk I L t) = Res d 208 83 [vr 12 i0, vi x1, vi x2] [] (mk I L t) :=
  Eq.trans (e_iload_n D208_10 rfl rfl) <| e_tswK (k := 5) (q1 := 83) D208_11 gx (by decide) rfl rfl
theorem b208_48 {d : Nat} {i0 : Nat} {x1 x2 : Int} {I L : Nat → Nat → Nat → Int} {t : Nat → Nat} (g1 : 0 ≤ x1 ∧ x1 < 100) : Res d 208 48 [vr 12 i0, vi x1, vi x2] [] (mk I L t) = some (vi (I 94 i0 x1.toNat), (mk I L t)) :=
  Eq.trans (e_aload_n D208_48 rfl rfl) <| Eq.trans (e_getP (p := (94, i0)) D208_49 rfl o_208 f_12_153 (sh_12 _) (by decide) (pp_12_73 _ _)) <| Eq.trans (e_iload_n D208_52 rfl rfl) <| Eq.trans (e_iald D208_53 rfl (al_94 _) g1) <| e_iret D208_54 rfl
theorem b208_55 {d : Nat} {i0 : Nat} {x1 x2 : Int} {I L : Nat → Nat → Nat → Int} {t : Nat → Nat} (g1 : 0 ≤ x1 ∧ x1 < 100) : Res d 208 55 [vr 12 i0, vi x1, vi x2] [] (mk I L t) = some (vi (I 95 i0 x1.toNat), (mk I L t)) :=
  Eq.trans (e_aload_n D208_55 rfl rfl) <| Eq.trans (e_getP (p := (95, i0)) D208_56 rfl o_208 f_12_156 (sh_12 _) (by decide) (pp_12_74 _ _)) <| Eq.trans (e_iload_n D208_59 rfl rfl) <| Eq.trans (e_iald D208_60 rfl (al_95 _) g1) <| e_iret D208_61 rfl
theorem b208_62 {d : Nat} {i0 : Nat} {x1 x2 : Int} {I L : Nat → Nat → Nat → Int} {t : Nat → Nat} (g1 : 0 ≤ x1 ∧ x1 < 100) : Res d 208 62 [vr 12 i0, vi x1, vi x2] [] (mk I L t) = some (vi (I 96 i0 x1.toNat), (mk I L t)) :=
  Eq.trans (e_aload_n D208_62 rfl rfl) <| Eq.trans (e_getP (p := (96, i0)) D208_63 rfl o_208 f_12_159 (sh_12 _) (by decide) (pp_12_75 _ _)) <| Eq.trans (e_iload_n D208_66 rfl rfl) <| Eq.trans (e_iald D208_67 rfl (al_96 _) g1) <| e_iret D208_68 rfl
theorem b208_69 {d : Nat} {i0 : Nat} {x1 x2 : Int} {I L : Nat → Nat → Nat → Int} {t : Nat → Nat} (g1 : 0 ≤ x1 ∧ x1 < 100) : Res d 208 69 [vr 12 i0, vi x1, vi x2] [] (mk I L t) = some (vi (I 97 i0 x1.toNat), (mk I L t)) :=
  Eq.trans (e_aload_n D208_69 rfl rfl) <| Eq.trans (e_getP (p := (97, i0)) D208_70 rfl o_208 f_12_162 (sh_12 _) (by decide) (pp_12_76 _ _)) <| Eq.trans (e_iload_n D208_73 rfl rfl) <| Eq.trans (e_iald D208_74 rfl (al_97 _) g1) <| e_iret D208_75 rfl
theorem b208_76 {d : Nat} {i0 : Nat} {x1 x2 : Int} {I L : Nat → Nat → Nat → Int} {t : Nat → Nat} (g1 : 0 ≤ x1 ∧ x1 < 100) : Res d 208 76 [vr 12 i0, vi x1, vi x2] [] (mk I L t) = some (vi (I 100 i0 x1.toNat), (mk I L t)) :=
  Eq.trans (e_aload_n D208_76 rfl rfl) <| Eq.trans (e_getP (p := (100, i0)) D208_77 rfl o_208 f_12_171 (sh_12 _) (by decide) (pp_12_79 _ _)) <| Eq.trans (e_iload_n D208_80 rfl rfl) <| Eq.trans (e_iald D208_81 rfl (al_100 _) g1) <| e_iret D208_82 rfl
theorem b208_83 {d : Nat} {i0 : Nat} {x1 x2 : Int} {I L : Nat → Nat → Nat → Int} {t : Nat → Nat} (g1 : 0 ≤ x1 ∧ x1 < 100) : Res d 208 83 [vr 12 i0, vi x1, vi x2] [] (mk I L t) = some (vi (I 101 i0 x1.toNat), (mk I L t)) :=
  Eq.trans (e_aload_n D208_83 rfl rfl) <| Eq.trans (e_getP (p := (101, i0)) D208_84 rfl o_208 f_12_174 (sh_12 _) (by decide) (pp_12_80 _ _)) <| Eq.trans (e_iload_n D208_87 rfl rfl) <| Eq.trans (e_iald D208_88 rfl (al_101 _) g1) <| e_iret D208_89 rfl
theorem b208_90 {d : Nat} {i0 : Nat} {x1 x2 : Int} {I L : Nat → Nat → Nat → Int} {t : Nat → Nat} (g1 : 0 ≤ x1 ∧ x1 < 100) : Res (d + 1) 208 90 [vr 12 i0, vi x1, vi x2] [] (mk I L t) = (Cal d 146 [vi x2, vi 10, vi (w32 (9 + (I 103 i0 x1.toNat)))] (mk I L t)).bind fun v => Res (d + 1) 208 105 [vr 12 i0, vi x1, vi x2] (psh 146 v.1 []) v.2 :=
  Eq.trans (e_iload_n D208_90 rfl rfl) <| Eq.trans (e_bipush (x := 10) D208_91 rfl rfl) <| Eq.trans (e_bipush (x := 9) D208_93 rfl rfl) <| Eq.trans (e_aload_n D208_95 rfl rfl) <| Eq.trans (e_getP (p := (103, i0)) D208_96 rfl o_208 f_12_180 (sh_12 _) (by decide) (pp_12_82 _ _)) <| Eq.trans (e_iload_n D208_99 rfl rfl) <| Eq.trans (e_iald D208_100 rfl (al_103 _) g1) <| Eq.trans (e_iadd D208_101 rfl) <| e_callS D208_102 rfl o_208 m_12_219 (by decide) rfl rfl
theorem b208_105 {d : Nat} {i0 : Nat} {x1 x2 xs0 : Int} {I L : Nat → Nat → Nat → Int} {t : Nat → Nat} : Res d 208 105 [vr 12 i0, vi x1, vi x2] [vi xs0] (mk I L t) = if xs0 = 0 then Res d 208 125 [vr 12 i0, vi x1, vi x2] [] (mk I L t) else Res d 208 108 [vr 12 i0, vi x1, vi x2] [] (mk I L t) :=
  e_ifeq D208_105 rfl rfl
theorem b208_108 {d : Nat} {i0 : Nat} {x1 x2 : Int} {I L : Nat → Nat → Nat → Int} {t : Nat → Nat} (g1 : 0 ≤ w32 ((w32 ((w32 (9 * x1)) + x2)) - 10) ∧ w32 ((w32 ((w32 (9 * x1)) + x2)) - 10) < 900) : Res d 208 108 [vr 12 i0, vi x1, vi x2] [] (mk I L t) = Res d 208 126 [vr 12 i0, vi x1, vi x2] [vi (I 102 i0 (w32 ((w32 ((w32 (9 * x1)) + x2)) - 10)).toNat)] (mk I L t) :=
  Eq.trans (e_aload_n D208_108 rfl rfl) <| Eq.trans (e_getP (p := (102, i0)) D208_109 rfl o_208 f_12_177 (sh_12 _) (by decide) (pp_12_81 _ _)) <| Eq.trans (e_bipush (x := 9) D208_112 rfl rfl) <| Eq.trans (e_iload_n D208_114 rfl rfl) <| Eq.trans (e_imul D208_115 rfl) <| Eq.trans (e_iload_n D208_116 rfl rfl) <| Eq.trans (e_iadd D208_117 rfl) <| Eq.trans (e_bipush (x := 10) D208_118 rfl rfl) <| Eq.trans (e_isub D208_120 rfl) <| Eq.trans (e_iald D208_121 rfl (al_102 _) g1) <| e_goto (q1 := 126) D208_122 rfl
theorem b208_125 {d : Nat} {i0 : Nat} {x1 x2 : Int} {I L : Nat → Nat → Nat → Int} {t : Nat → Nat} : Res d 208 125 [vr 12 i0, vi x1, vi x2] [] (mk I L t) = Res d 208 126 [vr 12 i0, vi x1, vi x2] [vi (-1)] (mk I L t) :=
  e_iconst (x := -1) D208_125 rfl rfl
theorem b208_126 {d : Nat} {i0 : Nat} {x1 x2 xs0 : Int} {I L : Nat → Nat → Nat → Int} {t : Nat → Nat} : Res d 208 126 [vr 12 i0, vi x1, vi x2] [vi xs0] (mk I L t) = some (vi xs0, (mk I L t)) :=
  e_iret D208_126 rfl
/-! m_praise -/
theorem cc_209 : cod 209 = cX12_praise := rfl
theorem D209_0 : decode (cod 209) 0 = .ok (.aload_n 0, 1) := by rw [cc_209]; decide +kernel
theorem D209_1 : decode (cod 209) 1 = .ok (.iload_n 1, 1) := by rw [cc_209]; decide +kernel
theorem D209_2 : decode (cod 209) 2 = .ok (.invokevirtual 469, 3) := by rw [cc_209]; decide +kernel
theorem D209_5 : decode (cod 209) 5 = .ok (.ifCond .ne 5, 3) := by rw [cc_209]; decide +kernel
theorem D209_8 : decode (cod 209) 8 = .ok (.iconst (-1), 1) := by rw [cc_209]; decide +kernel
theorem D209_9 : decode (cod 209) 9 = .ok (.ireturn, 1) := by rw [cc_209]; decide +kernel
theorem D209_10 : decode (cod 209) 10 = .ok (.aload_n 0, 1) := by rw [cc_209]; decide +kernel
theorem D209_11 : decode (cod 209) 11 = .ok (.getfield 132, 3) := by rw [cc_209]; decide +kernel
theorem D209_14 : decode (cod 209) 14 = .ok (.iload_n 1, 1) := by rw [cc_209]; decide +kernel
theorem D209_15 : decode (cod 209) 15 = .ok (.iaload, 1) := by rw [cc_209]; decide +kernel
theorem D209_16 : decode (cod 209) 16 = .ok (.bipush 9, 2) := by rw [cc_209]; decide +kernel
theorem D209_18 : decode (cod 209) 18 = .ok (.if_icmp .ge 13, 3) := by rw [cc_209]; decide +kernel
theorem D209_21 : decode (cod 209) 21 = .ok (.aload_n 0, 1) := by rw [cc_209]; decide +kernel
theorem D209_22 : decode (cod 209) 22 = .ok (.getfield 132, 3) := by rw [cc_209]; decide +kernel
theorem D209_25 : decode (cod 209) 25 = .ok (.iload_n 1, 1) := by rw [cc_209]; decide +kernel
theorem D209_26 : decode (cod 209) 26 = .ok (.dup2, 1) := by rw [cc_209]; decide +kernel
theorem D209_27 : decode (cod 209) 27 = .ok (.iaload, 1) := by rw [cc_209]; decide +kernel
theorem D209_28 : decode (cod 209) 28 = .ok (.iconst 1, 1) := by rw [cc_209]; decide +kernel
theorem D209_29 : decode (cod 209) 29 = .ok (.iadd, 1) := by rw [cc_209]; decide +kernel
theorem D209_30 : decode (cod 209) 30 = .ok (.iastore, 1) := by rw [cc_209]; decide +kernel
theorem D209_31 : decode (cod 209) 31 = .ok (.aload_n 0, 1) := by rw [cc_209]; decide +kernel
theorem D209_32 : decode (cod 209) 32 = .ok (.getfield 132, 3) := by rw [cc_209]; decide +kernel
theorem D209_35 : decode (cod 209) 35 = .ok (.iload_n 1, 1) := by rw [cc_209]; decide +kernel
theorem D209_36 : decode (cod 209) 36 = .ok (.iaload, 1) := by rw [cc_209]; decide +kernel
theorem D209_37 : decode (cod 209) 37 = .ok (.ireturn, 1) := by rw [cc_209]; decide +kernel
theorem b209_0 {d : Nat} {i0 : Nat} {x1 : Int} {I L : Nat → Nat → Nat → Int} {t : Nat → Nat} : Res (d + 1) 209 0 [vr 12 i0, vi x1] [] (mk I L t) = (Cal d 150 [vr 12 i0, vi x1] (mk I L t)).bind fun v => Res (d + 1) 209 5 [vr 12 i0, vi x1] (psh 150 v.1 []) v.2 :=
  Eq.trans (e_aload_n D209_0 rfl rfl) <| Eq.trans (e_iload_n D209_1 rfl rfl) <| e_callV D209_2 rfl o_209 m_12_469 (by decide) rfl rfl
theorem b209_5 {d : Nat} {i0 : Nat} {x1 xs0 : Int} {I L : Nat → Nat → Nat → Int} {t : Nat → Nat} : Res d 209 5 [vr 12 i0, vi x1] [vi xs0] (mk I L t) = if ¬ xs0 = 0 then Res d 209 10 [vr 12 i0, vi x1] [] (mk I L t) else Res d 209 8 [vr 12 i0, vi x1] [] (mk I L t) :=
  e_ifne D209_5 rfl rfl
theorem b209_8 {d : Nat} {i0 : Nat} {x1 : Int} {I L : Nat → Nat → Nat → Int} {t : Nat → Nat} : Res d 209 8 [vr 12 i0, vi x1] [] (mk I L t) = some (vi (-1), (mk I L t)) :=
  Eq.trans (e_iconst (x := -1) D209_8 rfl rfl) <| e_iret D209_9 rfl
theorem b209_10 {d : Nat} {i0 : Nat} {x1 : Int} {I L : Nat → Nat → Nat → Int} {t : Nat → Nat} (g1 : 0 ≤ x1 ∧ x1 < 20) : Res d 209 10 [vr 12 i0, vi x1] [] (mk I L t) = if 9 ≤ I 87 i0 x1.toNat then Res d 209 31 [vr 12 i0, vi x1] [] (mk I L t) else Res d 209 21 [vr 12 i0, vi x1] [] (mk I L t) :=
  Eq.trans (e_aload_n D209_10 rfl rfl) <| Eq.trans (e_getP (p := (87, i0)) D209_11 rfl o_209 f_12_132 (sh_12 _) (by decide) (pp_12_65 _ _)) <| Eq.trans (e_iload_n D209_14 rfl rfl) <| Eq.trans (e_iald D209_15 rfl (al_87 _) g1) <| Eq.trans (e_bipush (x := 9) D209_16 rfl rfl) <| e_icge D209_18 rfl rfl
theorem b209_21 {d : Nat} {i0 : Nat} {x1 : Int} {I L : Nat → Nat → Nat → Int} {t : Nat → Nat} (g1 : 0 ≤ x1 ∧ x1 < 20) : Res d 209 21 [vr 12 i0, vi x1] [] (mk I L t) = Res d 209 31 [vr 12 i0, vi x1] [] (mk (up3 I 87 i0 x1.toNat (w32 ((I 87 i0 x1.toNat) + 1))) L t) :=
  Eq.trans (e_aload_n D209_21 rfl rfl) <| Eq.trans (e_getP (p := (87, i0)) D209_22 rfl o_209 f_12_132 (sh_12 _) (by decide) (pp_12_65 _ _)) <| Eq.trans (e_iload_n D209_25 rfl rfl) <| Eq.trans (e_dup2 D209_26 rfl) <| Eq.trans (e_iald D209_27 rfl (al_87 _) g1) <| Eq.trans (e_iconst (x := 1) D209_28 rfl rfl) <| Eq.trans (e_iadd D209_29 rfl) <| e_iast D209_30 rfl (al_87 _) rfl g1
theorem b209_31 {d : Nat} {i0 : Nat} {x1 : Int} {I L : Nat → Nat → Nat → Int} {t : Nat → Nat} (g1 : 0 ≤ x1 ∧ x1 < 20) : Res d 209 31 [vr 12 i0, vi x1] [] (mk I L t) = some (vi (I 87 i0 x1.toNat), (mk I L t)) :=
  Eq.trans (e_aload_n D209_31 rfl rfl) <| Eq.trans (e_getP (p := (87, i0)) D209_32 rfl o_209 f_12_132 (sh_12 _) (by decide) (pp_12_65 _ _)) <| Eq.trans (e_iload_n D209_35 rfl rfl) <| Eq.trans (e_iald D209_36 rfl (al_87 _) g1) <| e_iret D209_37 rfl
/-! m_sure -/
theorem cc_210 : cod 210 = cX12_sure := rfl
theorem D210_0 : decode (cod 210) 0 = .ok (.aload_n 0, 1) := by rw [cc_210]; decide +kernel
theorem D210_1 : decode (cod 210) 1 = .ok (.iload_n 1, 1) := by rw [cc_210]; decide +kernel
theorem D210_2 : decode (cod 210) 2 = .ok (.invokevirtual 469, 3) := by rw [cc_210]; decide +kernel
theorem D210_5 : decode (cod 210) 5 = .ok (.ifCond .eq 10, 3) := by rw [cc_210]; decide +kernel
theorem D210_8 : decode (cod 210) 8 = .ok (.iload_n 2, 1) := by rw [cc_210]; decide +kernel
theorem D210_9 : decode (cod 210) 9 = .ok (.invokestatic 233, 3) := by rw [cc_210]; decide +kernel
theorem D210_12 : decode (cod 210) 12 = .ok (.ifCond .ne 5, 3) := by rw [cc_210]; decide +kernel
theorem D210_15 : decode (cod 210) 15 = .ok (.iconst (-1), 1) := by rw [cc_210]; decide +kernel
theorem D210_16 : decode (cod 210) 16 = .ok (.ireturn, 1) := by rw [cc_210]; decide +kernel
theorem D210_17 : decode (cod 210) 17 = .ok (.aload_n 0, 1) := by rw [cc_210]; decide +kernel
theorem D210_18 : decode (cod 210) 18 = .ok (.iload_n 2, 1) := by rw [cc_210]; decide +kernel
theorem D210_19 : decode (cod 210) 19 = .ok (.invokevirtual 472, 3) := by rw [cc_210]; decide +kernel
theorem D210_22 : decode (cod 210) 22 = .ok (.aload_n 0, 1) := by rw [cc_210]; decide +kernel
theorem D210_23 : decode (cod 210) 23 = .ok (.iload_n 3, 1) := by rw [cc_210]; decide +kernel
theorem D210_24 : decode (cod 210) 24 = .ok (.invokevirtual 475, 3) := by rw [cc_210]; decide +kernel
theorem D210_27 : decode (cod 210) 27 = .ok (.ifCond .eq 13, 3) := by rw [cc_210]; decide +kernel
theorem D210_30 : decode (cod 210) 30 = .ok (.aload_n 0, 1) := by rw [cc_210]; decide +kernel
theorem D210_31 : decode (cod 210) 31 = .ok (.getfield 28, 3) := by rw [cc_210]; decide +kernel
theorem D210_34 : decode (cod 210) 34 = .ok (.iload_n 3, 1) := by rw [cc_210]; decide +kernel
theorem D210_35 : decode (cod 210) 35 = .ok (.iaload, 1) := by rw [cc_210]; decide +kernel
theorem D210_36 : decode (cod 210) 36 = .ok (.iconst (-1), 1) := by rw [cc_210]; decide +kernel
theorem D210_37 : decode (cod 210) 37 = .ok (.if_icmp .ne 5, 3) := by rw [cc_210]; decide +kernel
theorem D210_40 : decode (cod 210) 40 = .ok (.iconst (-1), 1) := by rw [cc_210]; decide +kernel
theorem D210_41 : decode (cod 210) 41 = .ok (.ireturn, 1) := by rw [cc_210]; decide +kernel
theorem D210_42 : decode (cod 210) 42 = .ok (.aload_n 0, 1) := by rw [cc_210]; decide +kernel
theorem D210_43 : decode (cod 210) 43 = .ok (.iload_n 1, 1) := by rw [cc_210]; decide +kernel
theorem D210_44 : decode (cod 210) 44 = .ok (.invokevirtual 459, 3) := by rw [cc_210]; decide +kernel
theorem D210_47 : decode (cod 210) 47 = .ok (.aload_n 0, 1) := by rw [cc_210]; decide +kernel
theorem D210_48 : decode (cod 210) 48 = .ok (.iload_n 3, 1) := by rw [cc_210]; decide +kernel
theorem D210_49 : decode (cod 210) 49 = .ok (.invokevirtual 487, 3) := by rw [cc_210]; decide +kernel
theorem D210_52 : decode (cod 210) 52 = .ok (.ireturn, 1) := by rw [cc_210]; decide +kernel
theorem b210_0 {d : Nat} {i0 : Nat} {x1 x2 x3 : Int} {I L : Nat → Nat → Nat → Int} {t : Nat → Nat} : Res (d + 1) 210 0 [vr 12 i0, vi x1, vi x2, vi x3] [] (mk I L t) = (Cal d 150 [vr 12 i0, vi x1] (mk I L t)).bind fun v => Res (d + 1) 210 5 [vr 12 i0, vi x1, vi x2, vi x3] (psh 150 v.1 []) v.2 :=
  Eq.trans (e_aload_n D210_0 rfl rfl) <| Eq.trans (e_iload_n D210_1 rfl rfl) <| e_callV D210_2 rfl o_210 m_12_469 (by decide) rfl rfl
theorem b210_5 {d : Nat} {i0 : Nat} {x1 x2 x3 xs0 : Int} {I L : Nat → Nat → Nat → Int} {t : Nat → Nat} : Res d 210 5 [vr 12 i0, vi x1, vi x2, vi x3] [vi xs0] (mk I L t) = if xs0 = 0 then Res d 210 15 [vr 12 i0, vi x1, vi x2, vi x3] [] (mk I L t) else Res d 210 8 [vr 12 i0, vi x1, vi x2, vi x3] [] (mk I L t) :=
  e_ifeq D210_5 rfl rfl
theorem b210_8 {d : Nat} {i0 : Nat} {x1 x2 x3 : Int} {I L : Nat → Nat → Nat → Int} {t : Nat → Nat} : Res (d + 1) 210 8 [vr 12 i0, vi x1, vi x2, vi x3] [] (mk I L t) = (Cal d 148 [vi x2] (mk I L t)).bind fun v => Res (d + 1) 210 12 [vr 12 i0, vi x1, vi x2, vi x3] (psh 148 v.1 []) v.2 :=
  Eq.trans (e_iload_n D210_8 rfl rfl) <| e_callS D210_9 rfl o_210 m_12_233 (by decide) rfl rfl
theorem b210_12 {d : Nat} {i0 : Nat} {x1 x2 x3 xs0 : Int} {I L : Nat → Nat → Nat → Int} {t : Nat → Nat} : Res d 210 12 [vr 12 i0, vi x1, vi x2, vi x3] [vi xs0] (mk I L t) = if ¬ xs0 = 0 then Res d 210 17 [vr 12 i0, vi x1, vi x2, vi x3] [] (mk I L t) else Res d 210 15 [vr 12 i0, vi x1, vi x2, vi x3] [] (mk I L t) :=
  e_ifne D210_12 rfl rfl
theorem b210_15 {d : Nat} {i0 : Nat} {x1 x2 x3 : Int} {I L : Nat → Nat → Nat → Int} {t : Nat → Nat} : Res d 210 15 [vr 12 i0, vi x1, vi x2, vi x3] [] (mk I L t) = some (vi (-1), (mk I L t)) :=
  Eq.trans (e_iconst (x := -1) D210_15 rfl rfl) <| e_iret D210_16 rfl
theorem b210_17 {d : Nat} {i0 : Nat} {x1 x2 x3 : Int} {I L : Nat → Nat → Nat → Int} {t : Nat → Nat} : Res (d + 1) 210 17 [vr 12 i0, vi x1, vi x2, vi x3] [] (mk I L t) = (Cal d 156 [vr 12 i0, vi x2] (mk I L t)).bind fun v => Res (d + 1) 210 22 [vr 12 i0, vi x1, vi x2, vi x3] (psh 156 v.1 []) v.2 :=
  Eq.trans (e_aload_n D210_17 rfl rfl) <| Eq.trans (e_iload_n D210_18 rfl rfl) <| e_callV D210_19 rfl o_210 m_12_472 (by decide) rfl rfl
theorem b210_22 {d : Nat} {i0 : Nat} {x1 x2 x3 : Int} {I L : Nat → Nat → Nat → Int} {t : Nat → Nat} : Res (d + 1) 210 22 [vr 12 i0, vi x1, vi x2, vi x3] [] (mk I L t) = (Cal d 157 [vr 12 i0, vi x3] (mk I L t)).bind fun v => Res (d + 1) 210 27 [vr 12 i0, vi x1, vi x2, vi x3] (psh 157 v.1 []) v.2 :=
  Eq.trans (e_aload_n D210_22 rfl rfl) <| Eq.trans (e_iload_n D210_23 rfl rfl) <| e_callV D210_24 rfl o_210 m_12_475 (by decide) rfl rfl
theorem b210_27 {d : Nat} {i0 : Nat} {x1 x2 x3 xs0 : Int} {I L : Nat → Nat → Nat → Int} {t : Nat → Nat} : Res d 210 27 [vr 12 i0, vi x1, vi x2, vi x3] [vi xs0] (mk I L t) = if xs0 = 0 then Res d 210 40 [vr 12 i0, vi x1, vi x2, vi x3] [] (mk I L t) else Res d 210 30 [vr 12 i0, vi x1, vi x2, vi x3] [] (mk I L t) :=
  e_ifeq D210_27 rfl rfl
theorem b210_30 {d : Nat} {i0 : Nat} {x1 x2 x3 : Int} {I L : Nat → Nat → Nat → Int} {t : Nat → Nat} (g1 : 0 ≤ x3 ∧ x3 < 9) : Res d 210 30 [vr 12 i0, vi x1, vi x2, vi x3] [] (mk I L t) = if ¬ I 54 i0 x3.toNat = -1 then Res d 210 42 [vr 12 i0, vi x1, vi x2, vi x3] [] (mk I L t) else Res d 210 40 [vr 12 i0, vi x1, vi x2, vi x3] [] (mk I L t) :=
  Eq.trans (e_aload_n D210_30 rfl rfl) <| Eq.trans (e_getP (p := (54, i0)) D210_31 rfl o_210 f_12_28 (sh_12 _) (by decide) (pp_12_11 _ _)) <| Eq.trans (e_iload_n D210_34 rfl rfl) <| Eq.trans (e_iald D210_35 rfl (al_54 _) g1) <| Eq.trans (e_iconst (x := -1) D210_36 rfl rfl) <| e_icne D210_37 rfl rfl
theorem b210_40 {d : Nat} {i0 : Nat} {x1 x2 x3 : Int} {I L : Nat → Nat → Nat → Int} {t : Nat → Nat} : Res d 210 40 [vr 12 i0, vi x1, vi x2, vi x3] [] (mk I L t) = some (vi (-1), (mk I L t)) :=
  Eq.trans (e_iconst (x := -1) D210_40 rfl rfl) <| e_iret D210_41 rfl
theorem b210_42 {d : Nat} {i0 : Nat} {x1 x2 x3 : Int} {I L : Nat → Nat → Nat → Int} {t : Nat → Nat} : Res (d + 1) 210 42 [vr 12 i0, vi x1, vi x2, vi x3] [] (mk I L t) = (Cal d 196 [vr 12 i0, vi x1] (mk I L t)).bind fun v => Res (d + 1) 210 47 [vr 12 i0, vi x1, vi x2, vi x3] (psh 196 v.1 []) v.2 :=
  Eq.trans (e_aload_n D210_42 rfl rfl) <| Eq.trans (e_iload_n D210_43 rfl rfl) <| e_callV D210_44 rfl o_210 m_12_459 (by decide) rfl rfl
theorem b210_47 {d : Nat} {i0 : Nat} {x1 x2 x3 : Int} {I L : Nat → Nat → Nat → Int} {t : Nat → Nat} : Res (d + 1) 210 47 [vr 12 i0, vi x1, vi x2, vi x3] [] (mk I L t) = (Cal d 194 [vr 12 i0, vi x3] (mk I L t)).bind fun v => Res (d + 1) 210 52 [vr 12 i0, vi x1, vi x2, vi x3] (psh 194 v.1 []) v.2 :=
  Eq.trans (e_aload_n D210_47 rfl rfl) <| Eq.trans (e_iload_n D210_48 rfl rfl) <| e_callV D210_49 rfl o_210 m_12_487 (by decide) rfl rfl
theorem b210_52 {d : Nat} {i0 : Nat} {x1 x2 x3 xs0 : Int} {I L : Nat → Nat → Nat → Int} {t : Nat → Nat} : Res d 210 52 [vr 12 i0, vi x1, vi x2, vi x3] [vi xs0] (mk I L t) = some (vi xs0, (mk I L t)) :=
  e_iret D210_52 rfl
/-! m_differs -/
theorem cc_211 : cod 211 = cX12_differs := rfl
theorem D211_0 : decode (cod 211) 0 = .ok (.aload_n 0, 1) := by rw [cc_211]; decide +kernel
theorem D211_1 : decode (cod 211) 1 = .ok (.getfield 7, 3) := by rw [cc_211]; decide +kernel
theorem D211_4 : decode (cod 211) 4 = .ok (.bipush 16, 2) := by rw [cc_211]; decide +kernel
theorem D211_6 : decode (cod 211) 6 = .ok (.iload_n 1, 1) := by rw [cc_211]; decide +kernel
theorem D211_7 : decode (cod 211) 7 = .ok (.imul, 1) := by rw [cc_211]; decide +kernel
theorem D211_8 : decode (cod 211) 8 = .ok (.iload_n 2, 1) := by rw [cc_211]; decide +kernel
theorem D211_9 : decode (cod 211) 9 = .ok (.iadd, 1) := by rw [cc_211]; decide +kernel
theorem D211_10 : decode (cod 211) 10 = .ok (.iaload, 1) := by rw [cc_211]; decide +kernel
theorem D211_11 : decode (cod 211) 11 = .ok (.aload_n 0, 1) := by rw [cc_211]; decide +kernel
theorem D211_12 : decode (cod 211) 12 = .ok (.getfield 99, 3) := by rw [cc_211]; decide +kernel
theorem D211_15 : decode (cod 211) 15 = .ok (.iload_n 2, 1) := by rw [cc_211]; decide +kernel
theorem D211_16 : decode (cod 211) 16 = .ok (.iaload, 1) := by rw [cc_211]; decide +kernel
theorem D211_17 : decode (cod 211) 17 = .ok (.iload_n 3, 1) := by rw [cc_211]; decide +kernel
theorem D211_18 : decode (cod 211) 18 = .ok (.invokestatic 435, 3) := by rw [cc_211]; decide +kernel
theorem D211_21 : decode (cod 211) 21 = .ok (.invokestatic 422, 3) := by rw [cc_211]; decide +kernel
theorem D211_24 : decode (cod 211) 24 = .ok (.ireturn, 1) := by rw [cc_211]; decide +kernel
theorem b211_0 {d : Nat} {i0 : Nat} {x1 x2 x3 : Int} {I L : Nat → Nat → Nat → Int} {t : Nat → Nat} (g1 : 0 ≤ w32 ((w32 (16 * x1)) + x2) ∧ w32 ((w32 (16 * x1)) + x2) < 2112) (g2 : 0 ≤ x2 ∧ x2 < 16) : Res (d + 1) 211 0 [vr 12 i0, vi x1, vi x2, vi x3] [] (mk I L t) = (Cal d 189 [vi (I 76 i0 x2.toNat), vi x3] (mk I L t)).bind fun v => Res (d + 1) 211 21 [vr 12 i0, vi x1, vi x2, vi x3] (psh 189 v.1 [vi (I 48 i0 (w32 ((w32 (16 * x1)) + x2)).toNat)]) v.2 :=
  Eq.trans (e_aload_n D211_0 rfl rfl) <| Eq.trans (e_getP (p := (48, i0)) D211_1 rfl o_211 f_12_7 (sh_12 _) (by decide) (pp_12_5 _ _)) <| Eq.trans (e_bipush (x := 16) D211_4 rfl rfl) <| Eq.trans (e_iload_n D211_6 rfl rfl) <| Eq.trans (e_imul D211_7 rfl) <| Eq.trans (e_iload_n D211_8 rfl rfl) <| Eq.trans (e_iadd D211_9 rfl) <| Eq.trans (e_iald D211_10 rfl (al_48 _) g1) <| Eq.trans (e_aload_n D211_11 rfl rfl) <| Eq.trans (e_getP (p := (76, i0)) D211_12 rfl o_211 f_12_99 (sh_12 _) (by decide) (pp_12_52 _ _)) <| Eq.trans (e_iload_n D211_15 rfl rfl) <| Eq.trans (e_iald D211_16 rfl (al_76 _) g2) <| Eq.trans (e_iload_n D211_17 rfl rfl) <| e_callS D211_18 rfl o_211 m_12_435 (by decide) rfl rfl
theorem b211_21 {d : Nat} {i0 : Nat} {x1 x2 x3 xs1 xs0 : Int} {I L : Nat → Nat → Nat → Int} {t : Nat → Nat} : Res (d + 1) 211 21 [vr 12 i0, vi x1, vi x2, vi x3] [vi xs1, vi xs0] (mk I L t) = (Cal d 186 [vi xs0, vi xs1] (mk I L t)).bind fun v => Res (d + 1) 211 24 [vr 12 i0, vi x1, vi x2, vi x3] (psh 186 v.1 []) v.2 :=
  e_callS D211_21 rfl o_211 m_12_422 (by decide) rfl rfl
theorem b211_24 {d : Nat} {i0 : Nat} {x1 x2 x3 xs0 : Int} {I L : Nat → Nat → Nat → Int} {t : Nat → Nat} : Res d 211 24 [vr 12 i0, vi x1, vi x2, vi x3] [vi xs0] (mk I L t) = some (vi xs0, (mk I L t)) :=
  e_iret D211_24 rfl
/-! m_putTogether -/
theorem cc_212 : cod 212 = cX12_putTogether := rfl
theorem D212_0 : decode (cod 212) 0 = .ok (.aload_n 0, 1) := by rw [cc_212]; decide +kernel
theorem D212_1 : decode (cod 212) 1 = .ok (.invokevirtual 419, 3) := by rw [cc_212]; decide +kernel
theorem D212_4 : decode (cod 212) 4 = .ok (.aload_n 0, 1) := by rw [cc_212]; decide +kernel
theorem D212_5 : decode (cod 212) 5 = .ok (.bipush 7, 2) := by rw [cc_212]; decide +kernel
theorem D212_7 : decode (cod 212) 7 = .ok (.invokevirtual 432, 3) := by rw [cc_212]; decide +kernel
theorem D212_10 : decode (cod 212) 10 = .ok (.istore_n 1, 1) := by rw [cc_212]; decide +kernel
theorem D212_11 : decode (cod 212) 11 = .ok (.bipush 12, 2) := by rw [cc_212]; decide +kernel
theorem D212_13 : decode (cod 212) 13 = .ok (.istore_n 2, 1) := by rw [cc_212]; decide +kernel
theorem D212_14 : decode (cod 212) 14 = .ok (.iload_n 2, 1) := by rw [cc_212]; decide +kernel
theorem D212_15 : decode (cod 212) 15 = .ok (.bipush 16, 2) := by rw [cc_212]; decide +kernel
theorem D212_17 : decode (cod 212) 17 = .ok (.if_icmp .ge 16, 3) := by rw [cc_212]; decide +kernel
theorem D212_20 : decode (cod 212) 20 = .ok (.aload_n 0, 1) := by rw [cc_212]; decide +kernel
theorem D212_21 : decode (cod 212) 21 = .ok (.getfield 183, 3) := by rw [cc_212]; decide +kernel
theorem D212_24 : decode (cod 212) 24 = .ok (.iload_n 2, 1) := by rw [cc_212]; decide +kernel
theorem D212_25 : decode (cod 212) 25 = .ok (.iconst 0, 1) := by rw [cc_212]; decide +kernel
theorem D212_26 : decode (cod 212) 26 = .ok (.iastore, 1) := by rw [cc_212]; decide +kernel
theorem D212_27 : decode (cod 212) 27 = .ok (.iinc 2 1, 3) := by rw [cc_212]; decide +kernel
theorem D212_30 : decode (cod 212) 30 = .ok (.goto (-16), 3) := by rw [cc_212]; decide +kernel
theorem D212_33 : decode (cod 212) 33 = .ok (.iconst 0, 1) := by rw [cc_212]; decide +kernel
theorem D212_34 : decode (cod 212) 34 = .ok (.istore_n 2, 1) := by rw [cc_212]; decide +kernel
theorem D212_35 : decode (cod 212) 35 = .ok (.iload_n 2, 1) := by rw [cc_212]; decide +kernel
theorem D212_36 : decode (cod 212) 36 = .ok (.bipush 6, 2) := by rw [cc_212]; decide +kernel
theorem D212_38 : decode (cod 212) 38 = .ok (.if_icmp .ge 193, 3) := by rw [cc_212]; decide +kernel
theorem D212_41 : decode (cod 212) 41 = .ok (.iconst (-1), 1) := by rw [cc_212]; decide +kernel
theorem D212_42 : decode (cod 212) 42 = .ok (.istore_n 3, 1) := by rw [cc_212]; decide +kernel
theorem D212_43 : decode (cod 212) 43 = .ok (.iconst 0, 1) := by rw [cc_212]; decide +kernel
theorem D212_44 : decode (cod 212) 44 = .ok (.istore 4, 2) := by rw [cc_212]; decide +kernel
theorem D212_46 : decode (cod 212) 46 = .ok (.iconst 0, 1) := by rw [cc_212]; decide +kernel
theorem D212_47 : decode (cod 212) 47 = .ok (.istore 5, 2) := by rw [cc_212]; decide +kernel
theorem D212_49 : decode (cod 212) 49 = .ok (.iload 5, 2) := by rw [cc_212]; decide +kernel
theorem D212_51 : decode (cod 212) 51 = .ok (.aload_n 0, 1) := by rw [cc_212]; decide +kernel
theorem D212_52 : decode (cod 212) 52 = .ok (.getfield 236, 3) := by rw [cc_212]; decide +kernel
theorem D212_55 : decode (cod 212) 55 = .ok (.if_icmp .ge 85, 3) := by rw [cc_212]; decide +kernel
theorem D212_58 : decode (cod 212) 58 = .ok (.aload_n 0, 1) := by rw [cc_212]; decide +kernel
theorem D212_59 : decode (cod 212) 59 = .ok (.getfield 28, 3) := by rw [cc_212]; decide +kernel
theorem D212_62 : decode (cod 212) 62 = .ok (.iload 5, 2) := by rw [cc_212]; decide +kernel
theorem D212_64 : decode (cod 212) 64 = .ok (.iaload, 1) := by rw [cc_212]; decide +kernel
theorem D212_65 : decode (cod 212) 65 = .ok (.iconst (-1), 1) := by rw [cc_212]; decide +kernel
theorem D212_66 : decode (cod 212) 66 = .ok (.if_icmp .ne 6, 3) := by rw [cc_212]; decide +kernel
theorem D212_69 : decode (cod 212) 69 = .ok (.goto 65, 3) := by rw [cc_212]; decide +kernel
theorem D212_72 : decode (cod 212) 72 = .ok (.aload_n 0, 1) := by rw [cc_212]; decide +kernel
theorem D212_73 : decode (cod 212) 73 = .ok (.aload_n 0, 1) := by rw [cc_212]; decide +kernel
theorem D212_74 : decode (cod 212) 74 = .ok (.getfield 28, 3) := by rw [cc_212]; decide +kernel
theorem D212_77 : decode (cod 212) 77 = .ok (.iload 5, 2) := by rw [cc_212]; decide +kernel
theorem D212_79 : decode (cod 212) 79 = .ok (.iaload, 1) := by rw [cc_212]; decide +kernel
theorem D212_80 : decode (cod 212) 80 = .ok (.iconst 2, 1) := by rw [cc_212]; decide +kernel
theorem D212_81 : decode (cod 212) 81 = .ok (.iload_n 2, 1) := by rw [cc_212]; decide +kernel
theorem D212_82 : decode (cod 212) 82 = .ok (.imul, 1) := by rw [cc_212]; decide +kernel
theorem D212_83 : decode (cod 212) 83 = .ok (.iload_n 1, 1) := by rw [cc_212]; decide +kernel
theorem D212_84 : decode (cod 212) 84 = .ok (.invokevirtual 496, 3) := by rw [cc_212]; decide +kernel
theorem D212_87 : decode (cod 212) 87 = .ok (.aload_n 0, 1) := by rw [cc_212]; decide +kernel
theorem D212_88 : decode (cod 212) 88 = .ok (.aload_n 0, 1) := by rw [cc_212]; decide +kernel
theorem D212_89 : decode (cod 212) 89 = .ok (.getfield 28, 3) := by rw [cc_212]; decide +kernel
theorem D212_92 : decode (cod 212) 92 = .ok (.iload 5, 2) := by rw [cc_212]; decide +kernel
theorem D212_94 : decode (cod 212) 94 = .ok (.iaload, 1) := by rw [cc_212]; decide +kernel
theorem D212_95 : decode (cod 212) 95 = .ok (.iconst 2, 1) := by rw [cc_212]; decide +kernel
theorem D212_96 : decode (cod 212) 96 = .ok (.iload_n 2, 1) := by rw [cc_212]; decide +kernel
theorem D212_97 : decode (cod 212) 97 = .ok (.imul, 1) := by rw [cc_212]; decide +kernel
theorem D212_98 : decode (cod 212) 98 = .ok (.iconst 1, 1) := by rw [cc_212]; decide +kernel
theorem D212_99 : decode (cod 212) 99 = .ok (.iadd, 1) := by rw [cc_212]; decide +kernel
theorem D212_100 : decode (cod 212) 100 = .ok (.iload_n 1, 1) := by rw [cc_212]; decide +kernel
theorem D212_101 : decode (cod 212) 101 = .ok (.invokevirtual 496, 3) := by rw [cc_212]; decide +kernel
theorem D212_104 : decode (cod 212) 104 = .ok (.iadd, 1) := by rw [cc_212]; decide +kernel
theorem D212_105 : decode (cod 212) 105 = .ok (.istore 6, 2) := by rw [cc_212]; decide +kernel
theorem D212_107 : decode (cod 212) 107 = .ok (.iload_n 3, 1) := by rw [cc_212]; decide +kernel
theorem D212_108 : decode (cod 212) 108 = .ok (.iconst (-1), 1) := by rw [cc_212]; decide +kernel
theorem D212_109 : decode (cod 212) 109 = .ok (.if_icmp .eq 13, 3) := by rw [cc_212]; decide +kernel
theorem D212_112 : decode (cod 212) 112 = .ok (.iload 6, 2) := by rw [cc_212]; decide +kernel
theorem D212_114 : decode (cod 212) 114 = .ok (.iload 4, 2) := by rw [cc_212]; decide +kernel
theorem D212_116 : decode (cod 212) 116 = .ok (.if_icmp .lt 6, 3) := by rw [cc_212]; decide +kernel
theorem D212_119 : decode (cod 212) 119 = .ok (.goto 15, 3) := by rw [cc_212]; decide +kernel
theorem D212_122 : decode (cod 212) 122 = .ok (.aload_n 0, 1) := by rw [cc_212]; decide +kernel
theorem D212_123 : decode (cod 212) 123 = .ok (.getfield 28, 3) := by rw [cc_212]; decide +kernel
theorem D212_126 : decode (cod 212) 126 = .ok (.iload 5, 2) := by rw [cc_212]; decide +kernel
theorem D212_128 : decode (cod 212) 128 = .ok (.iaload, 1) := by rw [cc_212]; decide +kernel
theorem D212_129 : decode (cod 212) 129 = .ok (.istore_n 3, 1) := by rw [cc_212]; decide +kernel
theorem D212_130 : decode (cod 212) 130 = .ok (.iload 6, 2) := by rw [cc_212]; decide +kernel
theorem D212_132 : decode (cod 212) 132 = .ok (.istore 4, 2) := by rw [cc_212]; decide +kernel
theorem D212_134 : decode (cod 212) 134 = .ok (.iinc 5 1, 3) := by rw [cc_212]; decide +kernel
theorem D212_137 : decode (cod 212) 137 = .ok (.goto (-88), 3) := by rw [cc_212]; decide +kernel
theorem D212_140 : decode (cod 212) 140 = .ok (.aload_n 0, 1) := by rw [cc_212]; decide +kernel
theorem D212_141 : decode (cod 212) 141 = .ok (.getfield 183, 3) := by rw [cc_212]; decide +kernel
theorem D212_144 : decode (cod 212) 144 = .ok (.iconst 2, 1) := by rw [cc_212]; decide +kernel
theorem D212_145 : decode (cod 212) 145 = .ok (.iload_n 2, 1) := by rw [cc_212]; decide +kernel
theorem D212_146 : decode (cod 212) 146 = .ok (.imul, 1) := by rw [cc_212]; decide +kernel
theorem D212_147 : decode (cod 212) 147 = .ok (.aload_n 0, 1) := by rw [cc_212]; decide +kernel
theorem D212_148 : decode (cod 212) 148 = .ok (.getfield 7, 3) := by rw [cc_212]; decide +kernel
theorem D212_151 : decode (cod 212) 151 = .ok (.bipush 16, 2) := by rw [cc_212]; decide +kernel
theorem D212_153 : decode (cod 212) 153 = .ok (.iload_n 3, 1) := by rw [cc_212]; decide +kernel
theorem D212_154 : decode (cod 212) 154 = .ok (.imul, 1) := by rw [cc_212]; decide +kernel
theorem D212_155 : decode (cod 212) 155 = .ok (.iconst 2, 1) := by rw [cc_212]; decide +kernel
theorem D212_156 : decode (cod 212) 156 = .ok (.iload_n 2, 1) := by rw [cc_212]; decide +kernel
theorem D212_157 : decode (cod 212) 157 = .ok (.imul, 1) := by rw [cc_212]; decide +kernel
theorem D212_158 : decode (cod 212) 158 = .ok (.iadd, 1) := by rw [cc_212]; decide +kernel
theorem D212_159 : decode (cod 212) 159 = .ok (.iaload, 1) := by rw [cc_212]; decide +kernel
theorem D212_160 : decode (cod 212) 160 = .ok (.iastore, 1) := by rw [cc_212]; decide +kernel
theorem D212_161 : decode (cod 212) 161 = .ok (.aload_n 0, 1) := by rw [cc_212]; decide +kernel
theorem D212_162 : decode (cod 212) 162 = .ok (.getfield 183, 3) := by rw [cc_212]; decide +kernel
theorem D212_165 : decode (cod 212) 165 = .ok (.iconst 2, 1) := by rw [cc_212]; decide +kernel
theorem D212_166 : decode (cod 212) 166 = .ok (.iload_n 2, 1) := by rw [cc_212]; decide +kernel
theorem D212_167 : decode (cod 212) 167 = .ok (.imul, 1) := by rw [cc_212]; decide +kernel
theorem D212_168 : decode (cod 212) 168 = .ok (.iconst 1, 1) := by rw [cc_212]; decide +kernel
theorem D212_169 : decode (cod 212) 169 = .ok (.iadd, 1) := by rw [cc_212]; decide +kernel
theorem D212_170 : decode (cod 212) 170 = .ok (.aload_n 0, 1) := by rw [cc_212]; decide +kernel
theorem D212_171 : decode (cod 212) 171 = .ok (.getfield 7, 3) := by rw [cc_212]; decide +kernel
theorem D212_174 : decode (cod 212) 174 = .ok (.bipush 16, 2) := by rw [cc_212]; decide +kernel
theorem D212_176 : decode (cod 212) 176 = .ok (.iload_n 3, 1) := by rw [cc_212]; decide +kernel
theorem D212_177 : decode (cod 212) 177 = .ok (.imul, 1) := by rw [cc_212]; decide +kernel
theorem D212_178 : decode (cod 212) 178 = .ok (.iconst 2, 1) := by rw [cc_212]; decide +kernel
theorem D212_179 : decode (cod 212) 179 = .ok (.iload_n 2, 1) := by rw [cc_212]; decide +kernel
theorem D212_180 : decode (cod 212) 180 = .ok (.imul, 1) := by rw [cc_212]; decide +kernel
theorem D212_181 : decode (cod 212) 181 = .ok (.iadd, 1) := by rw [cc_212]; decide +kernel
theorem D212_182 : decode (cod 212) 182 = .ok (.iconst 1, 1) := by rw [cc_212]; decide +kernel
theorem D212_183 : decode (cod 212) 183 = .ok (.iadd, 1) := by rw [cc_212]; decide +kernel
theorem D212_184 : decode (cod 212) 184 = .ok (.iaload, 1) := by rw [cc_212]; decide +kernel
theorem D212_185 : decode (cod 212) 185 = .ok (.iastore, 1) := by rw [cc_212]; decide +kernel
theorem D212_186 : decode (cod 212) 186 = .ok (.bipush 12, 2) := by rw [cc_212]; decide +kernel
theorem D212_188 : decode (cod 212) 188 = .ok (.istore 5, 2) := by rw [cc_212]; decide +kernel
theorem D212_190 : decode (cod 212) 190 = .ok (.iload 5, 2) := by rw [cc_212]; decide +kernel
theorem D212_192 : decode (cod 212) 192 = .ok (.bipush 16, 2) := by rw [cc_212]; decide +kernel
theorem D212_194 : decode (cod 212) 194 = .ok (.if_icmp .ge 31, 3) := by rw [cc_212]; decide +kernel
theorem D212_197 : decode (cod 212) 197 = .ok (.aload_n 0, 1) := by rw [cc_212]; decide +kernel
theorem D212_198 : decode (cod 212) 198 = .ok (.getfield 183, 3) := by rw [cc_212]; decide +kernel
theorem D212_201 : decode (cod 212) 201 = .ok (.iload 5, 2) := by rw [cc_212]; decide +kernel
theorem D212_203 : decode (cod 212) 203 = .ok (.dup2, 1) := by rw [cc_212]; decide +kernel
theorem D212_204 : decode (cod 212) 204 = .ok (.iaload, 1) := by rw [cc_212]; decide +kernel
theorem D212_205 : decode (cod 212) 205 = .ok (.aload_n 0, 1) := by rw [cc_212]; decide +kernel
theorem D212_206 : decode (cod 212) 206 = .ok (.getfield 7, 3) := by rw [cc_212]; decide +kernel
theorem D212_209 : decode (cod 212) 209 = .ok (.bipush 16, 2) := by rw [cc_212]; decide +kernel
theorem D212_211 : decode (cod 212) 211 = .ok (.iload_n 3, 1) := by rw [cc_212]; decide +kernel
theorem D212_212 : decode (cod 212) 212 = .ok (.imul, 1) := by rw [cc_212]; decide +kernel
theorem D212_213 : decode (cod 212) 213 = .ok (.iload 5, 2) := by rw [cc_212]; decide +kernel
theorem D212_215 : decode (cod 212) 215 = .ok (.iadd, 1) := by rw [cc_212]; decide +kernel
theorem D212_216 : decode (cod 212) 216 = .ok (.iaload, 1) := by rw [cc_212]; decide +kernel
theorem D212_217 : decode (cod 212) 217 = .ok (.iadd, 1) := by rw [cc_212]; decide +kernel
theorem D212_218 : decode (cod 212) 218 = .ok (.iastore, 1) := by rw [cc_212]; decide +kernel
theorem D212_219 : decode (cod 212) 219 = .ok (.iinc 5 1, 3) := by rw [cc_212]; decide +kernel
theorem D212_222 : decode (cod 212) 222 = .ok (.goto (-32), 3) := by rw [cc_212]; decide +kernel
theorem D212_225 : decode (cod 212) 225 = .ok (.iinc 2 1, 3) := by rw [cc_212]; decide +kernel
theorem D212_228 : decode (cod 212) 228 = .ok (.goto (-193), 3) := by rw [cc_212]; decide +kernel
theorem D212_231 : decode (cod 212) 231 = .ok (.bipush 12, 2) := by rw [cc_212]; decide +kernel
theorem D212_233 : decode (cod 212) 233 = .ok (.istore_n 2, 1) := by rw [cc_212]; decide +kernel
theorem D212_234 : decode (cod 212) 234 = .ok (.iload_n 2, 1) := by rw [cc_212]; decide +kernel
theorem D212_235 : decode (cod 212) 235 = .ok (.bipush 16, 2) := by rw [cc_212]; decide +kernel
theorem D212_237 : decode (cod 212) 237 = .ok (.if_icmp .ge 20, 3) := by rw [cc_212]; decide +kernel
theorem D212_240 : decode (cod 212) 240 = .ok (.aload_n 0, 1) := by rw [cc_212]; decide +kernel
theorem D212_241 : decode (cod 212) 241 = .ok (.getfield 183, 3) := by rw [cc_212]; decide +kernel
theorem D212_244 : decode (cod 212) 244 = .ok (.iload_n 2, 1) := by rw [cc_212]; decide +kernel
theorem D212_245 : decode (cod 212) 245 = .ok (.dup2, 1) := by rw [cc_212]; decide +kernel
theorem D212_246 : decode (cod 212) 246 = .ok (.iaload, 1) := by rw [cc_212]; decide +kernel
theorem D212_247 : decode (cod 212) 247 = .ok (.bipush 6, 2) := by rw [cc_212]; decide +kernel
theorem D212_249 : decode (cod 212) 249 = .ok (.idiv, 1) := by rw [cc_212]; decide +kernel
theorem D212_250 : decode (cod 212) 250 = .ok (.iastore, 1) := by rw [cc_212]; decide +kernel
theorem D212_251 : decode (cod 212) 251 = .ok (.iinc 2 1, 3) := by rw [cc_212]; decide +kernel
theorem D212_254 : decode (cod 212) 254 = .ok (.goto (-20), 3) := by rw [cc_212]; decide +kernel
theorem D212_257 : decode (cod 212) 257 = .ok (.return_, 1) := by rw [cc_212]; decide +kernel
theorem b212_0 {d : Nat} {i0 : Nat} {I L : Nat → Nat → Nat → Int} {t : Nat → Nat} : Res (d + 1) 212 0 [vr 12 i0, vx, vx, vx, vx, vx, vx] [] (mk I L t) = (Cal d 185 [vr 12 i0] (mk I L t)).bind fun v => Res (d + 1) 212 4 [vr 12 i0, vx, vx, vx, vx, vx, vx] (psh 185 v.1 []) v.2 :=
  Eq.trans (e_aload_n D212_0 rfl rfl) <| e_callV D212_1 rfl o_212 m_12_419 (by decide) rfl rfl
theorem b212_4 {d : Nat} {i0 : Nat} {I L : Nat → Nat → Nat → Int} {t : Nat → Nat} : Res (d + 1) 212 4 [vr 12 i0, vx, vx, vx, vx, vx, vx] [] (mk I L t) = (Cal d 184 [vr 12 i0, vi 7] (mk I L t)).bind fun v => Res (d + 1) 212 10 [vr 12 i0, vx, vx, vx, vx, vx, vx] (psh 184 v.1 []) v.2 :=
  Eq.trans (e_aload_n D212_4 rfl rfl) <| Eq.trans (e_bipush (x := 7) D212_5 rfl rfl) <| e_callV D212_7 rfl o_212 m_12_432 (by decide) rfl rfl
theorem b212_10 {d : Nat} {i0 : Nat} {xs0 : Int} {I L : Nat → Nat → Nat → Int} {t : Nat → Nat} : Res d 212 10 [vr 12 i0, vx, vx, vx, vx, vx, vx] [vi xs0] (mk I L t) = Res d 212 14 [vr 12 i0, vi xs0, vi 12, vx, vx, vx, vx] [] (mk I L t) :=
  Eq.trans (e_istore_n (ls1 := [vr 12 i0, vi xs0, vx, vx, vx, vx, vx]) D212_10 rfl (show 1 < 7 by decide) rfl) <| Eq.trans (e_bipush (x := 12) D212_11 rfl rfl) <| e_istore_n (ls1 := [vr 12 i0, vi xs0, vi 12, vx, vx, vx, vx]) D212_13 rfl (show 2 < 7 by decide) rfl
theorem b212_14 {d : Nat} {i0 : Nat} {x1 x2 : Int} {I L : Nat → Nat → Nat → Int} {t : Nat → Nat} : Res d 212 14 [vr 12 i0, vi x1, vi x2, vx, vx, vx, vx] [] (mk I L t) = if 16 ≤ x2 then Res d 212 33 [vr 12 i0, vi x1, vi x2, vx, vx, vx, vx] [] (mk I L t) else Res d 212 20 [vr 12 i0, vi x1, vi x2, vx, vx, vx, vx] [] (mk I L t) :=
  Eq.trans (e_iload_n D212_14 rfl rfl) <| Eq.trans (e_bipush (x := 16) D212_15 rfl rfl) <| e_icge D212_17 rfl rfl
theorem b212_20 {d : Nat} {i0 : Nat} {x1 x2 : Int} {I L : Nat → Nat → Nat → Int} {t : Nat → Nat} (g1 : 0 ≤ x2 ∧ x2 < 16) : Res d 212 20 [vr 12 i0, vi x1, vi x2, vx, vx, vx, vx] [] (mk I L t) = Res d 212 14 [vr 12 i0, vi x1, vi (w32 (x2 + 1)), vx, vx, vx, vx] [] (mk (up3 I 104 i0 x2.toNat 0) L t) :=
  Eq.trans (e_aload_n D212_20 rfl rfl) <| Eq.trans (e_getP (p := (104, i0)) D212_21 rfl o_212 f_12_183 (sh_12 _) (by decide) (pp_12_83 _ _)) <| Eq.trans (e_iload_n D212_24 rfl rfl) <| Eq.trans (e_iconst (x := 0) D212_25 rfl rfl) <| Eq.trans (e_iast D212_26 rfl (al_104 _) rfl g1) <| Eq.trans (e_iinc (ls1 := [vr 12 i0, vi x1, vi (w32 (x2 + 1)), vx, vx, vx, vx]) D212_27 rfl rfl rfl) <| e_goto (q1 := 14) D212_30 rfl
theorem b212_33 {d : Nat} {i0 : Nat} {x1 x2 : Int} {I L : Nat → Nat → Nat → Int} {t : Nat → Nat} : Res d 212 33 [vr 12 i0, vi x1, vi x2, vx, vx, vx, vx] [] (mk I L t) = Res d 212 35 [vr 12 i0, vi x1, vi 0, vx, vx, vx, vx] [] (mk I L t) :=
  Eq.trans (e_iconst (x := 0) D212_33 rfl rfl) <| e_istore_n (ls1 := [vr 12 i0, vi x1, vi 0, vx, vx, vx, vx]) D212_34 rfl (show 2 < 7 by decide) rfl
theorem b212_35 {d : Nat} {i0 : Nat} {x1 x2 : Int} {u3 u4 u5 u6 : MV} {I L : Nat → Nat → Nat → Int} {t : Nat → Nat} : Res d 212 35 [vr 12 i0, vi x1, vi x2, u3, u4, u5, u6] [] (mk I L t) = if 6 ≤ x2 then Res d 212 231 [vr 12 i0, vi x1, vi x2, u3, u4, u5, u6] [] (mk I L t) else Res d 212 41 [vr 12 i0, vi x1, vi x2, u3, u4, u5, u6] [] (mk I L t) :=
  Eq.trans (e_iload_n D212_35 rfl rfl) <| Eq.trans (e_bipush (x := 6) D212_36 rfl rfl) <| e_icge D212_38 rfl rfl
theorem b212_41 {d : Nat} {i0 : Nat} {x1 x2 : Int} {u3 u4 u5 u6 : MV} {I L : Nat → Nat → Nat → Int} {t : Nat → Nat} : Res d 212 41 [vr 12 i0, vi x1, vi x2, u3, u4, u5, u6] [] (mk I L t) = Res d 212 49 [vr 12 i0, vi x1, vi x2, vi (-1), vi 0, vi 0, u6] [] (mk I L t) :=
  Eq.trans (e_iconst (x := -1) D212_41 rfl rfl) <| Eq.trans (e_istore_n (ls1 := [vr 12 i0, vi x1, vi x2, vi (-1), u4, u5, u6]) D212_42 rfl (show 3 < 7 by decide) rfl) <| Eq.trans (e_iconst (x := 0) D212_43 rfl rfl) <| Eq.trans (e_istore (ls1 := [vr 12 i0, vi x1, vi x2, vi (-1), vi 0, u5, u6]) D212_44 rfl (show 4 < 7 by decide) rfl) <| Eq.trans (e_iconst (x := 0) D212_46 rfl rfl) <| e_istore (ls1 := [vr 12 i0, vi x1, vi x2, vi (-1), vi 0, vi 0, u6]) D212_47 rfl (show 5 < 7 by decide) rfl
theorem b212_49 {d : Nat} {i0 : Nat} {x1 x2 x3 x4 x5 : Int} {u6 : MV} {I L : Nat → Nat → Nat → Int} {t : Nat → Nat} : Res d 212 49 [vr 12 i0, vi x1, vi x2, vi x3, vi x4, vi x5, u6] [] (mk I L t) = if I 12 i0 12 ≤ x5 then Res d 212 140 [vr 12 i0, vi x1, vi x2, vi x3, vi x4, vi x5, u6] [] (mk I L t) else Res d 212 58 [vr 12 i0, vi x1, vi x2, vi x3, vi x4, vi x5, u6] [] (mk I L t) :=
  Eq.trans (e_iload D212_49 rfl rfl) <| Eq.trans (e_aload_n D212_51 rfl rfl) <| Eq.trans (e_getI D212_52 rfl o_212 f_12_236 (sh_12 _) (by decide)) <| e_icge D212_55 rfl rfl
theorem b212_58 {d : Nat} {i0 : Nat} {x1 x2 x3 x4 x5 : Int} {u6 : MV} {I L : Nat → Nat → Nat → Int} {t : Nat → Nat} (g1 : 0 ≤ x5 ∧ x5 < 9) : Res d 212 58 [vr 12 i0, vi x1, vi x2, vi x3, vi x4, vi x5, u6] [] (mk I L t) = if ¬ I 54 i0 x5.toNat = -1 then Res d 212 72 [vr 12 i0, vi x1, vi x2, vi x3, vi x4, vi x5, u6] [] (mk I L t) else Res d 212 69 [vr 12 i0, vi x1, vi x2, vi x3, vi x4, vi x5, u6] [] (mk I L t) :=
  Eq.trans (e_aload_n D212_58 rfl rfl) <| Eq.trans (e_getP (p := (54, i0)) D212_59 rfl o_212 f_12_28 (sh_12 _) (by decide) (pp_12_11 _ _)) <| Eq.trans (e_iload D212_62 rfl rfl) <| Eq.trans (e_iald D212_64 rfl (al_54 _) g1) <| Eq.trans (e_iconst (x := -1) D212_65 rfl rfl) <| e_icne D212_66 rfl rfl
theorem b212_69 {d : Nat} {i0 : Nat} {x1 x2 x3 x4 x5 : Int} {u6 : MV} {I L : Nat → Nat → Nat → Int} {t : Nat → Nat} : Res d 212 69 [vr 12 i0, vi x1, vi x2, vi x3, vi x4, vi x5, u6] [] (mk I L t) = Res d 212 134 [vr 12 i0, vi x1, vi x2, vi x3, vi x4, vi x5, u6] [] (mk I L t) :=
  e_goto (q1 := 134) D212_69 rfl
theorem b212_72 {d : Nat} {i0 : Nat} {x1 x2 x3 x4 x5 : Int} {u6 : MV} {I L : Nat → Nat → Nat → Int} {t : Nat → Nat} (g1 : 0 ≤ x5 ∧ x5 < 9) : Res (d + 1) 212 72 [vr 12 i0, vi x1, vi x2, vi x3, vi x4, vi x5, u6] [] (mk I L t) = (Cal d 211 [vr 12 i0, vi (I 54 i0 x5.toNat), vi (w32 (2 * x2)), vi x1] (mk I L t)).bind fun v => Res (d + 1) 212 87 [vr 12 i0, vi x1, vi x2, vi x3, vi x4, vi x5, u6] (psh 211 v.1 []) v.2 :=
  Eq.trans (e_aload_n D212_72 rfl rfl) <| Eq.trans (e_aload_n D212_73 rfl rfl) <| Eq.trans (e_getP (p := (54, i0)) D212_74 rfl o_212 f_12_28 (sh_12 _) (by decide) (pp_12_11 _ _)) <| Eq.trans (e_iload D212_77 rfl rfl) <| Eq.trans (e_iald D212_79 rfl (al_54 _) g1) <| Eq.trans (e_iconst (x := 2) D212_80 rfl rfl) <| Eq.trans (e_iload_n D212_81 rfl rfl) <| Eq.trans (e_imul D212_82 rfl) <| Eq.trans (e_iload_n D212_83 rfl rfl) <| e_callV D212_84 rfl o_212 m_12_496 (by decide) rfl rfl
theorem b212_87 {d : Nat} {i0 : Nat} {x1 x2 x3 x4 x5 xs0 : Int} {u6 : MV} {I L : Nat → Nat → Nat → Int} {t : Nat → Nat} (g1 : 0 ≤ x5 ∧ x5 < 9) : Res (d + 1) 212 87 [vr 12 i0, vi x1, vi x2, vi x3, vi x4, vi x5, u6] [vi xs0] (mk I L t) = (Cal d 211 [vr 12 i0, vi (I 54 i0 x5.toNat), vi (w32 ((w32 (2 * x2)) + 1)), vi x1] (mk I L t)).bind fun v => Res (d + 1) 212 104 [vr 12 i0, vi x1, vi x2, vi x3, vi x4, vi x5, u6] (psh 211 v.1 [vi xs0]) v.2 :=
  Eq.trans (e_aload_n D212_87 rfl rfl) <| Eq.trans (e_aload_n D212_88 rfl rfl) <| Eq.trans (e_getP (p := (54, i0)) D212_89 rfl o_212 f_12_28 (sh_12 _) (by decide) (pp_12_11 _ _)) <| Eq.trans (e_iload D212_92 rfl rfl) <| Eq.trans (e_iald D212_94 rfl (al_54 _) g1) <| Eq.trans (e_iconst (x := 2) D212_95 rfl rfl) <| Eq.trans (e_iload_n D212_96 rfl rfl) <| Eq.trans (e_imul D212_97 rfl) <| Eq.trans (e_iconst (x := 1) D212_98 rfl rfl) <| Eq.trans (e_iadd D212_99 rfl) <| Eq.trans (e_iload_n D212_100 rfl rfl) <| e_callV D212_101 rfl o_212 m_12_496 (by decide) rfl rfl
theorem b212_104 {d : Nat} {i0 : Nat} {x1 x2 x3 x4 x5 xs1 xs0 : Int} {u6 : MV} {I L : Nat → Nat → Nat → Int} {t : Nat → Nat} : Res d 212 104 [vr 12 i0, vi x1, vi x2, vi x3, vi x4, vi x5, u6] [vi xs1, vi xs0] (mk I L t) = if x3 = -1 then Res d 212 122 [vr 12 i0, vi x1, vi x2, vi x3, vi x4, vi x5, vi (w32 (xs0 + xs1))] [] (mk I L t) else Res d 212 112 [vr 12 i0, vi x1, vi x2, vi x3, vi x4, vi x5, vi (w32 (xs0 + xs1))] [] (mk I L t) :=
  Eq.trans (e_iadd D212_104 rfl) <| Eq.trans (e_istore (ls1 := [vr 12 i0, vi x1, vi x2, vi x3, vi x4, vi x5, vi (w32 (xs0 + xs1))]) D212_105 rfl (show 6 < 7 by decide) rfl) <| Eq.trans (e_iload_n D212_107 rfl rfl) <| Eq.trans (e_iconst (x := -1) D212_108 rfl rfl) <| e_iceq D212_109 rfl rfl
theorem b212_112 {d : Nat} {i0 : Nat} {x1 x2 x3 x4 x5 x6 : Int} {I L : Nat → Nat → Nat → Int} {t : Nat → Nat} : Res d 212 112 [vr 12 i0, vi x1, vi x2, vi x3, vi x4, vi x5, vi x6] [] (mk I L t) = if x6 < x4 then Res d 212 122 [vr 12 i0, vi x1, vi x2, vi x3, vi x4, vi x5, vi x6] [] (mk I L t) else Res d 212 119 [vr 12 i0, vi x1, vi x2, vi x3, vi x4, vi x5, vi x6] [] (mk I L t) :=
  Eq.trans (e_iload D212_112 rfl rfl) <| Eq.trans (e_iload D212_114 rfl rfl) <| e_iclt D212_116 rfl rfl
theorem b212_119 {d : Nat} {i0 : Nat} {x1 x2 x3 x4 x5 x6 : Int} {I L : Nat → Nat → Nat → Int} {t : Nat → Nat} : Res d 212 119 [vr 12 i0, vi x1, vi x2, vi x3, vi x4, vi x5, vi x6] [] (mk I L t) = Res d 212 134 [vr 12 i0, vi x1, vi x2, vi x3, vi x4, vi x5, vi x6] [] (mk I L t) :=
  e_goto (q1 := 134) D212_119 rfl
theorem b212_122 {d : Nat} {i0 : Nat} {x1 x2 x3 x4 x5 x6 : Int} {I L : Nat → Nat → Nat → Int} {t : Nat → Nat} (g1 : 0 ≤ x5 ∧ x5 < 9) : Res d 212 122 [vr 12 i0, vi x1, vi x2, vi x3, vi x4, vi x5, vi x6] [] (mk I L t) = Res d 212 134 [vr 12 i0, vi x1, vi x2, vi (I 54 i0 x5.toNat), vi x6, vi x5, vi x6] [] (mk I L t) :=
  Eq.trans (e_aload_n D212_122 rfl rfl) <| Eq.trans (e_getP (p := (54, i0)) D212_123 rfl o_212 f_12_28 (sh_12 _) (by decide) (pp_12_11 _ _)) <| Eq.trans (e_iload D212_126 rfl rfl) <| Eq.trans (e_iald D212_128 rfl (al_54 _) g1) <| Eq.trans (e_istore_n (ls1 := [vr 12 i0, vi x1, vi x2, vi (I 54 i0 x5.toNat), vi x4, vi x5, vi x6]) D212_129 rfl (show 3 < 7 by decide) rfl) <| Eq.trans (e_iload D212_130 rfl rfl) <| e_istore (ls1 := [vr 12 i0, vi x1, vi x2, vi (I 54 i0 x5.toNat), vi x6, vi x5, vi x6]) D212_132 rfl (show 4 < 7 by decide) rfl
theorem b212_134 {d : Nat} {i0 : Nat} {x1 x2 x3 x4 x5 : Int} {u6 : MV} {I L : Nat → Nat → Nat → Int} {t : Nat → Nat} : Res d 212 134 [vr 12 i0, vi x1, vi x2, vi x3, vi x4, vi x5, u6] [] (mk I L t) = Res d 212 49 [vr 12 i0, vi x1, vi x2, vi x3, vi x4, vi (w32 (x5 + 1)), u6] [] (mk I L t) :=
  Eq.trans (e_iinc (ls1 := [vr 12 i0, vi x1, vi x2, vi x3, vi x4, vi (w32 (x5 + 1)), u6]) D212_134 rfl rfl rfl) <| e_goto (q1 := 49) D212_137 rfl
theorem b212_140 {d : Nat} {i0 : Nat} {x1 x2 x3 x4 x5 : Int} {u6 : MV} {I L : Nat → Nat → Nat → Int} {t : Nat → Nat} (g1 : 0 ≤ w32 ((w32 (16 * x3)) + (w32 (2 * x2))) ∧ w32 ((w32 (16 * x3)) + (w32 (2 * x2))) < 2112) (g2 : 0 ≤ w32 (2 * x2) ∧ w32 (2 * x2) < 16) (g3 : 0 ≤ w32 ((w32 ((w32 (16 * x3)) + (w32 (2 * x2)))) + 1) ∧ w32 ((w32 ((w32 (16 * x3)) + (w32 (2 * x2)))) + 1) < 2112) (g4 : 0 ≤ w32 ((w32 (2 * x2)) + 1) ∧ w32 ((w32 (2 * x2)) + 1) < 16) : Res d 212 140 [vr 12 i0, vi x1, vi x2, vi x3, vi x4, vi x5, u6] [] (mk I L t) = Res d 212 190 [vr 12 i0, vi x1, vi x2, vi x3, vi x4, vi 12, u6] [] (mk (up3 (up3 I 104 i0 (w32 (2 * x2)).toNat (I 48 i0 (w32 ((w32 (16 * x3)) + (w32 (2 * x2)))).toNat)) 104 i0 (w32 ((w32 (2 * x2)) + 1)).toNat ((up3 I 104 i0 (w32 (2 * x2)).toNat (I 48 i0 (w32 ((w32 (16 * x3)) + (w32 (2 * x2)))).toNat)) 48 i0 (w32 ((w32 ((w32 (16 * x3)) + (w32 (2 * x2)))) + 1)).toNat)) L t) :=
  Eq.trans (e_aload_n D212_140 rfl rfl) <| Eq.trans (e_getP (p := (104, i0)) D212_141 rfl o_212 f_12_183 (sh_12 _) (by decide) (pp_12_83 _ _)) <| Eq.trans (e_iconst (x := 2) D212_144 rfl rfl) <| Eq.trans (e_iload_n D212_145 rfl rfl) <| Eq.trans (e_imul D212_146 rfl) <| Eq.trans (e_aload_n D212_147 rfl rfl) <| Eq.trans (e_getP (p := (48, i0)) D212_148 rfl o_212 f_12_7 (sh_12 _) (by decide) (pp_12_5 _ _)) <| Eq.trans (e_bipush (x := 16) D212_151 rfl rfl) <| Eq.trans (e_iload_n D212_153 rfl rfl) <| Eq.trans (e_imul D212_154 rfl) <| Eq.trans (e_iconst (x := 2) D212_155 rfl rfl) <| Eq.trans (e_iload_n D212_156 rfl rfl) <| Eq.trans (e_imul D212_157 rfl) <| Eq.trans (e_iadd D212_158 rfl) <| Eq.trans (e_iald D212_159 rfl (al_48 _) g1) <| Eq.trans (e_iast D212_160 rfl (al_104 _) rfl g2) <| Eq.trans (e_aload_n D212_161 rfl rfl) <| Eq.trans (e_getP (p := (104, i0)) D212_162 rfl o_212 f_12_183 (sh_12 _) (by decide) (pp_12_83 _ _)) <| Eq.trans (e_iconst (x := 2) D212_165 rfl rfl) <| Eq.trans (e_iload_n D212_166 rfl rfl) <| Eq.trans (e_imul D212_167 rfl) <| Eq.trans (e_iconst (x := 1) D212_168 rfl rfl) <| Eq.trans (e_iadd D212_169 rfl) <| Eq.trans (e_aload_n D212_170 rfl rfl) <| Eq.trans (e_getP (p := (48, i0)) D212_171 rfl o_212 f_12_7 (sh_12 _) (by decide) (pp_12_5 _ _)) <| Eq.trans (e_bipush (x := 16) D212_174 rfl rfl) <| Eq.trans (e_iload_n D212_176 rfl rfl) <| Eq.trans (e_imul D212_177 rfl) <| Eq.trans (e_iconst (x := 2) D212_178 rfl rfl) <| Eq.trans (e_iload_n D212_179 rfl rfl) <| Eq.trans (e_imul D212_180 rfl) <| Eq.trans (e_iadd D212_181 rfl) <| Eq.trans (e_iconst (x := 1) D212_182 rfl rfl) <| Eq.trans (e_iadd D212_183 rfl) <| Eq.trans (e_iald D212_184 rfl (al_48 _) g3) <| Eq.trans (e_iast D212_185 rfl (al_104 _) rfl g4) <| Eq.trans (e_bipush (x := 12) D212_186 rfl rfl) <| e_istore (ls1 := [vr 12 i0, vi x1, vi x2, vi x3, vi x4, vi 12, u6]) D212_188 rfl (show 5 < 7 by decide) rfl
theorem b212_190 {d : Nat} {i0 : Nat} {x1 x2 x3 x4 x5 : Int} {u6 : MV} {I L : Nat → Nat → Nat → Int} {t : Nat → Nat} : Res d 212 190 [vr 12 i0, vi x1, vi x2, vi x3, vi x4, vi x5, u6] [] (mk I L t) = if 16 ≤ x5 then Res d 212 225 [vr 12 i0, vi x1, vi x2, vi x3, vi x4, vi x5, u6] [] (mk I L t) else Res d 212 197 [vr 12 i0, vi x1, vi x2, vi x3, vi x4, vi x5, u6] [] (mk I L t) :=
  Eq.trans (e_iload D212_190 rfl rfl) <| Eq.trans (e_bipush (x := 16) D212_192 rfl rfl) <| e_icge D212_194 rfl rfl
theorem b212_197 {d : Nat} {i0 : Nat} {x1 x2 x3 x4 x5 : Int} {u6 : MV} {I L : Nat → Nat → Nat → Int} {t : Nat → Nat} (g1 : 0 ≤ x5 ∧ x5 < 16) (g2 : 0 ≤ w32 ((w32 (16 * x3)) + x5) ∧ w32 ((w32 (16 * x3)) + x5) < 2112) : Res d 212 197 [vr 12 i0, vi x1, vi x2, vi x3, vi x4, vi x5, u6] [] (mk I L t) = Res d 212 190 [vr 12 i0, vi x1, vi x2, vi x3, vi x4, vi (w32 (x5 + 1)), u6] [] (mk (up3 I 104 i0 x5.toNat (w32 ((I 104 i0 x5.toNat) + (I 48 i0 (w32 ((w32 (16 * x3)) + x5)).toNat)))) L t) :=
  Eq.trans (e_aload_n D212_197 rfl rfl) <| Eq.trans (e_getP (p := (104, i0)) D212_198 rfl o_212 f_12_183 (sh_12 _) (by decide) (pp_12_83 _ _)) <| Eq.trans (e_iload D212_201 rfl rfl) <| Eq.trans (e_dup2 D212_203 rfl) <| Eq.trans (e_iald D212_204 rfl (al_104 _) g1) <| Eq.trans (e_aload_n D212_205 rfl rfl) <| Eq.trans (e_getP (p := (48, i0)) D212_206 rfl o_212 f_12_7 (sh_12 _) (by decide) (pp_12_5 _ _)) <| Eq.trans (e_bipush (x := 16) D212_209 rfl rfl) <| Eq.trans (e_iload_n D212_211 rfl rfl) <| Eq.trans (e_imul D212_212 rfl) <| Eq.trans (e_iload D212_213 rfl rfl) <| Eq.trans (e_iadd D212_215 rfl) <| Eq.trans (e_iald D212_216 rfl (al_48 _) g2) <| Eq.trans (e_iadd D212_217 rfl) <| Eq.trans (e_iast D212_218 rfl (al_104 _) rfl g1) <| Eq.trans (e_iinc (ls1 := [vr 12 i0, vi x1, vi x2, vi x3, vi x4, vi (w32 (x5 + 1)), u6]) D212_219 rfl rfl rfl) <| e_goto (q1 := 190) D212_222 rfl
theorem b212_225 {d : Nat} {i0 : Nat} {x1 x2 x3 x4 x5 : Int} {u6 : MV} {I L : Nat → Nat → Nat → Int} {t : Nat → Nat} : Res d 212 225 [vr 12 i0, vi x1, vi x2, vi x3, vi x4, vi x5, u6] [] (mk I L t) = Res d 212 35 [vr 12 i0, vi x1, vi (w32 (x2 + 1)), vi x3, vi x4, vi x5, u6] [] (mk I L t) :=
  Eq.trans (e_iinc (ls1 := [vr 12 i0, vi x1, vi (w32 (x2 + 1)), vi x3, vi x4, vi x5, u6]) D212_225 rfl rfl rfl) <| e_goto (q1 := 35) D212_228 rfl
theorem b212_231 {d : Nat} {i0 : Nat} {x1 x2 : Int} {u3 u4 u5 u6 : MV} {I L : Nat → Nat → Nat → Int} {t : Nat → Nat} : Res d 212 231 [vr 12 i0, vi x1, vi x2, u3, u4, u5, u6] [] (mk I L t) = Res d 212 234 [vr 12 i0, vi x1, vi 12, u3, u4, u5, u6] [] (mk I L t) :=
  Eq.trans (e_bipush (x := 12) D212_231 rfl rfl) <| e_istore_n (ls1 := [vr 12 i0, vi x1, vi 12, u3, u4, u5, u6]) D212_233 rfl (show 2 < 7 by decide) rfl
theorem b212_234 {d : Nat} {i0 : Nat} {x1 x2 : Int} {u3 u4 u5 u6 : MV} {I L : Nat → Nat → Nat → Int} {t : Nat → Nat} : Res d 212 234 [vr 12 i0, vi x1, vi x2, u3, u4, u5, u6] [] (mk I L t) = if 16 ≤ x2 then Res d 212 257 [vr 12 i0, vi x1, vi x2, u3, u4, u5, u6] [] (mk I L t) else Res d 212 240 [vr 12 i0, vi x1, vi x2, u3, u4, u5, u6] [] (mk I L t) :=
  Eq.trans (e_iload_n D212_234 rfl rfl) <| Eq.trans (e_bipush (x := 16) D212_235 rfl rfl) <| e_icge D212_237 rfl rfl
theorem b212_240 {d : Nat} {i0 : Nat} {x1 x2 : Int} {u3 u4 u5 u6 : MV} {I L : Nat → Nat → Nat → Int} {t : Nat → Nat} (g1 : 0 ≤ x2 ∧ x2 < 16) : Res d 212 240 [vr 12 i0, vi x1, vi x2, u3, u4, u5, u6] [] (mk I L t) = Res d 212 234 [vr 12 i0, vi x1, vi (w32 (x2 + 1)), u3, u4, u5, u6] [] (mk (up3 I 104 i0 x2.toNat (vIdiv (I 104 i0 x2.toNat) 6)) L t) :=
  Eq.trans (e_aload_n D212_240 rfl rfl) <| Eq.trans (e_getP (p := (104, i0)) D212_241 rfl o_212 f_12_183 (sh_12 _) (by decide) (pp_12_83 _ _)) <| Eq.trans (e_iload_n D212_244 rfl rfl) <| Eq.trans (e_dup2 D212_245 rfl) <| Eq.trans (e_iald D212_246 rfl (al_104 _) g1) <| Eq.trans (e_bipush (x := 6) D212_247 rfl rfl) <| Eq.trans (e_idiv D212_249 rfl (by decide)) <| Eq.trans (e_iast D212_250 rfl (al_104 _) rfl g1) <| Eq.trans (e_iinc (ls1 := [vr 12 i0, vi x1, vi (w32 (x2 + 1)), u3, u4, u5, u6]) D212_251 rfl rfl rfl) <| e_goto (q1 := 234) D212_254 rfl
theorem b212_257 {d : Nat} {i0 : Nat} {x1 x2 : Int} {u3 u4 u5 u6 : MV} {I L : Nat → Nat → Nat → Int} {t : Nat → Nat} : Res d 212 257 [vr 12 i0, vi x1, vi x2, u3, u4, u5, u6] [] (mk I L t) = some (vx, (mk I L t)) :=
  e_vret D212_257 rfl
/-! m_pulledToMade -/
theorem cc_213 : cod 213 = cX12_pulledToMade := rfl
theorem D213_0 : decode (cod 213) 0 = .ok (.aload_n 0, 1) := by rw [cc_213]; decide +kernel
theorem D213_1 : decode (cod 213) 1 = .ok (.invokevirtual 419, 3) := by rw [cc_213]; decide +kernel
theorem D213_4 : decode (cod 213) 4 = .ok (.aload_n 0, 1) := by rw [cc_213]; decide +kernel
theorem D213_5 : decode (cod 213) 5 = .ok (.iconst 3, 1) := by rw [cc_213]; decide +kernel
theorem D213_6 : decode (cod 213) 6 = .ok (.invokevirtual 432, 3) := by rw [cc_213]; decide +kernel
theorem D213_9 : decode (cod 213) 9 = .ok (.istore_n 1, 1) := by rw [cc_213]; decide +kernel
theorem D213_10 : decode (cod 213) 10 = .ok (.iconst 0, 1) := by rw [cc_213]; decide +kernel
theorem D213_11 : decode (cod 213) 11 = .ok (.istore_n 2, 1) := by rw [cc_213]; decide +kernel
theorem D213_12 : decode (cod 213) 12 = .ok (.iload_n 2, 1) := by rw [cc_213]; decide +kernel
theorem D213_13 : decode (cod 213) 13 = .ok (.bipush 16, 2) := by rw [cc_213]; decide +kernel
theorem D213_15 : decode (cod 213) 15 = .ok (.if_icmp .ge 36, 3) := by rw [cc_213]; decide +kernel
theorem D213_18 : decode (cod 213) 18 = .ok (.aload_n 0, 1) := by rw [cc_213]; decide +kernel
theorem D213_19 : decode (cod 213) 19 = .ok (.getfield 99, 3) := by rw [cc_213]; decide +kernel
theorem D213_22 : decode (cod 213) 22 = .ok (.iload_n 2, 1) := by rw [cc_213]; decide +kernel
theorem D213_23 : decode (cod 213) 23 = .ok (.dup2, 1) := by rw [cc_213]; decide +kernel
theorem D213_24 : decode (cod 213) 24 = .ok (.iaload, 1) := by rw [cc_213]; decide +kernel
theorem D213_25 : decode (cod 213) 25 = .ok (.aload_n 0, 1) := by rw [cc_213]; decide +kernel
theorem D213_26 : decode (cod 213) 26 = .ok (.getfield 183, 3) := by rw [cc_213]; decide +kernel
theorem D213_29 : decode (cod 213) 29 = .ok (.iload_n 2, 1) := by rw [cc_213]; decide +kernel
theorem D213_30 : decode (cod 213) 30 = .ok (.iaload, 1) := by rw [cc_213]; decide +kernel
theorem D213_31 : decode (cod 213) 31 = .ok (.aload_n 0, 1) := by rw [cc_213]; decide +kernel
theorem D213_32 : decode (cod 213) 32 = .ok (.getfield 99, 3) := by rw [cc_213]; decide +kernel
theorem D213_35 : decode (cod 213) 35 = .ok (.iload_n 2, 1) := by rw [cc_213]; decide +kernel
theorem D213_36 : decode (cod 213) 36 = .ok (.iaload, 1) := by rw [cc_213]; decide +kernel
theorem D213_37 : decode (cod 213) 37 = .ok (.isub, 1) := by rw [cc_213]; decide +kernel
theorem D213_38 : decode (cod 213) 38 = .ok (.iload_n 1, 1) := by rw [cc_213]; decide +kernel
theorem D213_39 : decode (cod 213) 39 = .ok (.imul, 1) := by rw [cc_213]; decide +kernel
theorem D213_40 : decode (cod 213) 40 = .ok (.bipush 100, 2) := by rw [cc_213]; decide +kernel
theorem D213_42 : decode (cod 213) 42 = .ok (.idiv, 1) := by rw [cc_213]; decide +kernel
theorem D213_43 : decode (cod 213) 43 = .ok (.iadd, 1) := by rw [cc_213]; decide +kernel
theorem D213_44 : decode (cod 213) 44 = .ok (.iastore, 1) := by rw [cc_213]; decide +kernel
theorem D213_45 : decode (cod 213) 45 = .ok (.iinc 2 1, 3) := by rw [cc_213]; decide +kernel
theorem D213_48 : decode (cod 213) 48 = .ok (.goto (-36), 3) := by rw [cc_213]; decide +kernel
theorem D213_51 : decode (cod 213) 51 = .ok (.return_, 1) := by rw [cc_213]; decide +kernel
theorem b213_0 {d : Nat} {i0 : Nat} {I L : Nat → Nat → Nat → Int} {t : Nat → Nat} : Res (d + 1) 213 0 [vr 12 i0, vx, vx] [] (mk I L t) = (Cal d 185 [vr 12 i0] (mk I L t)).bind fun v => Res (d + 1) 213 4 [vr 12 i0, vx, vx] (psh 185 v.1 []) v.2 :=
  Eq.trans (e_aload_n D213_0 rfl rfl) <| e_callV D213_1 rfl o_213 m_12_419 (by decide) rfl rfl
theorem b213_4 {d : Nat} {i0 : Nat} {I L : Nat → Nat → Nat → Int} {t : Nat → Nat} : Res (d + 1) 213 4 [vr 12 i0, vx, vx] [] (mk I L t) = (Cal d 184 [vr 12 i0, vi 3] (mk I L t)).bind fun v => Res (d + 1) 213 9 [vr 12 i0, vx, vx] (psh 184 v.1 []) v.2 :=
  Eq.trans (e_aload_n D213_4 rfl rfl) <| Eq.trans (e_iconst (x := 3) D213_5 rfl rfl) <| e_callV D213_6 rfl o_213 m_12_432 (by decide) rfl rfl
theorem b213_9 {d : Nat} {i0 : Nat} {xs0 : Int} {I L : Nat → Nat → Nat → Int} {t : Nat → Nat} : Res d 213 9 [vr 12 i0, vx, vx] [vi xs0] (mk I L t) = Res d 213 12 [vr 12 i0, vi xs0, vi 0] [] (mk I L t) :=
  Eq.trans (e_istore_n (ls1 := [vr 12 i0, vi xs0, vx]) D213_9 rfl (show 1 < 3 by decide) rfl) <| Eq.trans (e_iconst (x := 0) D213_10 rfl rfl) <| e_istore_n (ls1 := [vr 12 i0, vi xs0, vi 0]) D213_11 rfl (show 2 < 3 by decide) rfl
theorem b213_12 {d : Nat} {i0 : Nat} {x1 x2 : Int} {I L : Nat → Nat → Nat → Int} {t : Nat → Nat} : Res d 213 12 [vr 12 i0, vi x1, vi x2] [] (mk I L t) = if 16 ≤ x2 then Res d 213 51 [vr 12 i0, vi x1, vi x2] [] (mk I L t) else Res d 213 18 [vr 12 i0, vi x1, vi x2] [] (mk I L t) :=
  Eq.trans (e_iload_n D213_12 rfl rfl) <| Eq.trans (e_bipush (x := 16) D213_13 rfl rfl) <| e_icge D213_15 rfl rfl
theorem b213_18 {d : Nat} {i0 : Nat} {x1 x2 : Int} {I L : Nat → Nat → Nat → Int} {t : Nat → Nat} (g1 : 0 ≤ x2 ∧ x2 < 16) : Res d 213 18 [vr 12 i0, vi x1, vi x2] [] (mk I L t) = Res d 213 12 [vr 12 i0, vi x1, vi (w32 (x2 + 1))] [] (mk (up3 I 76 i0 x2.toNat (w32 ((I 76 i0 x2.toNat) + (vIdiv (w32 ((w32 ((I 104 i0 x2.toNat) - (I 76 i0 x2.toNat))) * x1)) 100)))) L t) :=
  Eq.trans (e_aload_n D213_18 rfl rfl) <| Eq.trans (e_getP (p := (76, i0)) D213_19 rfl o_213 f_12_99 (sh_12 _) (by decide) (pp_12_52 _ _)) <| Eq.trans (e_iload_n D213_22 rfl rfl) <| Eq.trans (e_dup2 D213_23 rfl) <| Eq.trans (e_iald D213_24 rfl (al_76 _) g1) <| Eq.trans (e_aload_n D213_25 rfl rfl) <| Eq.trans (e_getP (p := (104, i0)) D213_26 rfl o_213 f_12_183 (sh_12 _) (by decide) (pp_12_83 _ _)) <| Eq.trans (e_iload_n D213_29 rfl rfl) <| Eq.trans (e_iald D213_30 rfl (al_104 _) g1) <| Eq.trans (e_aload_n D213_31 rfl rfl) <| Eq.trans (e_getP (p := (76, i0)) D213_32 rfl o_213 f_12_99 (sh_12 _) (by decide) (pp_12_52 _ _)) <| Eq.trans (e_iload_n D213_35 rfl rfl) <| Eq.trans (e_iald D213_36 rfl (al_76 _) g1) <| Eq.trans (e_isub D213_37 rfl) <| Eq.trans (e_iload_n D213_38 rfl rfl) <| Eq.trans (e_imul D213_39 rfl) <| Eq.trans (e_bipush (x := 100) D213_40 rfl rfl) <| Eq.trans (e_idiv D213_42 rfl (by decide)) <| Eq.trans (e_iadd D213_43 rfl) <| Eq.trans (e_iast D213_44 rfl (al_76 _) rfl g1) <| Eq.trans (e_iinc (ls1 := [vr 12 i0, vi x1, vi (w32 (x2 + 1))]) D213_45 rfl rfl rfl) <| e_goto (q1 := 12) D213_48 rfl
theorem b213_51 {d : Nat} {i0 : Nat} {x1 x2 : Int} {I L : Nat → Nat → Nat → Int} {t : Nat → Nat} : Res d 213 51 [vr 12 i0, vi x1, vi x2] [] (mk I L t) = some (vx, (mk I L t)) :=
  e_vret D213_51 rfl
/-! m_together -/
theorem cc_214 : cod 214 = cX12_together := rfl
theorem D214_0 : decode (cod 214) 0 = .ok (.aload_n 0, 1) := by rw [cc_214]; decide +kernel
theorem D214_1 : decode (cod 214) 1 = .ok (.iload_n 1, 1) := by rw [cc_214]; decide +kernel
theorem D214_2 : decode (cod 214) 2 = .ok (.invokevirtual 469, 3) := by rw [cc_214]; decide +kernel
theorem D214_5 : decode (cod 214) 5 = .ok (.ifCond .eq 19, 3) := by rw [cc_214]; decide +kernel
theorem D214_8 : decode (cod 214) 8 = .ok (.iload_n 2, 1) := by rw [cc_214]; decide +kernel
theorem D214_9 : decode (cod 214) 9 = .ok (.invokestatic 233, 3) := by rw [cc_214]; decide +kernel
theorem D214_12 : decode (cod 214) 12 = .ok (.ifCond .eq 12, 3) := by rw [cc_214]; decide +kernel
theorem D214_15 : decode (cod 214) 15 = .ok (.aload_n 0, 1) := by rw [cc_214]; decide +kernel
theorem D214_16 : decode (cod 214) 16 = .ok (.getfield 216, 3) := by rw [cc_214]; decide +kernel
theorem D214_19 : decode (cod 214) 19 = .ok (.bipush 120, 2) := by rw [cc_214]; decide +kernel
theorem D214_21 : decode (cod 214) 21 = .ok (.if_icmp .ne 5, 3) := by rw [cc_214]; decide +kernel
theorem D214_24 : decode (cod 214) 24 = .ok (.iconst (-1), 1) := by rw [cc_214]; decide +kernel
theorem D214_25 : decode (cod 214) 25 = .ok (.ireturn, 1) := by rw [cc_214]; decide +kernel
theorem D214_26 : decode (cod 214) 26 = .ok (.aload_n 0, 1) := by rw [cc_214]; decide +kernel
theorem D214_27 : decode (cod 214) 27 = .ok (.iload_n 2, 1) := by rw [cc_214]; decide +kernel
theorem D214_28 : decode (cod 214) 28 = .ok (.invokevirtual 472, 3) := by rw [cc_214]; decide +kernel
theorem D214_31 : decode (cod 214) 31 = .ok (.aload_n 0, 1) := by rw [cc_214]; decide +kernel
theorem D214_32 : decode (cod 214) 32 = .ok (.invokevirtual 499, 3) := by rw [cc_214]; decide +kernel
theorem D214_35 : decode (cod 214) 35 = .ok (.ifCond .ne 5, 3) := by rw [cc_214]; decide +kernel
theorem D214_38 : decode (cod 214) 38 = .ok (.iconst (-1), 1) := by rw [cc_214]; decide +kernel
theorem D214_39 : decode (cod 214) 39 = .ok (.ireturn, 1) := by rw [cc_214]; decide +kernel
theorem D214_40 : decode (cod 214) 40 = .ok (.aload_n 0, 1) := by rw [cc_214]; decide +kernel
theorem D214_41 : decode (cod 214) 41 = .ok (.iload_n 1, 1) := by rw [cc_214]; decide +kernel
theorem D214_42 : decode (cod 214) 42 = .ok (.invokevirtual 459, 3) := by rw [cc_214]; decide +kernel
theorem D214_45 : decode (cod 214) 45 = .ok (.aload_n 0, 1) := by rw [cc_214]; decide +kernel
theorem D214_46 : decode (cod 214) 46 = .ok (.invokevirtual 502, 3) := by rw [cc_214]; decide +kernel
theorem D214_49 : decode (cod 214) 49 = .ok (.iconst 0, 1) := by rw [cc_214]; decide +kernel
theorem D214_50 : decode (cod 214) 50 = .ok (.istore_n 3, 1) := by rw [cc_214]; decide +kernel
theorem D214_51 : decode (cod 214) 51 = .ok (.iload_n 3, 1) := by rw [cc_214]; decide +kernel
theorem D214_52 : decode (cod 214) 52 = .ok (.bipush 16, 2) := by rw [cc_214]; decide +kernel
theorem D214_54 : decode (cod 214) 54 = .ok (.if_icmp .ge 29, 3) := by rw [cc_214]; decide +kernel
theorem D214_57 : decode (cod 214) 57 = .ok (.aload_n 0, 1) := by rw [cc_214]; decide +kernel
theorem D214_58 : decode (cod 214) 58 = .ok (.getfield 7, 3) := by rw [cc_214]; decide +kernel
theorem D214_61 : decode (cod 214) 61 = .ok (.bipush 16, 2) := by rw [cc_214]; decide +kernel
theorem D214_63 : decode (cod 214) 63 = .ok (.aload_n 0, 1) := by rw [cc_214]; decide +kernel
theorem D214_64 : decode (cod 214) 64 = .ok (.getfield 216, 3) := by rw [cc_214]; decide +kernel
theorem D214_67 : decode (cod 214) 67 = .ok (.imul, 1) := by rw [cc_214]; decide +kernel
theorem D214_68 : decode (cod 214) 68 = .ok (.iload_n 3, 1) := by rw [cc_214]; decide +kernel
theorem D214_69 : decode (cod 214) 69 = .ok (.iadd, 1) := by rw [cc_214]; decide +kernel
theorem D214_70 : decode (cod 214) 70 = .ok (.aload_n 0, 1) := by rw [cc_214]; decide +kernel
theorem D214_71 : decode (cod 214) 71 = .ok (.getfield 183, 3) := by rw [cc_214]; decide +kernel
theorem D214_74 : decode (cod 214) 74 = .ok (.iload_n 3, 1) := by rw [cc_214]; decide +kernel
theorem D214_75 : decode (cod 214) 75 = .ok (.iaload, 1) := by rw [cc_214]; decide +kernel
theorem D214_76 : decode (cod 214) 76 = .ok (.iastore, 1) := by rw [cc_214]; decide +kernel
theorem D214_77 : decode (cod 214) 77 = .ok (.iinc 3 1, 3) := by rw [cc_214]; decide +kernel
theorem D214_80 : decode (cod 214) 80 = .ok (.goto (-29), 3) := by rw [cc_214]; decide +kernel
theorem D214_83 : decode (cod 214) 83 = .ok (.aload_n 0, 1) := by rw [cc_214]; decide +kernel
theorem D214_84 : decode (cod 214) 84 = .ok (.getfield 13, 3) := by rw [cc_214]; decide +kernel
theorem D214_87 : decode (cod 214) 87 = .ok (.aload_n 0, 1) := by rw [cc_214]; decide +kernel
theorem D214_88 : decode (cod 214) 88 = .ok (.getfield 216, 3) := by rw [cc_214]; decide +kernel
theorem D214_91 : decode (cod 214) 91 = .ok (.aload_n 0, 1) := by rw [cc_214]; decide +kernel
theorem D214_92 : decode (cod 214) 92 = .ok (.getfield 13, 3) := by rw [cc_214]; decide +kernel
theorem D214_95 : decode (cod 214) 95 = .ok (.aload_n 0, 1) := by rw [cc_214]; decide +kernel
theorem D214_96 : decode (cod 214) 96 = .ok (.getfield 117, 3) := by rw [cc_214]; decide +kernel
theorem D214_99 : decode (cod 214) 99 = .ok (.iload_n 1, 1) := by rw [cc_214]; decide +kernel
theorem D214_100 : decode (cod 214) 100 = .ok (.iaload, 1) := by rw [cc_214]; decide +kernel
theorem D214_101 : decode (cod 214) 101 = .ok (.iaload, 1) := by rw [cc_214]; decide +kernel
theorem D214_102 : decode (cod 214) 102 = .ok (.iastore, 1) := by rw [cc_214]; decide +kernel
theorem D214_103 : decode (cod 214) 103 = .ok (.aload_n 0, 1) := by rw [cc_214]; decide +kernel
theorem D214_104 : decode (cod 214) 104 = .ok (.getfield 16, 3) := by rw [cc_214]; decide +kernel
theorem D214_107 : decode (cod 214) 107 = .ok (.aload_n 0, 1) := by rw [cc_214]; decide +kernel
theorem D214_108 : decode (cod 214) 108 = .ok (.getfield 216, 3) := by rw [cc_214]; decide +kernel
theorem D214_111 : decode (cod 214) 111 = .ok (.iload_n 1, 1) := by rw [cc_214]; decide +kernel
theorem D214_112 : decode (cod 214) 112 = .ok (.iastore, 1) := by rw [cc_214]; decide +kernel
theorem D214_113 : decode (cod 214) 113 = .ok (.aload_n 0, 1) := by rw [cc_214]; decide +kernel
theorem D214_114 : decode (cod 214) 114 = .ok (.invokevirtual 505, 3) := by rw [cc_214]; decide +kernel
theorem D214_117 : decode (cod 214) 117 = .ok (.aload_n 0, 1) := by rw [cc_214]; decide +kernel
theorem D214_118 : decode (cod 214) 118 = .ok (.iload_n 1, 1) := by rw [cc_214]; decide +kernel
theorem D214_119 : decode (cod 214) 119 = .ok (.invokevirtual 456, 3) := by rw [cc_214]; decide +kernel
theorem D214_122 : decode (cod 214) 122 = .ok (.aload_n 0, 1) := by rw [cc_214]; decide +kernel
theorem D214_123 : decode (cod 214) 123 = .ok (.iconst 2, 1) := by rw [cc_214]; decide +kernel
theorem D214_124 : decode (cod 214) 124 = .ok (.iload_n 1, 1) := by rw [cc_214]; decide +kernel
theorem D214_125 : decode (cod 214) 125 = .ok (.aload_n 0, 1) := by rw [cc_214]; decide +kernel
theorem D214_126 : decode (cod 214) 126 = .ok (.getfield 216, 3) := by rw [cc_214]; decide +kernel
theorem D214_129 : decode (cod 214) 129 = .ok (.invokevirtual 465, 3) := by rw [cc_214]; decide +kernel
theorem D214_132 : decode (cod 214) 132 = .ok (.aload_n 0, 1) := by rw [cc_214]; decide +kernel
theorem D214_133 : decode (cod 214) 133 = .ok (.dup, 1) := by rw [cc_214]; decide +kernel
theorem D214_134 : decode (cod 214) 134 = .ok (.getfield 216, 3) := by rw [cc_214]; decide +kernel
theorem D214_137 : decode (cod 214) 137 = .ok (.iconst 1, 1) := by rw [cc_214]; decide +kernel
theorem D214_138 : decode (cod 214) 138 = .ok (.iadd, 1) := by rw [cc_214]; decide +kernel
theorem D214_139 : decode (cod 214) 139 = .ok (.putfield 216, 3) := by rw [cc_214]; decide +kernel
theorem D214_142 : decode (cod 214) 142 = .ok (.aload_n 0, 1) := by rw [cc_214]; decide +kernel
theorem D214_143 : decode (cod 214) 143 = .ok (.getfield 216, 3) := by rw [cc_214]; decide +kernel
theorem D214_146 : decode (cod 214) 146 = .ok (.iconst 1, 1) := by rw [cc_214]; decide +kernel
theorem D214_147 : decode (cod 214) 147 = .ok (.isub, 1) := by rw [cc_214]; decide +kernel
theorem D214_148 : decode (cod 214) 148 = .ok (.ireturn, 1) := by rw [cc_214]; decide +kernel
theorem b214_0 {d : Nat} {i0 : Nat} {x1 x2 : Int} {I L : Nat → Nat → Nat → Int} {t : Nat → Nat} : Res (d + 1) 214 0 [vr 12 i0, vi x1, vi x2, vx] [] (mk I L t) = (Cal d 150 [vr 12 i0, vi x1] (mk I L t)).bind fun v => Res (d + 1) 214 5 [vr 12 i0, vi x1, vi x2, vx] (psh 150 v.1 []) v.2 :=
  Eq.trans (e_aload_n D214_0 rfl rfl) <| Eq.trans (e_iload_n D214_1 rfl rfl) <| e_callV D214_2 rfl o_214 m_12_469 (by decide) rfl rfl
theorem b214_5 {d : Nat} {i0 : Nat} {x1 x2 xs0 : Int} {I L : Nat → Nat → Nat → Int} {t : Nat → Nat} : Res d 214 5 [vr 12 i0, vi x1, vi x2, vx] [vi xs0] (mk I L t) = if xs0 = 0 then Res d 214 24 [vr 12 i0, vi x1, vi x2, vx] [] (mk I L t) else Res d 214 8 [vr 12 i0, vi x1, vi x2, vx] [] (mk I L t) :=
  e_ifeq D214_5 rfl rfl
theorem b214_8 {d : Nat} {i0 : Nat} {x1 x2 : Int} {I L : Nat → Nat → Nat → Int} {t : Nat → Nat} : Res (d + 1) 214 8 [vr 12 i0, vi x1, vi x2, vx] [] (mk I L t) = (Cal d 148 [vi x2] (mk I L t)).bind fun v => Res (d + 1) 214 12 [vr 12 i0, vi x1, vi x2, vx] (psh 148 v.1 []) v.2 :=
  Eq.trans (e_iload_n D214_8 rfl rfl) <| e_callS D214_9 rfl o_214 m_12_233 (by decide) rfl rfl
theorem b214_12 {d : Nat} {i0 : Nat} {x1 x2 xs0 : Int} {I L : Nat → Nat → Nat → Int} {t : Nat → Nat} : Res d 214 12 [vr 12 i0, vi x1, vi x2, vx] [vi xs0] (mk I L t) = if xs0 = 0 then Res d 214 24 [vr 12 i0, vi x1, vi x2, vx] [] (mk I L t) else Res d 214 15 [vr 12 i0, vi x1, vi x2, vx] [] (mk I L t) :=
  e_ifeq D214_12 rfl rfl
theorem b214_15 {d : Nat} {i0 : Nat} {x1 x2 : Int} {I L : Nat → Nat → Nat → Int} {t : Nat → Nat} : Res d 214 15 [vr 12 i0, vi x1, vi x2, vx] [] (mk I L t) = if ¬ I 12 i0 1 = 120 then Res d 214 26 [vr 12 i0, vi x1, vi x2, vx] [] (mk I L t) else Res d 214 24 [vr 12 i0, vi x1, vi x2, vx] [] (mk I L t) :=
  Eq.trans (e_aload_n D214_15 rfl rfl) <| Eq.trans (e_getI D214_16 rfl o_214 f_12_216 (sh_12 _) (by decide)) <| Eq.trans (e_bipush (x := 120) D214_19 rfl rfl) <| e_icne D214_21 rfl rfl
theorem b214_24 {d : Nat} {i0 : Nat} {x1 x2 : Int} {I L : Nat → Nat → Nat → Int} {t : Nat → Nat} : Res d 214 24 [vr 12 i0, vi x1, vi x2, vx] [] (mk I L t) = some (vi (-1), (mk I L t)) :=
  Eq.trans (e_iconst (x := -1) D214_24 rfl rfl) <| e_iret D214_25 rfl
theorem b214_26 {d : Nat} {i0 : Nat} {x1 x2 : Int} {I L : Nat → Nat → Nat → Int} {t : Nat → Nat} : Res (d + 1) 214 26 [vr 12 i0, vi x1, vi x2, vx] [] (mk I L t) = (Cal d 156 [vr 12 i0, vi x2] (mk I L t)).bind fun v => Res (d + 1) 214 31 [vr 12 i0, vi x1, vi x2, vx] (psh 156 v.1 []) v.2 :=
  Eq.trans (e_aload_n D214_26 rfl rfl) <| Eq.trans (e_iload_n D214_27 rfl rfl) <| e_callV D214_28 rfl o_214 m_12_472 (by decide) rfl rfl
theorem b214_31 {d : Nat} {i0 : Nat} {x1 x2 : Int} {I L : Nat → Nat → Nat → Int} {t : Nat → Nat} : Res (d + 1) 214 31 [vr 12 i0, vi x1, vi x2, vx] [] (mk I L t) = (Cal d 158 [vr 12 i0] (mk I L t)).bind fun v => Res (d + 1) 214 35 [vr 12 i0, vi x1, vi x2, vx] (psh 158 v.1 []) v.2 :=
  Eq.trans (e_aload_n D214_31 rfl rfl) <| e_callV D214_32 rfl o_214 m_12_499 (by decide) rfl rfl
theorem b214_35 {d : Nat} {i0 : Nat} {x1 x2 xs0 : Int} {I L : Nat → Nat → Nat → Int} {t : Nat → Nat} : Res d 214 35 [vr 12 i0, vi x1, vi x2, vx] [vi xs0] (mk I L t) = if ¬ xs0 = 0 then Res d 214 40 [vr 12 i0, vi x1, vi x2, vx] [] (mk I L t) else Res d 214 38 [vr 12 i0, vi x1, vi x2, vx] [] (mk I L t) :=
  e_ifne D214_35 rfl rfl
theorem b214_38 {d : Nat} {i0 : Nat} {x1 x2 : Int} {I L : Nat → Nat → Nat → Int} {t : Nat → Nat} : Res d 214 38 [vr 12 i0, vi x1, vi x2, vx] [] (mk I L t) = some (vi (-1), (mk I L t)) :=
  Eq.trans (e_iconst (x := -1) D214_38 rfl rfl) <| e_iret D214_39 rfl
theorem b214_40 {d : Nat} {i0 : Nat} {x1 x2 : Int} {I L : Nat → Nat → Nat → Int} {t : Nat → Nat} : Res (d + 1) 214 40 [vr 12 i0, vi x1, vi x2, vx] [] (mk I L t) = (Cal d 196 [vr 12 i0, vi x1] (mk I L t)).bind fun v => Res (d + 1) 214 45 [vr 12 i0, vi x1, vi x2, vx] (psh 196 v.1 []) v.2 :=
  Eq.trans (e_aload_n D214_40 rfl rfl) <| Eq.trans (e_iload_n D214_41 rfl rfl) <| e_callV D214_42 rfl o_214 m_12_459 (by decide) rfl rfl
theorem b214_45 {d : Nat} {i0 : Nat} {x1 x2 : Int} {I L : Nat → Nat → Nat → Int} {t : Nat → Nat} : Res (d + 1) 214 45 [vr 12 i0, vi x1, vi x2, vx] [] (mk I L t) = (Cal d 212 [vr 12 i0] (mk I L t)).bind fun v => Res (d + 1) 214 49 [vr 12 i0, vi x1, vi x2, vx] (psh 212 v.1 []) v.2 :=
  Eq.trans (e_aload_n D214_45 rfl rfl) <| e_callV D214_46 rfl o_214 m_12_502 (by decide) rfl rfl
theorem b214_49 {d : Nat} {i0 : Nat} {x1 x2 : Int} {I L : Nat → Nat → Nat → Int} {t : Nat → Nat} : Res d 214 49 [vr 12 i0, vi x1, vi x2, vx] [] (mk I L t) = Res d 214 51 [vr 12 i0, vi x1, vi x2, vi 0] [] (mk I L t) :=
  Eq.trans (e_iconst (x := 0) D214_49 rfl rfl) <| e_istore_n (ls1 := [vr 12 i0, vi x1, vi x2, vi 0]) D214_50 rfl (show 3 < 4 by decide) rfl
theorem b214_51 {d : Nat} {i0 : Nat} {x1 x2 x3 : Int} {I L : Nat → Nat → Nat → Int} {t : Nat → Nat} : Res d 214 51 [vr 12 i0, vi x1, vi x2, vi x3] [] (mk I L t) = if 16 ≤ x3 then Res d 214 83 [vr 12 i0, vi x1, vi x2, vi x3] [] (mk I L t) else Res d 214 57 [vr 12 i0, vi x1, vi x2, vi x3] [] (mk I L t) :=
  Eq.trans (e_iload_n D214_51 rfl rfl) <| Eq.trans (e_bipush (x := 16) D214_52 rfl rfl) <| e_icge D214_54 rfl rfl
theorem b214_57 {d : Nat} {i0 : Nat} {x1 x2 x3 : Int} {I L : Nat → Nat → Nat → Int} {t : Nat → Nat} (g1 : 0 ≤ x3 ∧ x3 < 16) (g2 : 0 ≤ w32 ((w32 (16 * (I 12 i0 1))) + x3) ∧ w32 ((w32 (16 * (I 12 i0 1))) + x3) < 2112) : Res d 214 57 [vr 12 i0, vi x1, vi x2, vi x3] [] (mk I L t) = Res d 214 51 [vr 12 i0, vi x1, vi x2, vi (w32 (x3 + 1))] [] (mk (up3 I 48 i0 (w32 ((w32 (16 * (I 12 i0 1))) + x3)).toNat (I 104 i0 x3.toNat)) L t) :=
  Eq.trans (e_aload_n D214_57 rfl rfl) <| Eq.trans (e_getP (p := (48, i0)) D214_58 rfl o_214 f_12_7 (sh_12 _) (by decide) (pp_12_5 _ _)) <| Eq.trans (e_bipush (x := 16) D214_61 rfl rfl) <| Eq.trans (e_aload_n D214_63 rfl rfl) <| Eq.trans (e_getI D214_64 rfl o_214 f_12_216 (sh_12 _) (by decide)) <| Eq.trans (e_imul D214_67 rfl) <| Eq.trans (e_iload_n D214_68 rfl rfl) <| Eq.trans (e_iadd D214_69 rfl) <| Eq.trans (e_aload_n D214_70 rfl rfl) <| Eq.trans (e_getP (p := (104, i0)) D214_71 rfl o_214 f_12_183 (sh_12 _) (by decide) (pp_12_83 _ _)) <| Eq.trans (e_iload_n D214_74 rfl rfl) <| Eq.trans (e_iald D214_75 rfl (al_104 _) g1) <| Eq.trans (e_iast D214_76 rfl (al_48 _) rfl g2) <| Eq.trans (e_iinc (ls1 := [vr 12 i0, vi x1, vi x2, vi (w32 (x3 + 1))]) D214_77 rfl rfl rfl) <| e_goto (q1 := 51) D214_80 rfl
theorem b214_83 {d : Nat} {i0 : Nat} {x1 x2 x3 : Int} {I L : Nat → Nat → Nat → Int} {t : Nat → Nat} (g1 : 0 ≤ x1 ∧ x1 < 20) (g2 : 0 ≤ I 82 i0 x1.toNat ∧ I 82 i0 x1.toNat < 132) (g3 : 0 ≤ I 12 i0 1 ∧ I 12 i0 1 < 132) (g4 : 0 ≤ (up3 I 49 i0 (I 12 i0 1).toNat (I 49 i0 (I 82 i0 x1.toNat).toNat)) 12 i0 1 ∧ (up3 I 49 i0 (I 12 i0 1).toNat (I 49 i0 (I 82 i0 x1.toNat).toNat)) 12 i0 1 < 120) : Res (d + 1) 214 83 [vr 12 i0, vi x1, vi x2, vi x3] [] (mk I L t) = (Cal d 213 [vr 12 i0] (mk (up3 (up3 I 49 i0 (I 12 i0 1).toNat (I 49 i0 (I 82 i0 x1.toNat).toNat)) 50 i0 ((up3 I 49 i0 (I 12 i0 1).toNat (I 49 i0 (I 82 i0 x1.toNat).toNat)) 12 i0 1).toNat x1) L t)).bind fun v => Res (d + 1) 214 117 [vr 12 i0, vi x1, vi x2, vi x3] (psh 213 v.1 []) v.2 :=
  Eq.trans (e_aload_n D214_83 rfl rfl) <| Eq.trans (e_getP (p := (49, i0)) D214_84 rfl o_214 f_12_13 (sh_12 _) (by decide) (pp_12_6 _ _)) <| Eq.trans (e_aload_n D214_87 rfl rfl) <| Eq.trans (e_getI D214_88 rfl o_214 f_12_216 (sh_12 _) (by decide)) <| Eq.trans (e_aload_n D214_91 rfl rfl) <| Eq.trans (e_getP (p := (49, i0)) D214_92 rfl o_214 f_12_13 (sh_12 _) (by decide) (pp_12_6 _ _)) <| Eq.trans (e_aload_n D214_95 rfl rfl) <| Eq.trans (e_getP (p := (82, i0)) D214_96 rfl o_214 f_12_117 (sh_12 _) (by decide) (pp_12_60 _ _)) <| Eq.trans (e_iload_n D214_99 rfl rfl) <| Eq.trans (e_iald D214_100 rfl (al_82 _) g1) <| Eq.trans (e_iald D214_101 rfl (al_49 _) g2) <| Eq.trans (e_iast D214_102 rfl (al_49 _) rfl g3) <| Eq.trans (e_aload_n D214_103 rfl rfl) <| Eq.trans (e_getP (p := (50, i0)) D214_104 rfl o_214 f_12_16 (sh_12 _) (by decide) (pp_12_7 _ _)) <| Eq.trans (e_aload_n D214_107 rfl rfl) <| Eq.trans (e_getI D214_108 rfl o_214 f_12_216 (sh_12 _) (by decide)) <| Eq.trans (e_iload_n D214_111 rfl rfl) <| Eq.trans (e_iast D214_112 rfl (al_50 _) rfl g4) <| Eq.trans (e_aload_n D214_113 rfl rfl) <| e_callV D214_114 rfl o_214 m_12_505 (by decide) rfl rfl
theorem b214_117 {d : Nat} {i0 : Nat} {x1 x2 x3 : Int} {I L : Nat → Nat → Nat → Int} {t : Nat → Nat} : Res (d + 1) 214 117 [vr 12 i0, vi x1, vi x2, vi x3] [] (mk I L t) = (Cal d 197 [vr 12 i0, vi x1] (mk I L t)).bind fun v => Res (d + 1) 214 122 [vr 12 i0, vi x1, vi x2, vi x3] (psh 197 v.1 []) v.2 :=
  Eq.trans (e_aload_n D214_117 rfl rfl) <| Eq.trans (e_iload_n D214_118 rfl rfl) <| e_callV D214_119 rfl o_214 m_12_456 (by decide) rfl rfl
theorem b214_122 {d : Nat} {i0 : Nat} {x1 x2 x3 : Int} {I L : Nat → Nat → Nat → Int} {t : Nat → Nat} : Res (d + 1) 214 122 [vr 12 i0, vi x1, vi x2, vi x3] [] (mk I L t) = (Cal d 195 [vr 12 i0, vi 2, vi x1, vi (I 12 i0 1)] (mk I L t)).bind fun v => Res (d + 1) 214 132 [vr 12 i0, vi x1, vi x2, vi x3] (psh 195 v.1 []) v.2 :=
  Eq.trans (e_aload_n D214_122 rfl rfl) <| Eq.trans (e_iconst (x := 2) D214_123 rfl rfl) <| Eq.trans (e_iload_n D214_124 rfl rfl) <| Eq.trans (e_aload_n D214_125 rfl rfl) <| Eq.trans (e_getI D214_126 rfl o_214 f_12_216 (sh_12 _) (by decide)) <| e_callV D214_129 rfl o_214 m_12_465 (by decide) rfl rfl
theorem b214_132 {d : Nat} {i0 : Nat} {x1 x2 x3 : Int} {I L : Nat → Nat → Nat → Int} {t : Nat → Nat} : Res d 214 132 [vr 12 i0, vi x1, vi x2, vi x3] [] (mk I L t) = some (vi (w32 (((up3 I 12 i0 1 (w32 ((I 12 i0 1) + 1))) 12 i0 1) - 1)), (mk (up3 I 12 i0 1 (w32 ((I 12 i0 1) + 1))) L t)) :=
  Eq.trans (e_aload_n D214_132 rfl rfl) <| Eq.trans (e_dup D214_133 rfl) <| Eq.trans (e_getI D214_134 rfl o_214 f_12_216 (sh_12 _) (by decide)) <| Eq.trans (e_iconst (x := 1) D214_137 rfl rfl) <| Eq.trans (e_iadd D214_138 rfl) <| Eq.trans (e_putI D214_139 rfl o_214 f_12_216 (sh_12 _) rfl (by decide) (Or.inl (by decide))) <| Eq.trans (e_aload_n D214_142 rfl rfl) <| Eq.trans (e_getI D214_143 rfl o_214 f_12_216 (sh_12 _) (by decide)) <| Eq.trans (e_iconst (x := 1) D214_146 rfl rfl) <| Eq.trans (e_isub D214_147 rfl) <| e_iret D214_148 rfl
/-! m_between -/
theorem cc_215 : cod 215 = cX12_between := rfl
theorem D215_0 : decode (cod 215) 0 = .ok (.iconst 0, 1) := by rw [cc_215]; decide +kernel
theorem D215_1 : decode (cod 215) 1 = .ok (.istore_n 3, 1) := by rw [cc_215]; decide +kernel
theorem D215_2 : decode (cod 215) 2 = .ok (.iconst 0, 1) := by rw [cc_215]; decide +kernel
theorem D215_3 : decode (cod 215) 3 = .ok (.istore 4, 2) := by rw [cc_215]; decide +kernel
theorem D215_5 : decode (cod 215) 5 = .ok (.iload 4, 2) := by rw [cc_215]; decide +kernel
theorem D215_7 : decode (cod 215) 7 = .ok (.bipush 16, 2) := by rw [cc_215]; decide +kernel
theorem D215_9 : decode (cod 215) 9 = .ok (.if_icmp .ge 39, 3) := by rw [cc_215]; decide +kernel
theorem D215_12 : decode (cod 215) 12 = .ok (.iload_n 3, 1) := by rw [cc_215]; decide +kernel
theorem D215_13 : decode (cod 215) 13 = .ok (.aload_n 0, 1) := by rw [cc_215]; decide +kernel
theorem D215_14 : decode (cod 215) 14 = .ok (.getfield 7, 3) := by rw [cc_215]; decide +kernel
theorem D215_17 : decode (cod 215) 17 = .ok (.bipush 16, 2) := by rw [cc_215]; decide +kernel
theorem D215_19 : decode (cod 215) 19 = .ok (.iload_n 1, 1) := by rw [cc_215]; decide +kernel
theorem D215_20 : decode (cod 215) 20 = .ok (.imul, 1) := by rw [cc_215]; decide +kernel
theorem D215_21 : decode (cod 215) 21 = .ok (.iload 4, 2) := by rw [cc_215]; decide +kernel
theorem D215_23 : decode (cod 215) 23 = .ok (.iadd, 1) := by rw [cc_215]; decide +kernel
theorem D215_24 : decode (cod 215) 24 = .ok (.iaload, 1) := by rw [cc_215]; decide +kernel
theorem D215_25 : decode (cod 215) 25 = .ok (.aload_n 0, 1) := by rw [cc_215]; decide +kernel
theorem D215_26 : decode (cod 215) 26 = .ok (.getfield 7, 3) := by rw [cc_215]; decide +kernel
theorem D215_29 : decode (cod 215) 29 = .ok (.bipush 16, 2) := by rw [cc_215]; decide +kernel
theorem D215_31 : decode (cod 215) 31 = .ok (.iload_n 2, 1) := by rw [cc_215]; decide +kernel
theorem D215_32 : decode (cod 215) 32 = .ok (.imul, 1) := by rw [cc_215]; decide +kernel
theorem D215_33 : decode (cod 215) 33 = .ok (.iload 4, 2) := by rw [cc_215]; decide +kernel
theorem D215_35 : decode (cod 215) 35 = .ok (.iadd, 1) := by rw [cc_215]; decide +kernel
theorem D215_36 : decode (cod 215) 36 = .ok (.iaload, 1) := by rw [cc_215]; decide +kernel
theorem D215_37 : decode (cod 215) 37 = .ok (.invokestatic 422, 3) := by rw [cc_215]; decide +kernel
theorem D215_40 : decode (cod 215) 40 = .ok (.iadd, 1) := by rw [cc_215]; decide +kernel
theorem D215_41 : decode (cod 215) 41 = .ok (.istore_n 3, 1) := by rw [cc_215]; decide +kernel
theorem D215_42 : decode (cod 215) 42 = .ok (.iinc 4 1, 3) := by rw [cc_215]; decide +kernel
theorem D215_45 : decode (cod 215) 45 = .ok (.goto (-40), 3) := by rw [cc_215]; decide +kernel
theorem D215_48 : decode (cod 215) 48 = .ok (.iload_n 3, 1) := by rw [cc_215]; decide +kernel
theorem D215_49 : decode (cod 215) 49 = .ok (.ireturn, 1) := by rw [cc_215]; decide +kernel
theorem b215_0 {d : Nat} {i0 : Nat} {x1 x2 : Int} {I L : Nat → Nat → Nat → Int} {t : Nat → Nat} : Res d 215 0 [vr 12 i0, vi x1, vi x2, vx, vx] [] (mk I L t) = Res d 215 5 [vr 12 i0, vi x1, vi x2, vi 0, vi 0] [] (mk I L t) :=
  Eq.trans (e_iconst (x := 0) D215_0 rfl rfl) <| Eq.trans (e_istore_n (ls1 := [vr 12 i0, vi x1, vi x2, vi 0, vx]) D215_1 rfl (show 3 < 5 by decide) rfl) <| Eq.trans (e_iconst (x := 0) D215_2 rfl rfl) <| e_istore (ls1 := [vr 12 i0, vi x1, vi x2, vi 0, vi 0]) D215_3 rfl (show 4 < 5 by decide) rfl
theorem b215_5 {d : Nat} {i0 : Nat} {x1 x2 x3 x4 : Int} {I L : Nat → Nat → Nat → Int} {t : Nat → Nat} : Res d 215 5 [vr 12 i0, vi x1, vi x2, vi x3, vi x4] [] (mk I L t) = if 16 ≤ x4 then Res d 215 48 [vr 12 i0, vi x1, vi x2, vi x3, vi x4] [] (mk I L t) else Res d 215 12 [vr 12 i0, vi x1, vi x2, vi x3, vi x4] [] (mk I L t) :=
  Eq.trans (e_iload D215_5 rfl rfl) <| Eq.trans (e_bipush (x := 16) D215_7 rfl rfl) <| e_icge D215_9 rfl rfl
theorem b215_12 {d : Nat} {i0 : Nat} {x1 x2 x3 x4 : Int} {I L : Nat → Nat → Nat → Int} {t : Nat → Nat} (g1 : 0 ≤ w32 ((w32 (16 * x1)) + x4) ∧ w32 ((w32 (16 * x1)) + x4) < 2112) (g2 : 0 ≤ w32 ((w32 (16 * x2)) + x4) ∧ w32 ((w32 (16 * x2)) + x4) < 2112) : Res (d + 1) 215 12 [vr 12 i0, vi x1, vi x2, vi x3, vi x4] [] (mk I L t) = (Cal d 186 [vi (I 48 i0 (w32 ((w32 (16 * x1)) + x4)).toNat), vi (I 48 i0 (w32 ((w32 (16 * x2)) + x4)).toNat)] (mk I L t)).bind fun v => Res (d + 1) 215 40 [vr 12 i0, vi x1, vi x2, vi x3, vi x4] (psh 186 v.1 [vi x3]) v.2 :=
  Eq.trans (e_iload_n D215_12 rfl rfl) <| Eq.trans (e_aload_n D215_13 rfl rfl) <| Eq.trans (e_getP (p := (48, i0)) D215_14 rfl o_215 f_12_7 (sh_12 _) (by decide) (pp_12_5 _ _)) <| Eq.trans (e_bipush (x := 16) D215_17 rfl rfl) <| Eq.trans (e_iload_n D215_19 rfl rfl) <| Eq.trans (e_imul D215_20 rfl) <| Eq.trans (e_iload D215_21 rfl rfl) <| Eq.trans (e_iadd D215_23 rfl) <| Eq.trans (e_iald D215_24 rfl (al_48 _) g1) <| Eq.trans (e_aload_n D215_25 rfl rfl) <| Eq.trans (e_getP (p := (48, i0)) D215_26 rfl o_215 f_12_7 (sh_12 _) (by decide) (pp_12_5 _ _)) <| Eq.trans (e_bipush (x := 16) D215_29 rfl rfl) <| Eq.trans (e_iload_n D215_31 rfl rfl) <| Eq.trans (e_imul D215_32 rfl) <| Eq.trans (e_iload D215_33 rfl rfl) <| Eq.trans (e_iadd D215_35 rfl) <| Eq.trans (e_iald D215_36 rfl (al_48 _) g2) <| e_callS D215_37 rfl o_215 m_12_422 (by decide) rfl rfl
theorem b215_40 {d : Nat} {i0 : Nat} {x1 x2 x3 x4 xs1 xs0 : Int} {I L : Nat → Nat → Nat → Int} {t : Nat → Nat} : Res d 215 40 [vr 12 i0, vi x1, vi x2, vi x3, vi x4] [vi xs1, vi xs0] (mk I L t) = Res d 215 5 [vr 12 i0, vi x1, vi x2, vi (w32 (xs0 + xs1)), vi (w32 (x4 + 1))] [] (mk I L t) :=
  Eq.trans (e_iadd D215_40 rfl) <| Eq.trans (e_istore_n (ls1 := [vr 12 i0, vi x1, vi x2, vi (w32 (xs0 + xs1)), vi x4]) D215_41 rfl (show 3 < 5 by decide) rfl) <| Eq.trans (e_iinc (ls1 := [vr 12 i0, vi x1, vi x2, vi (w32 (xs0 + xs1)), vi (w32 (x4 + 1))]) D215_42 rfl rfl rfl) <| e_goto (q1 := 5) D215_45 rfl
theorem b215_48 {d : Nat} {i0 : Nat} {x1 x2 x3 x4 : Int} {I L : Nat → Nat → Nat → Int} {t : Nat → Nat} : Res d 215 48 [vr 12 i0, vi x1, vi x2, vi x3, vi x4] [] (mk I L t) = some (vi x3, (mk I L t)) :=
  Eq.trans (e_iload_n D215_48 rfl rfl) <| e_iret D215_49 rfl
/-! m_known -/
theorem cc_216 : cod 216 = cX12_known := rfl
theorem D216_0 : decode (cod 216) 0 = .ok (.aload_n 0, 1) := by rw [cc_216]; decide +kernel
theorem D216_1 : decode (cod 216) 1 = .ok (.iload_n 1, 1) := by rw [cc_216]; decide +kernel
theorem D216_2 : decode (cod 216) 2 = .ok (.invokevirtual 469, 3) := by rw [cc_216]; decide +kernel
theorem D216_5 : decode (cod 216) 5 = .ok (.ifCond .eq 20, 3) := by rw [cc_216]; decide +kernel
theorem D216_8 : decode (cod 216) 8 = .ok (.aload_n 0, 1) := by rw [cc_216]; decide +kernel
theorem D216_9 : decode (cod 216) 9 = .ok (.iload_n 2, 1) := by rw [cc_216]; decide +kernel
theorem D216_10 : decode (cod 216) 10 = .ok (.invokevirtual 230, 3) := by rw [cc_216]; decide +kernel
theorem D216_13 : decode (cod 216) 13 = .ok (.ifCond .eq 12, 3) := by rw [cc_216]; decide +kernel
theorem D216_16 : decode (cod 216) 16 = .ok (.iload_n 3, 1) := by rw [cc_216]; decide +kernel
theorem D216_17 : decode (cod 216) 17 = .ok (.iconst 0, 1) := by rw [cc_216]; decide +kernel
theorem D216_18 : decode (cod 216) 18 = .ok (.iconst 1, 1) := by rw [cc_216]; decide +kernel
theorem D216_19 : decode (cod 216) 19 = .ok (.invokestatic 219, 3) := by rw [cc_216]; decide +kernel
theorem D216_22 : decode (cod 216) 22 = .ok (.ifCond .ne 5, 3) := by rw [cc_216]; decide +kernel
theorem D216_25 : decode (cod 216) 25 = .ok (.iconst (-1), 1) := by rw [cc_216]; decide +kernel
theorem D216_26 : decode (cod 216) 26 = .ok (.ireturn, 1) := by rw [cc_216]; decide +kernel
theorem D216_27 : decode (cod 216) 27 = .ok (.aload_n 0, 1) := by rw [cc_216]; decide +kernel
theorem D216_28 : decode (cod 216) 28 = .ok (.iload_n 2, 1) := by rw [cc_216]; decide +kernel
theorem D216_29 : decode (cod 216) 29 = .ok (.aload_n 0, 1) := by rw [cc_216]; decide +kernel
theorem D216_30 : decode (cod 216) 30 = .ok (.getfield 117, 3) := by rw [cc_216]; decide +kernel
theorem D216_33 : decode (cod 216) 33 = .ok (.iload_n 1, 1) := by rw [cc_216]; decide +kernel
theorem D216_34 : decode (cod 216) 34 = .ok (.iaload, 1) := by rw [cc_216]; decide +kernel
theorem D216_35 : decode (cod 216) 35 = .ok (.invokevirtual 508, 3) := by rw [cc_216]; decide +kernel
theorem D216_38 : decode (cod 216) 38 = .ok (.istore 4, 2) := by rw [cc_216]; decide +kernel
theorem D216_40 : decode (cod 216) 40 = .ok (.iload_n 3, 1) := by rw [cc_216]; decide +kernel
theorem D216_41 : decode (cod 216) 41 = .ok (.ifCond .ne 6, 3) := by rw [cc_216]; decide +kernel
theorem D216_44 : decode (cod 216) 44 = .ok (.iload 4, 2) := by rw [cc_216]; decide +kernel
theorem D216_46 : decode (cod 216) 46 = .ok (.ireturn, 1) := by rw [cc_216]; decide +kernel
theorem D216_47 : decode (cod 216) 47 = .ok (.iconst 0, 1) := by rw [cc_216]; decide +kernel
theorem D216_48 : decode (cod 216) 48 = .ok (.istore 5, 2) := by rw [cc_216]; decide +kernel
theorem D216_50 : decode (cod 216) 50 = .ok (.iconst 0, 1) := by rw [cc_216]; decide +kernel
theorem D216_51 : decode (cod 216) 51 = .ok (.istore 6, 2) := by rw [cc_216]; decide +kernel
theorem D216_53 : decode (cod 216) 53 = .ok (.iload 6, 2) := by rw [cc_216]; decide +kernel
theorem D216_55 : decode (cod 216) 55 = .ok (.aload_n 0, 1) := by rw [cc_216]; decide +kernel
theorem D216_56 : decode (cod 216) 56 = .ok (.getfield 216, 3) := by rw [cc_216]; decide +kernel
theorem D216_59 : decode (cod 216) 59 = .ok (.if_icmp .ge 47, 3) := by rw [cc_216]; decide +kernel
theorem D216_62 : decode (cod 216) 62 = .ok (.iload 5, 2) := by rw [cc_216]; decide +kernel
theorem D216_64 : decode (cod 216) 64 = .ok (.iload 6, 2) := by rw [cc_216]; decide +kernel
theorem D216_66 : decode (cod 216) 66 = .ok (.aload_n 0, 1) := by rw [cc_216]; decide +kernel
theorem D216_67 : decode (cod 216) 67 = .ok (.getfield 117, 3) := by rw [cc_216]; decide +kernel
theorem D216_70 : decode (cod 216) 70 = .ok (.iload_n 1, 1) := by rw [cc_216]; decide +kernel
theorem D216_71 : decode (cod 216) 71 = .ok (.iaload, 1) := by rw [cc_216]; decide +kernel
theorem D216_72 : decode (cod 216) 72 = .ok (.if_icmp .eq 24, 3) := by rw [cc_216]; decide +kernel
theorem D216_75 : decode (cod 216) 75 = .ok (.aload_n 0, 1) := by rw [cc_216]; decide +kernel
theorem D216_76 : decode (cod 216) 76 = .ok (.iload 6, 2) := by rw [cc_216]; decide +kernel
theorem D216_78 : decode (cod 216) 78 = .ok (.aload_n 0, 1) := by rw [cc_216]; decide +kernel
theorem D216_79 : decode (cod 216) 79 = .ok (.getfield 117, 3) := by rw [cc_216]; decide +kernel
theorem D216_82 : decode (cod 216) 82 = .ok (.iload_n 1, 1) := by rw [cc_216]; decide +kernel
theorem D216_83 : decode (cod 216) 83 = .ok (.iaload, 1) := by rw [cc_216]; decide +kernel
theorem D216_84 : decode (cod 216) 84 = .ok (.invokevirtual 508, 3) := by rw [cc_216]; decide +kernel
theorem D216_87 : decode (cod 216) 87 = .ok (.iload 4, 2) := by rw [cc_216]; decide +kernel
theorem D216_89 : decode (cod 216) 89 = .ok (.if_icmp .ge 7, 3) := by rw [cc_216]; decide +kernel
theorem D216_92 : decode (cod 216) 92 = .ok (.iconst 1, 1) := by rw [cc_216]; decide +kernel
theorem D216_93 : decode (cod 216) 93 = .ok (.goto 4, 3) := by rw [cc_216]; decide +kernel
theorem D216_96 : decode (cod 216) 96 = .ok (.iconst 0, 1) := by rw [cc_216]; decide +kernel
theorem D216_97 : decode (cod 216) 97 = .ok (.iadd, 1) := by rw [cc_216]; decide +kernel
theorem D216_98 : decode (cod 216) 98 = .ok (.istore 5, 2) := by rw [cc_216]; decide +kernel
theorem D216_100 : decode (cod 216) 100 = .ok (.iinc 6 1, 3) := by rw [cc_216]; decide +kernel
theorem D216_103 : decode (cod 216) 103 = .ok (.goto (-50), 3) := by rw [cc_216]; decide +kernel
theorem D216_106 : decode (cod 216) 106 = .ok (.iload 5, 2) := by rw [cc_216]; decide +kernel
theorem D216_108 : decode (cod 216) 108 = .ok (.ireturn, 1) := by rw [cc_216]; decide +kernel
theorem b216_0 {d : Nat} {i0 : Nat} {x1 x2 x3 : Int} {I L : Nat → Nat → Nat → Int} {t : Nat → Nat} : Res (d + 1) 216 0 [vr 12 i0, vi x1, vi x2, vi x3, vx, vx, vx] [] (mk I L t) = (Cal d 150 [vr 12 i0, vi x1] (mk I L t)).bind fun v => Res (d + 1) 216 5 [vr 12 i0, vi x1, vi x2, vi x3, vx, vx, vx] (psh 150 v.1 []) v.2 :=
  Eq.trans (e_aload_n D216_0 rfl rfl) <| Eq.trans (e_iload_n D216_1 rfl rfl) <| e_callV D216_2 rfl o_216 m_12_469 (by decide) rfl rfl
theorem b216_5 {d : Nat} {i0 : Nat} {x1 x2 x3 xs0 : Int} {I L : Nat → Nat → Nat → Int} {t : Nat → Nat} : Res d 216 5 [vr 12 i0, vi x1, vi x2, vi x3, vx, vx, vx] [vi xs0] (mk I L t) = if xs0 = 0 then Res d 216 25 [vr 12 i0, vi x1, vi x2, vi x3, vx, vx, vx] [] (mk I L t) else Res d 216 8 [vr 12 i0, vi x1, vi x2, vi x3, vx, vx, vx] [] (mk I L t) :=
  e_ifeq D216_5 rfl rfl
theorem b216_8 {d : Nat} {i0 : Nat} {x1 x2 x3 : Int} {I L : Nat → Nat → Nat → Int} {t : Nat → Nat} : Res (d + 1) 216 8 [vr 12 i0, vi x1, vi x2, vi x3, vx, vx, vx] [] (mk I L t) = (Cal d 147 [vr 12 i0, vi x2] (mk I L t)).bind fun v => Res (d + 1) 216 13 [vr 12 i0, vi x1, vi x2, vi x3, vx, vx, vx] (psh 147 v.1 []) v.2 :=
  Eq.trans (e_aload_n D216_8 rfl rfl) <| Eq.trans (e_iload_n D216_9 rfl rfl) <| e_callV D216_10 rfl o_216 m_12_230 (by decide) rfl rfl
theorem b216_13 {d : Nat} {i0 : Nat} {x1 x2 x3 xs0 : Int} {I L : Nat → Nat → Nat → Int} {t : Nat → Nat} : Res d 216 13 [vr 12 i0, vi x1, vi x2, vi x3, vx, vx, vx] [vi xs0] (mk I L t) = if xs0 = 0 then Res d 216 25 [vr 12 i0, vi x1, vi x2, vi x3, vx, vx, vx] [] (mk I L t) else Res d 216 16 [vr 12 i0, vi x1, vi x2, vi x3, vx, vx, vx] [] (mk I L t) :=
  e_ifeq D216_13 rfl rfl
theorem b216_16 {d : Nat} {i0 : Nat} {x1 x2 x3 : Int} {I L : Nat → Nat → Nat → Int} {t : Nat → Nat} : Res (d + 1) 216 16 [vr 12 i0, vi x1, vi x2, vi x3, vx, vx, vx] [] (mk I L t) = (Cal d 146 [vi x3, vi 0, vi 1] (mk I L t)).bind fun v => Res (d + 1) 216 22 [vr 12 i0, vi x1, vi x2, vi x3, vx, vx, vx] (psh 146 v.1 []) v.2 :=
  Eq.trans (e_iload_n D216_16 rfl rfl) <| Eq.trans (e_iconst (x := 0) D216_17 rfl rfl) <| Eq.trans (e_iconst (x := 1) D216_18 rfl rfl) <| e_callS D216_19 rfl o_216 m_12_219 (by decide) rfl rfl
theorem b216_22 {d : Nat} {i0 : Nat} {x1 x2 x3 xs0 : Int} {I L : Nat → Nat → Nat → Int} {t : Nat → Nat} : Res d 216 22 [vr 12 i0, vi x1, vi x2, vi x3, vx, vx, vx] [vi xs0] (mk I L t) = if ¬ xs0 = 0 then Res d 216 27 [vr 12 i0, vi x1, vi x2, vi x3, vx, vx, vx] [] (mk I L t) else Res d 216 25 [vr 12 i0, vi x1, vi x2, vi x3, vx, vx, vx] [] (mk I L t) :=
  e_ifne D216_22 rfl rfl
theorem b216_25 {d : Nat} {i0 : Nat} {x1 x2 x3 : Int} {I L : Nat → Nat → Nat → Int} {t : Nat → Nat} : Res d 216 25 [vr 12 i0, vi x1, vi x2, vi x3, vx, vx, vx] [] (mk I L t) = some (vi (-1), (mk I L t)) :=
  Eq.trans (e_iconst (x := -1) D216_25 rfl rfl) <| e_iret D216_26 rfl
theorem b216_27 {d : Nat} {i0 : Nat} {x1 x2 x3 : Int} {I L : Nat → Nat → Nat → Int} {t : Nat → Nat} (g1 : 0 ≤ x1 ∧ x1 < 20) : Res (d + 1) 216 27 [vr 12 i0, vi x1, vi x2, vi x3, vx, vx, vx] [] (mk I L t) = (Cal d 215 [vr 12 i0, vi x2, vi (I 82 i0 x1.toNat)] (mk I L t)).bind fun v => Res (d + 1) 216 38 [vr 12 i0, vi x1, vi x2, vi x3, vx, vx, vx] (psh 215 v.1 []) v.2 :=
  Eq.trans (e_aload_n D216_27 rfl rfl) <| Eq.trans (e_iload_n D216_28 rfl rfl) <| Eq.trans (e_aload_n D216_29 rfl rfl) <| Eq.trans (e_getP (p := (82, i0)) D216_30 rfl o_216 f_12_117 (sh_12 _) (by decide) (pp_12_60 _ _)) <| Eq.trans (e_iload_n D216_33 rfl rfl) <| Eq.trans (e_iald D216_34 rfl (al_82 _) g1) <| e_callV D216_35 rfl o_216 m_12_508 (by decide) rfl rfl
theorem b216_38 {d : Nat} {i0 : Nat} {x1 x2 x3 xs0 : Int} {I L : Nat → Nat → Nat → Int} {t : Nat → Nat} : Res d 216 38 [vr 12 i0, vi x1, vi x2, vi x3, vx, vx, vx] [vi xs0] (mk I L t) = if ¬ x3 = 0 then Res d 216 47 [vr 12 i0, vi x1, vi x2, vi x3, vi xs0, vx, vx] [] (mk I L t) else Res d 216 44 [vr 12 i0, vi x1, vi x2, vi x3, vi xs0, vx, vx] [] (mk I L t) :=
  Eq.trans (e_istore (ls1 := [vr 12 i0, vi x1, vi x2, vi x3, vi xs0, vx, vx]) D216_38 rfl (show 4 < 7 by decide) rfl) <| Eq.trans (e_iload_n D216_40 rfl rfl) <| e_ifne D216_41 rfl rfl
theorem b216_44 {d : Nat} {i0 : Nat} {x1 x2 x3 x4 : Int} {I L : Nat → Nat → Nat → Int} {t : Nat → Nat} : Res d 216 44 [vr 12 i0, vi x1, vi x2, vi x3, vi x4, vx, vx] [] (mk I L t) = some (vi x4, (mk I L t)) :=
  Eq.trans (e_iload D216_44 rfl rfl) <| e_iret D216_46 rfl
theorem b216_47 {d : Nat} {i0 : Nat} {x1 x2 x3 x4 : Int} {I L : Nat → Nat → Nat → Int} {t : Nat → Nat} : Res d 216 47 [vr 12 i0, vi x1, vi x2, vi x3, vi x4, vx, vx] [] (mk I L t) = Res d 216 53 [vr 12 i0, vi x1, vi x2, vi x3, vi x4, vi 0, vi 0] [] (mk I L t) :=
  Eq.trans (e_iconst (x := 0) D216_47 rfl rfl) <| Eq.trans (e_istore (ls1 := [vr 12 i0, vi x1, vi x2, vi x3, vi x4, vi 0, vx]) D216_48 rfl (show 5 < 7 by decide) rfl) <| Eq.trans (e_iconst (x := 0) D216_50 rfl rfl) <| e_istore (ls1 := [vr 12 i0, vi x1, vi x2, vi x3, vi x4, vi 0, vi 0]) D216_51 rfl (show 6 < 7 by decide) rfl
theorem b216_53 {d : Nat} {i0 : Nat} {x1 x2 x3 x4 x5 x6 : Int} {I L : Nat → Nat → Nat → Int} {t : Nat → Nat} : Res d 216 53 [vr 12 i0, vi x1, vi x2, vi x3, vi x4, vi x5, vi x6] [] (mk I L t) = if I 12 i0 1 ≤ x6 then Res d 216 106 [vr 12 i0, vi x1, vi x2, vi x3, vi x4, vi x5, vi x6] [] (mk I L t) else Res d 216 62 [vr 12 i0, vi x1, vi x2, vi x3, vi x4, vi x5, vi x6] [] (mk I L t) :=
  Eq.trans (e_iload D216_53 rfl rfl) <| Eq.trans (e_aload_n D216_55 rfl rfl) <| Eq.trans (e_getI D216_56 rfl o_216 f_12_216 (sh_12 _) (by decide)) <| e_icge D216_59 rfl rfl
theorem b216_62 {d : Nat} {i0 : Nat} {x1 x2 x3 x4 x5 x6 : Int} {I L : Nat → Nat → Nat → Int} {t : Nat → Nat} (g1 : 0 ≤ x1 ∧ x1 < 20) : Res d 216 62 [vr 12 i0, vi x1, vi x2, vi x3, vi x4, vi x5, vi x6] [] (mk I L t) = if x6 = I 82 i0 x1.toNat then Res d 216 96 [vr 12 i0, vi x1, vi x2, vi x3, vi x4, vi x5, vi x6] [vi x5] (mk I L t) else Res d 216 75 [vr 12 i0, vi x1, vi x2, vi x3, vi x4, vi x5, vi x6] [vi x5] (mk I L t) :=
  Eq.trans (e_iload D216_62 rfl rfl) <| Eq.trans (e_iload D216_64 rfl rfl) <| Eq.trans (e_aload_n D216_66 rfl rfl) <| Eq.trans (e_getP (p := (82, i0)) D216_67 rfl o_216 f_12_117 (sh_12 _) (by decide) (pp_12_60 _ _)) <| Eq.trans (e_iload_n D216_70 rfl rfl) <| Eq.trans (e_iald D216_71 rfl (al_82 _) g1) <| e_iceq D216_72 rfl rfl
theorem b216_75 {d : Nat} {i0 : Nat} {x1 x2 x3 x4 x5 x6 xs0 : Int} {I L : Nat → Nat → Nat → Int} {t : Nat → Nat} (g1 : 0 ≤ x1 ∧ x1 < 20) : Res (d + 1) 216 75 [vr 12 i0, vi x1, vi x2, vi x3, vi x4, vi x5, vi x6] [vi xs0] (mk I L t) = (Cal d 215 [vr 12 i0, vi x6, vi (I 82 i0 x1.toNat)] (mk I L t)).bind fun v => Res (d + 1) 216 87 [vr 12 i0, vi x1, vi x2, vi x3, vi x4, vi x5, vi x6] (psh 215 v.1 [vi xs0]) v.2 :=
  Eq.trans (e_aload_n D216_75 rfl rfl) <| Eq.trans (e_iload D216_76 rfl rfl) <| Eq.trans (e_aload_n D216_78 rfl rfl) <| Eq.trans (e_getP (p := (82, i0)) D216_79 rfl o_216 f_12_117 (sh_12 _) (by decide) (pp_12_60 _ _)) <| Eq.trans (e_iload_n D216_82 rfl rfl) <| Eq.trans (e_iald D216_83 rfl (al_82 _) g1) <| e_callV D216_84 rfl o_216 m_12_508 (by decide) rfl rfl
theorem b216_87 {d : Nat} {i0 : Nat} {x1 x2 x3 x4 x5 x6 xs1 xs0 : Int} {I L : Nat → Nat → Nat → Int} {t : Nat → Nat} : Res d 216 87 [vr 12 i0, vi x1, vi x2, vi x3, vi x4, vi x5, vi x6] [vi xs1, vi xs0] (mk I L t) = if x4 ≤ xs1 then Res d 216 96 [vr 12 i0, vi x1, vi x2, vi x3, vi x4, vi x5, vi x6] [vi xs0] (mk I L t) else Res d 216 92 [vr 12 i0, vi x1, vi x2, vi x3, vi x4, vi x5, vi x6] [vi xs0] (mk I L t) :=
  Eq.trans (e_iload D216_87 rfl rfl) <| e_icge D216_89 rfl rfl
theorem b216_92 {d : Nat} {i0 : Nat} {x1 x2 x3 x4 x5 x6 xs0 : Int} {I L : Nat → Nat → Nat → Int} {t : Nat → Nat} : Res d 216 92 [vr 12 i0, vi x1, vi x2, vi x3, vi x4, vi x5, vi x6] [vi xs0] (mk I L t) = Res d 216 97 [vr 12 i0, vi x1, vi x2, vi x3, vi x4, vi x5, vi x6] [vi 1, vi xs0] (mk I L t) :=
  Eq.trans (e_iconst (x := 1) D216_92 rfl rfl) <| e_goto (q1 := 97) D216_93 rfl
theorem b216_96 {d : Nat} {i0 : Nat} {x1 x2 x3 x4 x5 x6 xs0 : Int} {I L : Nat → Nat → Nat → Int} {t : Nat → Nat} : Res d 216 96 [vr 12 i0, vi x1, vi x2, vi x3, vi x4, vi x5, vi x6] [vi xs0] (mk I L t) = Res d 216 97 [vr 12 i0, vi x1, vi x2, vi x3, vi x4, vi x5, vi x6] [vi 0, vi xs0] (mk I L t) :=
  e_iconst (x := 0) D216_96 rfl rfl
theorem b216_97 {d : Nat} {i0 : Nat} {x1 x2 x3 x4 x5 x6 xs1 xs0 : Int} {I L : Nat → Nat → Nat → Int} {t : Nat → Nat} : Res d 216 97 [vr 12 i0, vi x1, vi x2, vi x3, vi x4, vi x5, vi x6] [vi xs1, vi xs0] (mk I L t) = Res d 216 53 [vr 12 i0, vi x1, vi x2, vi x3, vi x4, vi (w32 (xs0 + xs1)), vi (w32 (x6 + 1))] [] (mk I L t) :=
  Eq.trans (e_iadd D216_97 rfl) <| Eq.trans (e_istore (ls1 := [vr 12 i0, vi x1, vi x2, vi x3, vi x4, vi (w32 (xs0 + xs1)), vi x6]) D216_98 rfl (show 5 < 7 by decide) rfl) <| Eq.trans (e_iinc (ls1 := [vr 12 i0, vi x1, vi x2, vi x3, vi x4, vi (w32 (xs0 + xs1)), vi (w32 (x6 + 1))]) D216_100 rfl rfl rfl) <| e_goto (q1 := 53) D216_103 rfl
theorem b216_106 {d : Nat} {i0 : Nat} {x1 x2 x3 x4 x5 x6 : Int} {I L : Nat → Nat → Nat → Int} {t : Nat → Nat} : Res d 216 106 [vr 12 i0, vi x1, vi x2, vi x3, vi x4, vi x5, vi x6] [] (mk I L t) = some (vi x5, (mk I L t)) :=
  Eq.trans (e_iload D216_106 rfl rfl) <| e_iret D216_108 rfl
/-! m_nearest -/
theorem cc_217 : cod 217 = cX12_nearest := rfl
theorem D217_0 : decode (cod 217) 0 = .ok (.iconst (-1), 1) := by rw [cc_217]; decide +kernel
theorem D217_1 : decode (cod 217) 1 = .ok (.istore_n 2, 1) := by rw [cc_217]; decide +kernel
theorem D217_2 : decode (cod 217) 2 = .ok (.iconst 0, 1) := by rw [cc_217]; decide +kernel
theorem D217_3 : decode (cod 217) 3 = .ok (.istore_n 3, 1) := by rw [cc_217]; decide +kernel
theorem D217_4 : decode (cod 217) 4 = .ok (.iconst 0, 1) := by rw [cc_217]; decide +kernel
theorem D217_5 : decode (cod 217) 5 = .ok (.istore 4, 2) := by rw [cc_217]; decide +kernel
theorem D217_7 : decode (cod 217) 7 = .ok (.iload 4, 2) := by rw [cc_217]; decide +kernel
theorem D217_9 : decode (cod 217) 9 = .ok (.aload_n 0, 1) := by rw [cc_217]; decide +kernel
theorem D217_10 : decode (cod 217) 10 = .ok (.getfield 236, 3) := by rw [cc_217]; decide +kernel
theorem D217_13 : decode (cod 217) 13 = .ok (.if_icmp .ge 62, 3) := by rw [cc_217]; decide +kernel
theorem D217_16 : decode (cod 217) 16 = .ok (.aload_n 0, 1) := by rw [cc_217]; decide +kernel
theorem D217_17 : decode (cod 217) 17 = .ok (.getfield 28, 3) := by rw [cc_217]; decide +kernel
theorem D217_20 : decode (cod 217) 20 = .ok (.iload 4, 2) := by rw [cc_217]; decide +kernel
theorem D217_22 : decode (cod 217) 22 = .ok (.iaload, 1) := by rw [cc_217]; decide +kernel
theorem D217_23 : decode (cod 217) 23 = .ok (.iconst (-1), 1) := by rw [cc_217]; decide +kernel
theorem D217_24 : decode (cod 217) 24 = .ok (.if_icmp .eq 45, 3) := by rw [cc_217]; decide +kernel
theorem D217_27 : decode (cod 217) 27 = .ok (.iload 4, 2) := by rw [cc_217]; decide +kernel
theorem D217_29 : decode (cod 217) 29 = .ok (.iload_n 1, 1) := by rw [cc_217]; decide +kernel
theorem D217_30 : decode (cod 217) 30 = .ok (.if_icmp .ne 6, 3) := by rw [cc_217]; decide +kernel
theorem D217_33 : decode (cod 217) 33 = .ok (.goto 36, 3) := by rw [cc_217]; decide +kernel
theorem D217_36 : decode (cod 217) 36 = .ok (.aload_n 0, 1) := by rw [cc_217]; decide +kernel
theorem D217_37 : decode (cod 217) 37 = .ok (.aload_n 0, 1) := by rw [cc_217]; decide +kernel
theorem D217_38 : decode (cod 217) 38 = .ok (.getfield 28, 3) := by rw [cc_217]; decide +kernel
theorem D217_41 : decode (cod 217) 41 = .ok (.iload 4, 2) := by rw [cc_217]; decide +kernel
theorem D217_43 : decode (cod 217) 43 = .ok (.iaload, 1) := by rw [cc_217]; decide +kernel
theorem D217_44 : decode (cod 217) 44 = .ok (.invokevirtual 438, 3) := by rw [cc_217]; decide +kernel
theorem D217_47 : decode (cod 217) 47 = .ok (.istore 5, 2) := by rw [cc_217]; decide +kernel
theorem D217_49 : decode (cod 217) 49 = .ok (.iload_n 2, 1) := by rw [cc_217]; decide +kernel
theorem D217_50 : decode (cod 217) 50 = .ok (.iconst (-1), 1) := by rw [cc_217]; decide +kernel
theorem D217_51 : decode (cod 217) 51 = .ok (.if_icmp .eq 12, 3) := by rw [cc_217]; decide +kernel
theorem D217_54 : decode (cod 217) 54 = .ok (.iload 5, 2) := by rw [cc_217]; decide +kernel
theorem D217_56 : decode (cod 217) 56 = .ok (.iload_n 3, 1) := by rw [cc_217]; decide +kernel
theorem D217_57 : decode (cod 217) 57 = .ok (.if_icmp .lt 6, 3) := by rw [cc_217]; decide +kernel
theorem D217_60 : decode (cod 217) 60 = .ok (.goto 9, 3) := by rw [cc_217]; decide +kernel
theorem D217_63 : decode (cod 217) 63 = .ok (.iload 4, 2) := by rw [cc_217]; decide +kernel
theorem D217_65 : decode (cod 217) 65 = .ok (.istore_n 2, 1) := by rw [cc_217]; decide +kernel
theorem D217_66 : decode (cod 217) 66 = .ok (.iload 5, 2) := by rw [cc_217]; decide +kernel
theorem D217_68 : decode (cod 217) 68 = .ok (.istore_n 3, 1) := by rw [cc_217]; decide +kernel
theorem D217_69 : decode (cod 217) 69 = .ok (.iinc 4 1, 3) := by rw [cc_217]; decide +kernel
theorem D217_72 : decode (cod 217) 72 = .ok (.goto (-65), 3) := by rw [cc_217]; decide +kernel
theorem D217_75 : decode (cod 217) 75 = .ok (.iload_n 2, 1) := by rw [cc_217]; decide +kernel
theorem D217_76 : decode (cod 217) 76 = .ok (.ireturn, 1) := by rw [cc_217]; decide +kernel
theorem b217_0 {d : Nat} {i0 : Nat} {x1 : Int} {I L : Nat → Nat → Nat → Int} {t : Nat → Nat} : Res d 217 0 [vr 12 i0, vi x1, vx, vx, vx, vx] [] (mk I L t) = Res d 217 7 [vr 12 i0, vi x1, vi (-1), vi 0, vi 0, vx] [] (mk I L t) :=
  Eq.trans (e_iconst (x := -1) D217_0 rfl rfl) <| Eq.trans (e_istore_n (ls1 := [vr 12 i0, vi x1, vi (-1), vx, vx, vx]) D217_1 rfl (show 2 < 6 by decide) rfl) <| Eq.trans (e_iconst (x := 0) D217_2 rfl rfl) <| Eq.trans (e_istore_n (ls1 := [vr 12 i0, vi x1, vi (-1), vi 0, vx, vx]) D217_3 rfl (show 3 < 6 by decide) rfl) <| Eq.trans (e_iconst (x := 0) D217_4 rfl rfl) <| e_istore (ls1 := [vr 12 i0, vi x1, vi (-1), vi 0, vi 0, vx]) D217_5 rfl (show 4 < 6 by decide) rfl
theorem b217_7 {d : Nat} {i0 : Nat} {x1 x2 x3 x4 : Int} {u5 : MV} {I L : Nat → Nat → Nat → Int} {t : Nat → Nat} : Res d 217 7 [vr 12 i0, vi x1, vi x2, vi x3, vi x4, u5] [] (mk I L t) = if I 12 i0 12 ≤ x4 then Res d 217 75 [vr 12 i0, vi x1, vi x2, vi x3, vi x4, u5] [] (mk I L t) else Res d 217 16 [vr 12 i0, vi x1, vi x2, vi x3, vi x4, u5] [] (mk I L t) :=
  Eq.trans (e_iload D217_7 rfl rfl) <| Eq.trans (e_aload_n D217_9 rfl rfl) <| Eq.trans (e_getI D217_10 rfl o_217 f_12_236 (sh_12 _) (by decide)) <| e_icge D217_13 rfl rfl
theorem b217_16 {d : Nat} {i0 : Nat} {x1 x2 x3 x4 : Int} {u5 : MV} {I L : Nat → Nat → Nat → Int} {t : Nat → Nat} (g1 : 0 ≤ x4 ∧ x4 < 9) : Res d 217 16 [vr 12 i0, vi x1, vi x2, vi x3, vi x4, u5] [] (mk I L t) = if I 54 i0 x4.toNat = -1 then Res d 217 69 [vr 12 i0, vi x1, vi x2, vi x3, vi x4, u5] [] (mk I L t) else Res d 217 27 [vr 12 i0, vi x1, vi x2, vi x3, vi x4, u5] [] (mk I L t) :=
  Eq.trans (e_aload_n D217_16 rfl rfl) <| Eq.trans (e_getP (p := (54, i0)) D217_17 rfl o_217 f_12_28 (sh_12 _) (by decide) (pp_12_11 _ _)) <| Eq.trans (e_iload D217_20 rfl rfl) <| Eq.trans (e_iald D217_22 rfl (al_54 _) g1) <| Eq.trans (e_iconst (x := -1) D217_23 rfl rfl) <| e_iceq D217_24 rfl rfl
theorem b217_27 {d : Nat} {i0 : Nat} {x1 x2 x3 x4 : Int} {u5 : MV} {I L : Nat → Nat → Nat → Int} {t : Nat → Nat} : Res d 217 27 [vr 12 i0, vi x1, vi x2, vi x3, vi x4, u5] [] (mk I L t) = if ¬ x4 = x1 then Res d 217 36 [vr 12 i0, vi x1, vi x2, vi x3, vi x4, u5] [] (mk I L t) else Res d 217 33 [vr 12 i0, vi x1, vi x2, vi x3, vi x4, u5] [] (mk I L t) :=
  Eq.trans (e_iload D217_27 rfl rfl) <| Eq.trans (e_iload_n D217_29 rfl rfl) <| e_icne D217_30 rfl rfl
theorem b217_33 {d : Nat} {i0 : Nat} {x1 x2 x3 x4 : Int} {u5 : MV} {I L : Nat → Nat → Nat → Int} {t : Nat → Nat} : Res d 217 33 [vr 12 i0, vi x1, vi x2, vi x3, vi x4, u5] [] (mk I L t) = Res d 217 69 [vr 12 i0, vi x1, vi x2, vi x3, vi x4, u5] [] (mk I L t) :=
  e_goto (q1 := 69) D217_33 rfl
theorem b217_36 {d : Nat} {i0 : Nat} {x1 x2 x3 x4 : Int} {u5 : MV} {I L : Nat → Nat → Nat → Int} {t : Nat → Nat} (g1 : 0 ≤ x4 ∧ x4 < 9) : Res (d + 1) 217 36 [vr 12 i0, vi x1, vi x2, vi x3, vi x4, u5] [] (mk I L t) = (Cal d 188 [vr 12 i0, vi (I 54 i0 x4.toNat)] (mk I L t)).bind fun v => Res (d + 1) 217 47 [vr 12 i0, vi x1, vi x2, vi x3, vi x4, u5] (psh 188 v.1 []) v.2 :=
  Eq.trans (e_aload_n D217_36 rfl rfl) <| Eq.trans (e_aload_n D217_37 rfl rfl) <| Eq.trans (e_getP (p := (54, i0)) D217_38 rfl o_217 f_12_28 (sh_12 _) (by decide) (pp_12_11 _ _)) <| Eq.trans (e_iload D217_41 rfl rfl) <| Eq.trans (e_iald D217_43 rfl (al_54 _) g1) <| e_callV D217_44 rfl o_217 m_12_438 (by decide) rfl rfl
theorem b217_47 {d : Nat} {i0 : Nat} {x1 x2 x3 x4 xs0 : Int} {u5 : MV} {I L : Nat → Nat → Nat → Int} {t : Nat → Nat} : Res d 217 47 [vr 12 i0, vi x1, vi x2, vi x3, vi x4, u5] [vi xs0] (mk I L t) = if x2 = -1 then Res d 217 63 [vr 12 i0, vi x1, vi x2, vi x3, vi x4, vi xs0] [] (mk I L t) else Res d 217 54 [vr 12 i0, vi x1, vi x2, vi x3, vi x4, vi xs0] [] (mk I L t) :=
  Eq.trans (e_istore (ls1 := [vr 12 i0, vi x1, vi x2, vi x3, vi x4, vi xs0]) D217_47 rfl (show 5 < 6 by decide) rfl) <| Eq.trans (e_iload_n D217_49 rfl rfl) <| Eq.trans (e_iconst (x := -1) D217_50 rfl rfl) <| e_iceq D217_51 rfl rfl
theorem b217_54 {d : Nat} {i0 : Nat} {x1 x2 x3 x4 x5 : Int} {I L : Nat → Nat → Nat → Int} {t : Nat → Nat} : Res d 217 54 [vr 12 i0, vi x1, vi x2, vi x3, vi x4, vi x5] [] (mk I L t) = if x5 < x3 then Res d 217 63 [vr 12 i0, vi x1, vi x2, vi x3, vi x4, vi x5] [] (mk I L t) else Res d 217 60 [vr 12 i0, vi x1, vi x2, vi x3, vi x4, vi x5] [] (mk I L t) :=
  Eq.trans (e_iload D217_54 rfl rfl) <| Eq.trans (e_iload_n D217_56 rfl rfl) <| e_iclt D217_57 rfl rfl
theorem b217_60 {d : Nat} {i0 : Nat} {x1 x2 x3 x4 x5 : Int} {I L : Nat → Nat → Nat → Int} {t : Nat → Nat} : Res d 217 60 [vr 12 i0, vi x1, vi x2, vi x3, vi x4, vi x5] [] (mk I L t) = Res d 217 69 [vr 12 i0, vi x1, vi x2, vi x3, vi x4, vi x5] [] (mk I L t) :=
  e_goto (q1 := 69) D217_60 rfl
theorem b217_63 {d : Nat} {i0 : Nat} {x1 x2 x3 x4 x5 : Int} {I L : Nat → Nat → Nat → Int} {t : Nat → Nat} : Res d 217 63 [vr 12 i0, vi x1, vi x2, vi x3, vi x4, vi x5] [] (mk I L t) = Res d 217 69 [vr 12 i0, vi x1, vi x4, vi x5, vi x4, vi x5] [] (mk I L t) :=
  Eq.trans (e_iload D217_63 rfl rfl) <| Eq.trans (e_istore_n (ls1 := [vr 12 i0, vi x1, vi x4, vi x3, vi x4, vi x5]) D217_65 rfl (show 2 < 6 by decide) rfl) <| Eq.trans (e_iload D217_66 rfl rfl) <| e_istore_n (ls1 := [vr 12 i0, vi x1, vi x4, vi x5, vi x4, vi x5]) D217_68 rfl (show 3 < 6 by decide) rfl
theorem b217_69 {d : Nat} {i0 : Nat} {x1 x2 x3 x4 : Int} {u5 : MV} {I L : Nat → Nat → Nat → Int} {t : Nat → Nat} : Res d 217 69 [vr 12 i0, vi x1, vi x2, vi x3, vi x4, u5] [] (mk I L t) = Res d 217 7 [vr 12 i0, vi x1, vi x2, vi x3, vi (w32 (x4 + 1)), u5] [] (mk I L t) :=
  Eq.trans (e_iinc (ls1 := [vr 12 i0, vi x1, vi x2, vi x3, vi (w32 (x4 + 1)), u5]) D217_69 rfl rfl rfl) <| e_goto (q1 := 7) D217_72 rfl
theorem b217_75 {d : Nat} {i0 : Nat} {x1 x2 x3 x4 : Int} {u5 : MV} {I L : Nat → Nat → Nat → Int} {t : Nat → Nat} : Res d 217 75 [vr 12 i0, vi x1, vi x2, vi x3, vi x4, u5] [] (mk I L t) = some (vi x2, (mk I L t)) :=
  Eq.trans (e_iload_n D217_75 rfl rfl) <| e_iret D217_76 rfl
/-! m_breeds -/
theorem cc_218 : cod 218 = cX12_breeds := rfl
theorem D218_0 : decode (cod 218) 0 = .ok (.iconst 0, 1) := by rw [cc_218]; decide +kernel
theorem D218_1 : decode (cod 218) 1 = .ok (.istore_n 3, 1) := by rw [cc_218]; decide +kernel
theorem D218_2 : decode (cod 218) 2 = .ok (.iload_n 3, 1) := by rw [cc_218]; decide +kernel
theorem D218_3 : decode (cod 218) 3 = .ok (.bipush 9, 2) := by rw [cc_218]; decide +kernel
theorem D218_5 : decode (cod 218) 5 = .ok (.if_icmp .ge 163, 3) := by rw [cc_218]; decide +kernel
theorem D218_8 : decode (cod 218) 8 = .ok (.iconst 0, 1) := by rw [cc_218]; decide +kernel
theorem D218_9 : decode (cod 218) 9 = .ok (.istore 4, 2) := by rw [cc_218]; decide +kernel
theorem D218_11 : decode (cod 218) 11 = .ok (.iload 4, 2) := by rw [cc_218]; decide +kernel
theorem D218_13 : decode (cod 218) 13 = .ok (.bipush 16, 2) := by rw [cc_218]; decide +kernel
theorem D218_15 : decode (cod 218) 15 = .ok (.if_icmp .ge 71, 3) := by rw [cc_218]; decide +kernel
theorem D218_18 : decode (cod 218) 18 = .ok (.aload_n 0, 1) := by rw [cc_218]; decide +kernel
theorem D218_19 : decode (cod 218) 19 = .ok (.getfield 7, 3) := by rw [cc_218]; decide +kernel
theorem D218_22 : decode (cod 218) 22 = .ok (.sipush 2080, 3) := by rw [cc_218]; decide +kernel
theorem D218_25 : decode (cod 218) 25 = .ok (.iload 4, 2) := by rw [cc_218]; decide +kernel
theorem D218_27 : decode (cod 218) 27 = .ok (.iadd, 1) := by rw [cc_218]; decide +kernel
theorem D218_28 : decode (cod 218) 28 = .ok (.iaload, 1) := by rw [cc_218]; decide +kernel
theorem D218_29 : decode (cod 218) 29 = .ok (.istore 5, 2) := by rw [cc_218]; decide +kernel
theorem D218_31 : decode (cod 218) 31 = .ok (.aload_n 0, 1) := by rw [cc_218]; decide +kernel
theorem D218_32 : decode (cod 218) 32 = .ok (.getfield 7, 3) := by rw [cc_218]; decide +kernel
theorem D218_35 : decode (cod 218) 35 = .ok (.bipush 16, 2) := by rw [cc_218]; decide +kernel
theorem D218_37 : decode (cod 218) 37 = .ok (.bipush 120, 2) := by rw [cc_218]; decide +kernel
theorem D218_39 : decode (cod 218) 39 = .ok (.iload_n 3, 1) := by rw [cc_218]; decide +kernel
theorem D218_40 : decode (cod 218) 40 = .ok (.iadd, 1) := by rw [cc_218]; decide +kernel
theorem D218_41 : decode (cod 218) 41 = .ok (.imul, 1) := by rw [cc_218]; decide +kernel
theorem D218_42 : decode (cod 218) 42 = .ok (.iload 4, 2) := by rw [cc_218]; decide +kernel
theorem D218_44 : decode (cod 218) 44 = .ok (.iadd, 1) := by rw [cc_218]; decide +kernel
theorem D218_45 : decode (cod 218) 45 = .ok (.iload_n 3, 1) := by rw [cc_218]; decide +kernel
theorem D218_46 : decode (cod 218) 46 = .ok (.iload_n 3, 1) := by rw [cc_218]; decide +kernel
theorem D218_47 : decode (cod 218) 47 = .ok (.iload 4, 2) := by rw [cc_218]; decide +kernel
theorem D218_49 : decode (cod 218) 49 = .ok (.iadd, 1) := by rw [cc_218]; decide +kernel
theorem D218_50 : decode (cod 218) 50 = .ok (.iconst 3, 1) := by rw [cc_218]; decide +kernel
theorem D218_51 : decode (cod 218) 51 = .ok (.irem, 1) := by rw [cc_218]; decide +kernel
theorem D218_52 : decode (cod 218) 52 = .ok (.ishr, 1) := by rw [cc_218]; decide +kernel
theorem D218_53 : decode (cod 218) 53 = .ok (.iconst 1, 1) := by rw [cc_218]; decide +kernel
theorem D218_54 : decode (cod 218) 54 = .ok (.iand, 1) := by rw [cc_218]; decide +kernel
theorem D218_55 : decode (cod 218) 55 = .ok (.ifCond .ne 8, 3) := by rw [cc_218]; decide +kernel
theorem D218_58 : decode (cod 218) 58 = .ok (.iload 5, 2) := by rw [cc_218]; decide +kernel
theorem D218_60 : decode (cod 218) 60 = .ok (.goto 19, 3) := by rw [cc_218]; decide +kernel
theorem D218_63 : decode (cod 218) 63 = .ok (.iload 5, 2) := by rw [cc_218]; decide +kernel
theorem D218_65 : decode (cod 218) 65 = .ok (.aload_n 0, 1) := by rw [cc_218]; decide +kernel
theorem D218_66 : decode (cod 218) 66 = .ok (.getfield 7, 3) := by rw [cc_218]; decide +kernel
theorem D218_69 : decode (cod 218) 69 = .ok (.sipush 2096, 3) := by rw [cc_218]; decide +kernel
theorem D218_72 : decode (cod 218) 72 = .ok (.iload 4, 2) := by rw [cc_218]; decide +kernel
theorem D218_74 : decode (cod 218) 74 = .ok (.iadd, 1) := by rw [cc_218]; decide +kernel
theorem D218_75 : decode (cod 218) 75 = .ok (.iaload, 1) := by rw [cc_218]; decide +kernel
theorem D218_76 : decode (cod 218) 76 = .ok (.iadd, 1) := by rw [cc_218]; decide +kernel
theorem D218_77 : decode (cod 218) 77 = .ok (.iconst 2, 1) := by rw [cc_218]; decide +kernel
theorem D218_78 : decode (cod 218) 78 = .ok (.idiv, 1) := by rw [cc_218]; decide +kernel
theorem D218_79 : decode (cod 218) 79 = .ok (.iastore, 1) := by rw [cc_218]; decide +kernel
theorem D218_80 : decode (cod 218) 80 = .ok (.iinc 4 1, 3) := by rw [cc_218]; decide +kernel
theorem D218_83 : decode (cod 218) 83 = .ok (.goto (-72), 3) := by rw [cc_218]; decide +kernel
theorem D218_86 : decode (cod 218) 86 = .ok (.bipush 16, 2) := by rw [cc_218]; decide +kernel
theorem D218_88 : decode (cod 218) 88 = .ok (.bipush 120, 2) := by rw [cc_218]; decide +kernel
theorem D218_90 : decode (cod 218) 90 = .ok (.iload_n 3, 1) := by rw [cc_218]; decide +kernel
theorem D218_91 : decode (cod 218) 91 = .ok (.iadd, 1) := by rw [cc_218]; decide +kernel
theorem D218_92 : decode (cod 218) 92 = .ok (.imul, 1) := by rw [cc_218]; decide +kernel
theorem D218_93 : decode (cod 218) 93 = .ok (.iconst 5, 1) := by rw [cc_218]; decide +kernel
theorem D218_94 : decode (cod 218) 94 = .ok (.iload_n 3, 1) := by rw [cc_218]; decide +kernel
theorem D218_95 : decode (cod 218) 95 = .ok (.imul, 1) := by rw [cc_218]; decide +kernel
theorem D218_96 : decode (cod 218) 96 = .ok (.iload_n 2, 1) := by rw [cc_218]; decide +kernel
theorem D218_97 : decode (cod 218) 97 = .ok (.iadd, 1) := by rw [cc_218]; decide +kernel
theorem D218_98 : decode (cod 218) 98 = .ok (.bipush 16, 2) := by rw [cc_218]; decide +kernel
theorem D218_100 : decode (cod 218) 100 = .ok (.irem, 1) := by rw [cc_218]; decide +kernel
theorem D218_101 : decode (cod 218) 101 = .ok (.iadd, 1) := by rw [cc_218]; decide +kernel
theorem D218_102 : decode (cod 218) 102 = .ok (.istore 4, 2) := by rw [cc_218]; decide +kernel
theorem D218_104 : decode (cod 218) 104 = .ok (.iload_n 3, 1) := by rw [cc_218]; decide +kernel
theorem D218_105 : decode (cod 218) 105 = .ok (.ifCond .le 37, 3) := by rw [cc_218]; decide +kernel
theorem D218_108 : decode (cod 218) 108 = .ok (.aload_n 0, 1) := by rw [cc_218]; decide +kernel
theorem D218_109 : decode (cod 218) 109 = .ok (.getfield 7, 3) := by rw [cc_218]; decide +kernel
theorem D218_112 : decode (cod 218) 112 = .ok (.iload 4, 2) := by rw [cc_218]; decide +kernel
theorem D218_114 : decode (cod 218) 114 = .ok (.aload_n 0, 1) := by rw [cc_218]; decide +kernel
theorem D218_115 : decode (cod 218) 115 = .ok (.getfield 7, 3) := by rw [cc_218]; decide +kernel
theorem D218_118 : decode (cod 218) 118 = .ok (.iload 4, 2) := by rw [cc_218]; decide +kernel
theorem D218_120 : decode (cod 218) 120 = .ok (.iaload, 1) := by rw [cc_218]; decide +kernel
theorem D218_121 : decode (cod 218) 121 = .ok (.iload_n 3, 1) := by rw [cc_218]; decide +kernel
theorem D218_122 : decode (cod 218) 122 = .ok (.iconst 2, 1) := by rw [cc_218]; decide +kernel
theorem D218_123 : decode (cod 218) 123 = .ok (.irem, 1) := by rw [cc_218]; decide +kernel
theorem D218_124 : decode (cod 218) 124 = .ok (.iconst 1, 1) := by rw [cc_218]; decide +kernel
theorem D218_125 : decode (cod 218) 125 = .ok (.if_icmp .ne 7, 3) := by rw [cc_218]; decide +kernel
theorem D218_128 : decode (cod 218) 128 = .ok (.iconst 2, 1) := by rw [cc_218]; decide +kernel
theorem D218_129 : decode (cod 218) 129 = .ok (.goto 5, 3) := by rw [cc_218]; decide +kernel
theorem D218_132 : decode (cod 218) 132 = .ok (.bipush (-2), 2) := by rw [cc_218]; decide +kernel
theorem D218_134 : decode (cod 218) 134 = .ok (.iadd, 1) := by rw [cc_218]; decide +kernel
theorem D218_135 : decode (cod 218) 135 = .ok (.iconst 0, 1) := by rw [cc_218]; decide +kernel
theorem D218_136 : decode (cod 218) 136 = .ok (.bipush 31, 2) := by rw [cc_218]; decide +kernel
theorem D218_138 : decode (cod 218) 138 = .ok (.invokestatic 415, 3) := by rw [cc_218]; decide +kernel
theorem D218_141 : decode (cod 218) 141 = .ok (.iastore, 1) := by rw [cc_218]; decide +kernel
theorem D218_142 : decode (cod 218) 142 = .ok (.aload_n 0, 1) := by rw [cc_218]; decide +kernel
theorem D218_143 : decode (cod 218) 143 = .ok (.getfield 13, 3) := by rw [cc_218]; decide +kernel
theorem D218_146 : decode (cod 218) 146 = .ok (.bipush 120, 2) := by rw [cc_218]; decide +kernel
theorem D218_148 : decode (cod 218) 148 = .ok (.iload_n 3, 1) := by rw [cc_218]; decide +kernel
theorem D218_149 : decode (cod 218) 149 = .ok (.iadd, 1) := by rw [cc_218]; decide +kernel
theorem D218_150 : decode (cod 218) 150 = .ok (.iload_n 1, 1) := by rw [cc_218]; decide +kernel
theorem D218_151 : decode (cod 218) 151 = .ok (.iastore, 1) := by rw [cc_218]; decide +kernel
theorem D218_152 : decode (cod 218) 152 = .ok (.aload_n 0, 1) := by rw [cc_218]; decide +kernel
theorem D218_153 : decode (cod 218) 153 = .ok (.getfield 28, 3) := by rw [cc_218]; decide +kernel
theorem D218_156 : decode (cod 218) 156 = .ok (.iload_n 3, 1) := by rw [cc_218]; decide +kernel
theorem D218_157 : decode (cod 218) 157 = .ok (.bipush 120, 2) := by rw [cc_218]; decide +kernel
theorem D218_159 : decode (cod 218) 159 = .ok (.iload_n 3, 1) := by rw [cc_218]; decide +kernel
theorem D218_160 : decode (cod 218) 160 = .ok (.iadd, 1) := by rw [cc_218]; decide +kernel
theorem D218_161 : decode (cod 218) 161 = .ok (.iastore, 1) := by rw [cc_218]; decide +kernel
theorem D218_162 : decode (cod 218) 162 = .ok (.iinc 3 1, 3) := by rw [cc_218]; decide +kernel
theorem D218_165 : decode (cod 218) 165 = .ok (.goto (-163), 3) := by rw [cc_218]; decide +kernel
theorem D218_168 : decode (cod 218) 168 = .ok (.aload_n 0, 1) := by rw [cc_218]; decide +kernel
theorem D218_169 : decode (cod 218) 169 = .ok (.bipush 9, 2) := by rw [cc_218]; decide +kernel
theorem D218_171 : decode (cod 218) 171 = .ok (.putfield 236, 3) := by rw [cc_218]; decide +kernel
theorem D218_174 : decode (cod 218) 174 = .ok (.return_, 1) := by rw [cc_218]; decide +kernel
theorem b218_0 {d : Nat} {i0 : Nat} {x1 x2 : Int} {I L : Nat → Nat → Nat → Int} {t : Nat → Nat} : Res d 218 0 [vr 12 i0, vi x1, vi x2, vx, vx, vx] [] (mk I L t) = Res d 218 2 [vr 12 i0, vi x1, vi x2, vi 0, vx, vx] [] (mk I L t) :=
  Eq.trans (e_iconst (x := 0) D218_0 rfl rfl) <| e_istore_n (ls1 := [vr 12 i0, vi x1, vi x2, vi 0, vx, vx]) D218_1 rfl (show 3 < 6 by decide) rfl
theorem b218_2 {d : Nat} {i0 : Nat} {x1 x2 x3 : Int} {u4 u5 : MV} {I L : Nat → Nat → Nat → Int} {t : Nat → Nat} : Res d 218 2 [vr 12 i0, vi x1, vi x2, vi x3, u4, u5] [] (mk I L t) = if 9 ≤ x3 then Res d 218 168 [vr 12 i0, vi x1, vi x2, vi x3, u4, u5] [] (mk I L t) else Res d 218 8 [vr 12 i0, vi x1, vi x2, vi x3, u4, u5] [] (mk I L t) :=
  Eq.trans (e_iload_n D218_2 rfl rfl) <| Eq.trans (e_bipush (x := 9) D218_3 rfl rfl) <| e_icge D218_5 rfl rfl
theorem b218_8 {d : Nat} {i0 : Nat} {x1 x2 x3 : Int} {u4 u5 : MV} {I L : Nat → Nat → Nat → Int} {t : Nat → Nat} : Res d 218 8 [vr 12 i0, vi x1, vi x2, vi x3, u4, u5] [] (mk I L t) = Res d 218 11 [vr 12 i0, vi x1, vi x2, vi x3, vi 0, u5] [] (mk I L t) :=
  Eq.trans (e_iconst (x := 0) D218_8 rfl rfl) <| e_istore (ls1 := [vr 12 i0, vi x1, vi x2, vi x3, vi 0, u5]) D218_9 rfl (show 4 < 6 by decide) rfl
theorem b218_11 {d : Nat} {i0 : Nat} {x1 x2 x3 x4 : Int} {u5 : MV} {I L : Nat → Nat → Nat → Int} {t : Nat → Nat} : Res d 218 11 [vr 12 i0, vi x1, vi x2, vi x3, vi x4, u5] [] (mk I L t) = if 16 ≤ x4 then Res d 218 86 [vr 12 i0, vi x1, vi x2, vi x3, vi x4, u5] [] (mk I L t) else Res d 218 18 [vr 12 i0, vi x1, vi x2, vi x3, vi x4, u5] [] (mk I L t) :=
  Eq.trans (e_iload D218_11 rfl rfl) <| Eq.trans (e_bipush (x := 16) D218_13 rfl rfl) <| e_icge D218_15 rfl rfl
theorem b218_18 {d : Nat} {i0 : Nat} {x1 x2 x3 x4 : Int} {u5 : MV} {I L : Nat → Nat → Nat → Int} {t : Nat → Nat} (g1 : 0 ≤ w32 (2080 + x4) ∧ w32 (2080 + x4) < 2112) : Res d 218 18 [vr 12 i0, vi x1, vi x2, vi x3, vi x4, u5] [] (mk I L t) = if ¬ vIand (vIshr x3 (vIrem (w32 (x3 + x4)) 3)) 1 = 0 then Res d 218 63 [vr 12 i0, vi x1, vi x2, vi x3, vi x4, vi (I 48 i0 (w32 (2080 + x4)).toNat)] [vi (w32 ((w32 (16 * (w32 (120 + x3)))) + x4)), vr 48 i0] (mk I L t) else Res d 218 58 [vr 12 i0, vi x1, vi x2, vi x3, vi x4, vi (I 48 i0 (w32 (2080 + x4)).toNat)] [vi (w32 ((w32 (16 * (w32 (120 + x3)))) + x4)), vr 48 i0] (mk I L t) :=
  Eq.trans (e_aload_n D218_18 rfl rfl) <| Eq.trans (e_getP (p := (48, i0)) D218_19 rfl o_218 f_12_7 (sh_12 _) (by decide) (pp_12_5 _ _)) <| Eq.trans (e_sipush (x := 2080) D218_22 rfl rfl) <| Eq.trans (e_iload D218_25 rfl rfl) <| Eq.trans (e_iadd D218_27 rfl) <| Eq.trans (e_iald D218_28 rfl (al_48 _) g1) <| Eq.trans (e_istore (ls1 := [vr 12 i0, vi x1, vi x2, vi x3, vi x4, vi (I 48 i0 (w32 (2080 + x4)).toNat)]) D218_29 rfl (show 5 < 6 by decide) rfl) <| Eq.trans (e_aload_n D218_31 rfl rfl) <| Eq.trans (e_getP (p := (48, i0)) D218_32 rfl o_218 f_12_7 (sh_12 _) (by decide) (pp_12_5 _ _)) <| Eq.trans (e_bipush (x := 16) D218_35 rfl rfl) <| Eq.trans (e_bipush (x := 120) D218_37 rfl rfl) <| Eq.trans (e_iload_n D218_39 rfl rfl) <| Eq.trans (e_iadd D218_40 rfl) <| Eq.trans (e_imul D218_41 rfl) <| Eq.trans (e_iload D218_42 rfl rfl) <| Eq.trans (e_iadd D218_44 rfl) <| Eq.trans (e_iload_n D218_45 rfl rfl) <| Eq.trans (e_iload_n D218_46 rfl rfl) <| Eq.trans (e_iload D218_47 rfl rfl) <| Eq.trans (e_iadd D218_49 rfl) <| Eq.trans (e_iconst (x := 3) D218_50 rfl rfl) <| Eq.trans (e_irem D218_51 rfl (by decide)) <| Eq.trans (e_ishr D218_52 rfl) <| Eq.trans (e_iconst (x := 1) D218_53 rfl rfl) <| Eq.trans (e_iand D218_54 rfl) <| e_ifne D218_55 rfl rfl
theorem b218_58 {d : Nat} {i0 is0 : Nat} {x1 x2 x3 x4 x5 xs1 : Int} {I L : Nat → Nat → Nat → Int} {t : Nat → Nat} : Res d 218 58 [vr 12 i0, vi x1, vi x2, vi x3, vi x4, vi x5] [vi xs1, vr 48 is0] (mk I L t) = Res d 218 79 [vr 12 i0, vi x1, vi x2, vi x3, vi x4, vi x5] [vi x5, vi xs1, vr 48 is0] (mk I L t) :=
  Eq.trans (e_iload D218_58 rfl rfl) <| e_goto (q1 := 79) D218_60 rfl
theorem b218_63 {d : Nat} {i0 is0 : Nat} {x1 x2 x3 x4 x5 xs1 : Int} {I L : Nat → Nat → Nat → Int} {t : Nat → Nat} (g1 : 0 ≤ w32 (2096 + x4) ∧ w32 (2096 + x4) < 2112) : Res d 218 63 [vr 12 i0, vi x1, vi x2, vi x3, vi x4, vi x5] [vi xs1, vr 48 is0] (mk I L t) = Res d 218 79 [vr 12 i0, vi x1, vi x2, vi x3, vi x4, vi x5] [vi (vIdiv (w32 (x5 + (I 48 i0 (w32 (2096 + x4)).toNat))) 2), vi xs1, vr 48 is0] (mk I L t) :=
  Eq.trans (e_iload D218_63 rfl rfl) <| Eq.trans (e_aload_n D218_65 rfl rfl) <| Eq.trans (e_getP (p := (48, i0)) D218_66 rfl o_218 f_12_7 (sh_12 _) (by decide) (pp_12_5 _ _)) <| Eq.trans (e_sipush (x := 2096) D218_69 rfl rfl) <| Eq.trans (e_iload D218_72 rfl rfl) <| Eq.trans (e_iadd D218_74 rfl) <| Eq.trans (e_iald D218_75 rfl (al_48 _) g1) <| Eq.trans (e_iadd D218_76 rfl) <| Eq.trans (e_iconst (x := 2) D218_77 rfl rfl) <| e_idiv D218_78 rfl (by decide)
theorem b218_79 {d : Nat} {i0 is0 : Nat} {x1 x2 x3 x4 x5 xs2 xs1 : Int} {I L : Nat → Nat → Nat → Int} {t : Nat → Nat} (g1 : 0 ≤ xs1 ∧ xs1 < 2112) : Res d 218 79 [vr 12 i0, vi x1, vi x2, vi x3, vi x4, vi x5] [vi xs2, vi xs1, vr 48 is0] (mk I L t) = Res d 218 11 [vr 12 i0, vi x1, vi x2, vi x3, vi (w32 (x4 + 1)), vi x5] [] (mk (up3 I 48 is0 xs1.toNat xs2) L t) :=
  Eq.trans (e_iast D218_79 rfl (al_48 _) rfl g1) <| Eq.trans (e_iinc (ls1 := [vr 12 i0, vi x1, vi x2, vi x3, vi (w32 (x4 + 1)), vi x5]) D218_80 rfl rfl rfl) <| e_goto (q1 := 11) D218_83 rfl
theorem b218_86 {d : Nat} {i0 : Nat} {x1 x2 x3 x4 : Int} {u5 : MV} {I L : Nat → Nat → Nat → Int} {t : Nat → Nat} : Res d 218 86 [vr 12 i0, vi x1, vi x2, vi x3, vi x4, u5] [] (mk I L t) = if x3 ≤ 0 then Res d 218 142 [vr 12 i0, vi x1, vi x2, vi x3, vi (w32 ((w32 (16 * (w32 (120 + x3)))) + (vIrem (w32 ((w32 (5 * x3)) + x2)) 16))), u5] [] (mk I L t) else Res d 218 108 [vr 12 i0, vi x1, vi x2, vi x3, vi (w32 ((w32 (16 * (w32 (120 + x3)))) + (vIrem (w32 ((w32 (5 * x3)) + x2)) 16))), u5] [] (mk I L t) :=
  Eq.trans (e_bipush (x := 16) D218_86 rfl rfl) <| Eq.trans (e_bipush (x := 120) D218_88 rfl rfl) <| Eq.trans (e_iload_n D218_90 rfl rfl) <| Eq.trans (e_iadd D218_91 rfl) <| Eq.trans (e_imul D218_92 rfl) <| Eq.trans (e_iconst (x := 5) D218_93 rfl rfl) <| Eq.trans (e_iload_n D218_94 rfl rfl) <| Eq.trans (e_imul D218_95 rfl) <| Eq.trans (e_iload_n D218_96 rfl rfl) <| Eq.trans (e_iadd D218_97 rfl) <| Eq.trans (e_bipush (x := 16) D218_98 rfl rfl) <| Eq.trans (e_irem D218_100 rfl (by decide)) <| Eq.trans (e_iadd D218_101 rfl) <| Eq.trans (e_istore (ls1 := [vr 12 i0, vi x1, vi x2, vi x3, vi (w32 ((w32 (16 * (w32 (120 + x3)))) + (vIrem (w32 ((w32 (5 * x3)) + x2)) 16))), u5]) D218_102 rfl (show 4 < 6 by decide) rfl) <| Eq.trans (e_iload_n D218_104 rfl rfl) <| e_ifle D218_105 rfl rfl
theorem b218_108 {d : Nat} {i0 : Nat} {x1 x2 x3 x4 : Int} {u5 : MV} {I L : Nat → Nat → Nat → Int} {t : Nat → Nat} (g1 : 0 ≤ x4 ∧ x4 < 2112) : Res d 218 108 [vr 12 i0, vi x1, vi x2, vi x3, vi x4, u5] [] (mk I L t) = if ¬ vIrem x3 2 = 1 then Res d 218 132 [vr 12 i0, vi x1, vi x2, vi x3, vi x4, u5] [vi (I 48 i0 x4.toNat), vi x4, vr 48 i0] (mk I L t) else Res d 218 128 [vr 12 i0, vi x1, vi x2, vi x3, vi x4, u5] [vi (I 48 i0 x4.toNat), vi x4, vr 48 i0] (mk I L t) :=
  Eq.trans (e_aload_n D218_108 rfl rfl) <| Eq.trans (e_getP (p := (48, i0)) D218_109 rfl o_218 f_12_7 (sh_12 _) (by decide) (pp_12_5 _ _)) <| Eq.trans (e_iload D218_112 rfl rfl) <| Eq.trans (e_aload_n D218_114 rfl rfl) <| Eq.trans (e_getP (p := (48, i0)) D218_115 rfl o_218 f_12_7 (sh_12 _) (by decide) (pp_12_5 _ _)) <| Eq.trans (e_iload D218_118 rfl rfl) <| Eq.trans (e_iald D218_120 rfl (al_48 _) g1) <| Eq.trans (e_iload_n D218_121 rfl rfl) <| Eq.trans (e_iconst (x := 2) D218_122 rfl rfl) <| Eq.trans (e_irem D218_123 rfl (by decide)) <| Eq.trans (e_iconst (x := 1) D218_124 rfl rfl) <| e_icne D218_125 rfl rfl
theorem b218_128 {d : Nat} {i0 is0 : Nat} {x1 x2 x3 x4 xs2 xs1 : Int} {u5 : MV} {I L : Nat → Nat → Nat → Int} {t : Nat → Nat} : Res d 218 128 [vr 12 i0, vi x1, vi x2, vi x3, vi x4, u5] [vi xs2, vi xs1, vr 48 is0] (mk I L t) = Res d 218 134 [vr 12 i0, vi x1, vi x2, vi x3, vi x4, u5] [vi 2, vi xs2, vi xs1, vr 48 is0] (mk I L t) :=
  Eq.trans (e_iconst (x := 2) D218_128 rfl rfl) <| e_goto (q1 := 134) D218_129 rfl
theorem b218_132 {d : Nat} {i0 is0 : Nat} {x1 x2 x3 x4 xs2 xs1 : Int} {u5 : MV} {I L : Nat → Nat → Nat → Int} {t : Nat → Nat} : Res d 218 132 [vr 12 i0, vi x1, vi x2, vi x3, vi x4, u5] [vi xs2, vi xs1, vr 48 is0] (mk I L t) = Res d 218 134 [vr 12 i0, vi x1, vi x2, vi x3, vi x4, u5] [vi (-2), vi xs2, vi xs1, vr 48 is0] (mk I L t) :=
  e_bipush (x := -2) D218_132 rfl rfl
theorem b218_134 {d : Nat} {i0 is0 : Nat} {x1 x2 x3 x4 xs3 xs2 xs1 : Int} {u5 : MV} {I L : Nat → Nat → Nat → Int} {t : Nat → Nat} : Res (d + 1) 218 134 [vr 12 i0, vi x1, vi x2, vi x3, vi x4, u5] [vi xs3, vi xs2, vi xs1, vr 48 is0] (mk I L t) = (Cal d 182 [vi (w32 (xs2 + xs3)), vi 0, vi 31] (mk I L t)).bind fun v => Res (d + 1) 218 141 [vr 12 i0, vi x1, vi x2, vi x3, vi x4, u5] (psh 182 v.1 [vi xs1, vr 48 is0]) v.2 :=
  Eq.trans (e_iadd D218_134 rfl) <| Eq.trans (e_iconst (x := 0) D218_135 rfl rfl) <| Eq.trans (e_bipush (x := 31) D218_136 rfl rfl) <| e_callS D218_138 rfl o_218 m_12_415 (by decide) rfl rfl
theorem b218_141 {d : Nat} {i0 is0 : Nat} {x1 x2 x3 x4 xs2 xs1 : Int} {u5 : MV} {I L : Nat → Nat → Nat → Int} {t : Nat → Nat} (g1 : 0 ≤ xs1 ∧ xs1 < 2112) : Res d 218 141 [vr 12 i0, vi x1, vi x2, vi x3, vi x4, u5] [vi xs2, vi xs1, vr 48 is0] (mk I L t) = Res d 218 142 [vr 12 i0, vi x1, vi x2, vi x3, vi x4, u5] [] (mk (up3 I 48 is0 xs1.toNat xs2) L t) :=
  e_iast D218_141 rfl (al_48 _) rfl g1
theorem b218_142 {d : Nat} {i0 : Nat} {x1 x2 x3 x4 : Int} {u5 : MV} {I L : Nat → Nat → Nat → Int} {t : Nat → Nat} (g1 : 0 ≤ w32 (120 + x3) ∧ w32 (120 + x3) < 132) (g2 : 0 ≤ x3 ∧ x3 < 9) : Res d 218 142 [vr 12 i0, vi x1, vi x2, vi x3, vi x4, u5] [] (mk I L t) = Res d 218 2 [vr 12 i0, vi x1, vi x2, vi (w32 (x3 + 1)), vi x4, u5] [] (mk (up3 (up3 I 49 i0 (w32 (120 + x3)).toNat x1) 54 i0 x3.toNat (w32 (120 + x3))) L t) :=
  Eq.trans (e_aload_n D218_142 rfl rfl) <| Eq.trans (e_getP (p := (49, i0)) D218_143 rfl o_218 f_12_13 (sh_12 _) (by decide) (pp_12_6 _ _)) <| Eq.trans (e_bipush (x := 120) D218_146 rfl rfl) <| Eq.trans (e_iload_n D218_148 rfl rfl) <| Eq.trans (e_iadd D218_149 rfl) <| Eq.trans (e_iload_n D218_150 rfl rfl) <| Eq.trans (e_iast D218_151 rfl (al_49 _) rfl g1) <| Eq.trans (e_aload_n D218_152 rfl rfl) <| Eq.trans (e_getP (p := (54, i0)) D218_153 rfl o_218 f_12_28 (sh_12 _) (by decide) (pp_12_11 _ _)) <| Eq.trans (e_iload_n D218_156 rfl rfl) <| Eq.trans (e_bipush (x := 120) D218_157 rfl rfl) <| Eq.trans (e_iload_n D218_159 rfl rfl) <| Eq.trans (e_iadd D218_160 rfl) <| Eq.trans (e_iast D218_161 rfl (al_54 _) rfl g2) <| Eq.trans (e_iinc (ls1 := [vr 12 i0, vi x1, vi x2, vi (w32 (x3 + 1)), vi x4, u5]) D218_162 rfl rfl rfl) <| e_goto (q1 := 2) D218_165 rfl
theorem b218_168 {d : Nat} {i0 : Nat} {x1 x2 x3 : Int} {u4 u5 : MV} {I L : Nat → Nat → Nat → Int} {t : Nat → Nat} : Res d 218 168 [vr 12 i0, vi x1, vi x2, vi x3, u4, u5] [] (mk I L t) = some (vx, (mk (up3 I 12 i0 12 9) L t)) :=
  Eq.trans (e_aload_n D218_168 rfl rfl) <| Eq.trans (e_bipush (x := 9) D218_169 rfl rfl) <| Eq.trans (e_putI D218_171 rfl o_218 f_12_236 (sh_12 _) rfl (by decide) (Or.inl (by decide))) <| e_vret D218_174 rfl
/-! m_bred -/
theorem cc_219 : cod 219 = cX12_bred := rfl
theorem D219_0 : decode (cod 219) 0 = .ok (.aload_n 0, 1) := by rw [cc_219]; decide +kernel
theorem D219_1 : decode (cod 219) 1 = .ok (.iload_n 1, 1) := by rw [cc_219]; decide +kernel
theorem D219_2 : decode (cod 219) 2 = .ok (.invokevirtual 469, 3) := by rw [cc_219]; decide +kernel
theorem D219_5 : decode (cod 219) 5 = .ok (.ifCond .eq 21, 3) := by rw [cc_219]; decide +kernel
theorem D219_8 : decode (cod 219) 8 = .ok (.iload_n 2, 1) := by rw [cc_219]; decide +kernel
theorem D219_9 : decode (cod 219) 9 = .ok (.invokestatic 233, 3) := by rw [cc_219]; decide +kernel
theorem D219_12 : decode (cod 219) 12 = .ok (.ifCond .eq 14, 3) := by rw [cc_219]; decide +kernel
theorem D219_15 : decode (cod 219) 15 = .ok (.iload_n 3, 1) := by rw [cc_219]; decide +kernel
theorem D219_16 : decode (cod 219) 16 = .ok (.iconst 0, 1) := by rw [cc_219]; decide +kernel
theorem D219_17 : decode (cod 219) 17 = .ok (.sipush 999, 3) := by rw [cc_219]; decide +kernel
theorem D219_20 : decode (cod 219) 20 = .ok (.invokestatic 219, 3) := by rw [cc_219]; decide +kernel
theorem D219_23 : decode (cod 219) 23 = .ok (.ifCond .ne 5, 3) := by rw [cc_219]; decide +kernel
theorem D219_26 : decode (cod 219) 26 = .ok (.iconst (-1), 1) := by rw [cc_219]; decide +kernel
theorem D219_27 : decode (cod 219) 27 = .ok (.ireturn, 1) := by rw [cc_219]; decide +kernel
theorem D219_28 : decode (cod 219) 28 = .ok (.aload_n 0, 1) := by rw [cc_219]; decide +kernel
theorem D219_29 : decode (cod 219) 29 = .ok (.iload_n 2, 1) := by rw [cc_219]; decide +kernel
theorem D219_30 : decode (cod 219) 30 = .ok (.invokevirtual 472, 3) := by rw [cc_219]; decide +kernel
theorem D219_33 : decode (cod 219) 33 = .ok (.aload_n 0, 1) := by rw [cc_219]; decide +kernel
theorem D219_34 : decode (cod 219) 34 = .ok (.invokevirtual 499, 3) := by rw [cc_219]; decide +kernel
theorem D219_37 : decode (cod 219) 37 = .ok (.ifCond .ne 5, 3) := by rw [cc_219]; decide +kernel
theorem D219_40 : decode (cod 219) 40 = .ok (.iconst (-1), 1) := by rw [cc_219]; decide +kernel
theorem D219_41 : decode (cod 219) 41 = .ok (.ireturn, 1) := by rw [cc_219]; decide +kernel
theorem D219_42 : decode (cod 219) 42 = .ok (.aload_n 0, 1) := by rw [cc_219]; decide +kernel
theorem D219_43 : decode (cod 219) 43 = .ok (.iload_n 1, 1) := by rw [cc_219]; decide +kernel
theorem D219_44 : decode (cod 219) 44 = .ok (.invokevirtual 459, 3) := by rw [cc_219]; decide +kernel
theorem D219_47 : decode (cod 219) 47 = .ok (.iconst 1, 1) := by rw [cc_219]; decide +kernel
theorem D219_48 : decode (cod 219) 48 = .ok (.istore 4, 2) := by rw [cc_219]; decide +kernel
theorem D219_50 : decode (cod 219) 50 = .ok (.iload 4, 2) := by rw [cc_219]; decide +kernel
theorem D219_52 : decode (cod 219) 52 = .ok (.bipush 31, 2) := by rw [cc_219]; decide +kernel
theorem D219_54 : decode (cod 219) 54 = .ok (.if_icmp .ge 158, 3) := by rw [cc_219]; decide +kernel
theorem D219_57 : decode (cod 219) 57 = .ok (.aload_n 0, 1) := by rw [cc_219]; decide +kernel
theorem D219_58 : decode (cod 219) 58 = .ok (.iconst (-1), 1) := by rw [cc_219]; decide +kernel
theorem D219_59 : decode (cod 219) 59 = .ok (.invokevirtual 511, 3) := by rw [cc_219]; decide +kernel
theorem D219_62 : decode (cod 219) 62 = .ok (.istore 5, 2) := by rw [cc_219]; decide +kernel
theorem D219_64 : decode (cod 219) 64 = .ok (.aload_n 0, 1) := by rw [cc_219]; decide +kernel
theorem D219_65 : decode (cod 219) 65 = .ok (.iload 5, 2) := by rw [cc_219]; decide +kernel
theorem D219_67 : decode (cod 219) 67 = .ok (.invokevirtual 511, 3) := by rw [cc_219]; decide +kernel
theorem D219_70 : decode (cod 219) 70 = .ok (.istore 6, 2) := by rw [cc_219]; decide +kernel
theorem D219_72 : decode (cod 219) 72 = .ok (.iload 6, 2) := by rw [cc_219]; decide +kernel
theorem D219_74 : decode (cod 219) 74 = .ok (.iconst (-1), 1) := by rw [cc_219]; decide +kernel
theorem D219_75 : decode (cod 219) 75 = .ok (.if_icmp .ne 7, 3) := by rw [cc_219]; decide +kernel
theorem D219_78 : decode (cod 219) 78 = .ok (.iload 5, 2) := by rw [cc_219]; decide +kernel
theorem D219_80 : decode (cod 219) 80 = .ok (.istore 6, 2) := by rw [cc_219]; decide +kernel
theorem D219_82 : decode (cod 219) 82 = .ok (.aload_n 0, 1) := by rw [cc_219]; decide +kernel
theorem D219_83 : decode (cod 219) 83 = .ok (.getfield 13, 3) := by rw [cc_219]; decide +kernel
theorem D219_86 : decode (cod 219) 86 = .ok (.aload_n 0, 1) := by rw [cc_219]; decide +kernel
theorem D219_87 : decode (cod 219) 87 = .ok (.getfield 28, 3) := by rw [cc_219]; decide +kernel
theorem D219_90 : decode (cod 219) 90 = .ok (.iload 5, 2) := by rw [cc_219]; decide +kernel
theorem D219_92 : decode (cod 219) 92 = .ok (.iaload, 1) := by rw [cc_219]; decide +kernel
theorem D219_93 : decode (cod 219) 93 = .ok (.iaload, 1) := by rw [cc_219]; decide +kernel
theorem D219_94 : decode (cod 219) 94 = .ok (.istore 7, 2) := by rw [cc_219]; decide +kernel
theorem D219_96 : decode (cod 219) 96 = .ok (.iconst 0, 1) := by rw [cc_219]; decide +kernel
theorem D219_97 : decode (cod 219) 97 = .ok (.istore 8, 2) := by rw [cc_219]; decide +kernel
theorem D219_99 : decode (cod 219) 99 = .ok (.iload 8, 2) := by rw [cc_219]; decide +kernel
theorem D219_101 : decode (cod 219) 101 = .ok (.bipush 16, 2) := by rw [cc_219]; decide +kernel
theorem D219_103 : decode (cod 219) 103 = .ok (.if_icmp .ge 75, 3) := by rw [cc_219]; decide +kernel
theorem D219_106 : decode (cod 219) 106 = .ok (.aload_n 0, 1) := by rw [cc_219]; decide +kernel
theorem D219_107 : decode (cod 219) 107 = .ok (.getfield 7, 3) := by rw [cc_219]; decide +kernel
theorem D219_110 : decode (cod 219) 110 = .ok (.bipush 16, 2) := by rw [cc_219]; decide +kernel
theorem D219_112 : decode (cod 219) 112 = .ok (.aload_n 0, 1) := by rw [cc_219]; decide +kernel
theorem D219_113 : decode (cod 219) 113 = .ok (.getfield 28, 3) := by rw [cc_219]; decide +kernel
theorem D219_116 : decode (cod 219) 116 = .ok (.iload 5, 2) := by rw [cc_219]; decide +kernel
theorem D219_118 : decode (cod 219) 118 = .ok (.iaload, 1) := by rw [cc_219]; decide +kernel
theorem D219_119 : decode (cod 219) 119 = .ok (.imul, 1) := by rw [cc_219]; decide +kernel
theorem D219_120 : decode (cod 219) 120 = .ok (.iload 8, 2) := by rw [cc_219]; decide +kernel
theorem D219_122 : decode (cod 219) 122 = .ok (.iadd, 1) := by rw [cc_219]; decide +kernel
theorem D219_123 : decode (cod 219) 123 = .ok (.iaload, 1) := by rw [cc_219]; decide +kernel
theorem D219_124 : decode (cod 219) 124 = .ok (.istore 9, 2) := by rw [cc_219]; decide +kernel
theorem D219_126 : decode (cod 219) 126 = .ok (.aload_n 0, 1) := by rw [cc_219]; decide +kernel
theorem D219_127 : decode (cod 219) 127 = .ok (.getfield 7, 3) := by rw [cc_219]; decide +kernel
theorem D219_130 : decode (cod 219) 130 = .ok (.bipush 16, 2) := by rw [cc_219]; decide +kernel
theorem D219_132 : decode (cod 219) 132 = .ok (.aload_n 0, 1) := by rw [cc_219]; decide +kernel
theorem D219_133 : decode (cod 219) 133 = .ok (.getfield 28, 3) := by rw [cc_219]; decide +kernel
theorem D219_136 : decode (cod 219) 136 = .ok (.iload 6, 2) := by rw [cc_219]; decide +kernel
theorem D219_138 : decode (cod 219) 138 = .ok (.iaload, 1) := by rw [cc_219]; decide +kernel
theorem D219_139 : decode (cod 219) 139 = .ok (.imul, 1) := by rw [cc_219]; decide +kernel
theorem D219_140 : decode (cod 219) 140 = .ok (.iload 8, 2) := by rw [cc_219]; decide +kernel
theorem D219_142 : decode (cod 219) 142 = .ok (.iadd, 1) := by rw [cc_219]; decide +kernel
theorem D219_143 : decode (cod 219) 143 = .ok (.iaload, 1) := by rw [cc_219]; decide +kernel
theorem D219_144 : decode (cod 219) 144 = .ok (.istore 10, 2) := by rw [cc_219]; decide +kernel
theorem D219_146 : decode (cod 219) 146 = .ok (.aload_n 0, 1) := by rw [cc_219]; decide +kernel
theorem D219_147 : decode (cod 219) 147 = .ok (.getfield 7, 3) := by rw [cc_219]; decide +kernel
theorem D219_150 : decode (cod 219) 150 = .ok (.sipush 2080, 3) := by rw [cc_219]; decide +kernel
theorem D219_153 : decode (cod 219) 153 = .ok (.iload 8, 2) := by rw [cc_219]; decide +kernel
theorem D219_155 : decode (cod 219) 155 = .ok (.iadd, 1) := by rw [cc_219]; decide +kernel
theorem D219_156 : decode (cod 219) 156 = .ok (.iload 9, 2) := by rw [cc_219]; decide +kernel
theorem D219_158 : decode (cod 219) 158 = .ok (.iastore, 1) := by rw [cc_219]; decide +kernel
theorem D219_159 : decode (cod 219) 159 = .ok (.aload_n 0, 1) := by rw [cc_219]; decide +kernel
theorem D219_160 : decode (cod 219) 160 = .ok (.getfield 7, 3) := by rw [cc_219]; decide +kernel
theorem D219_163 : decode (cod 219) 163 = .ok (.sipush 2096, 3) := by rw [cc_219]; decide +kernel
theorem D219_166 : decode (cod 219) 166 = .ok (.iload 8, 2) := by rw [cc_219]; decide +kernel
theorem D219_168 : decode (cod 219) 168 = .ok (.iadd, 1) := by rw [cc_219]; decide +kernel
theorem D219_169 : decode (cod 219) 169 = .ok (.iload 10, 2) := by rw [cc_219]; decide +kernel
theorem D219_171 : decode (cod 219) 171 = .ok (.iastore, 1) := by rw [cc_219]; decide +kernel
theorem D219_172 : decode (cod 219) 172 = .ok (.iinc 8 1, 3) := by rw [cc_219]; decide +kernel
theorem D219_175 : decode (cod 219) 175 = .ok (.goto (-76), 3) := by rw [cc_219]; decide +kernel
theorem D219_178 : decode (cod 219) 178 = .ok (.aload_n 0, 1) := by rw [cc_219]; decide +kernel
theorem D219_179 : decode (cod 219) 179 = .ok (.sipush 130, 3) := by rw [cc_219]; decide +kernel
theorem D219_182 : decode (cod 219) 182 = .ok (.aload_n 0, 1) := by rw [cc_219]; decide +kernel
theorem D219_183 : decode (cod 219) 183 = .ok (.getfield 117, 3) := by rw [cc_219]; decide +kernel
theorem D219_186 : decode (cod 219) 186 = .ok (.iload_n 1, 1) := by rw [cc_219]; decide +kernel
theorem D219_187 : decode (cod 219) 187 = .ok (.iaload, 1) := by rw [cc_219]; decide +kernel
theorem D219_188 : decode (cod 219) 188 = .ok (.invokevirtual 508, 3) := by rw [cc_219]; decide +kernel
theorem D219_191 : decode (cod 219) 191 = .ok (.iload_n 3, 1) := by rw [cc_219]; decide +kernel
theorem D219_192 : decode (cod 219) 192 = .ok (.if_icmp .gt 6, 3) := by rw [cc_219]; decide +kernel
theorem D219_195 : decode (cod 219) 195 = .ok (.iload 4, 2) := by rw [cc_219]; decide +kernel
theorem D219_197 : decode (cod 219) 197 = .ok (.ireturn, 1) := by rw [cc_219]; decide +kernel
theorem D219_198 : decode (cod 219) 198 = .ok (.aload_n 0, 1) := by rw [cc_219]; decide +kernel
theorem D219_199 : decode (cod 219) 199 = .ok (.iload 7, 2) := by rw [cc_219]; decide +kernel
theorem D219_201 : decode (cod 219) 201 = .ok (.iload 4, 2) := by rw [cc_219]; decide +kernel
theorem D219_203 : decode (cod 219) 203 = .ok (.invokevirtual 514, 3) := by rw [cc_219]; decide +kernel
theorem D219_206 : decode (cod 219) 206 = .ok (.iinc 4 1, 3) := by rw [cc_219]; decide +kernel
theorem D219_209 : decode (cod 219) 209 = .ok (.goto (-159), 3) := by rw [cc_219]; decide +kernel
theorem D219_212 : decode (cod 219) 212 = .ok (.iconst (-1), 1) := by rw [cc_219]; decide +kernel
theorem D219_213 : decode (cod 219) 213 = .ok (.ireturn, 1) := by rw [cc_219]; decide +kernel
theorem b219_0 {d : Nat} {i0 : Nat} {x1 x2 x3 : Int} {I L : Nat → Nat → Nat → Int} {t : Nat → Nat} : Res (d + 1) 219 0 [vr 12 i0, vi x1, vi x2, vi x3, vx, vx, vx, vx, vx, vx, vx] [] (mk I L t) = (Cal d 150 [vr 12 i0, vi x1] (mk I L t)).bind fun v => Res (d + 1) 219 5 [vr 12 i0, vi x1, vi x2, vi x3, vx, vx, vx, vx, vx, vx, vx] (psh 150 v.1 []) v.2 :=
  Eq.trans (e_aload_n D219_0 rfl rfl) <| Eq.trans (e_iload_n D219_1 rfl rfl) <| e_callV D219_2 rfl o_219 m_12_469 (by decide) rfl rfl
theorem b219_5 {d : Nat} {i0 : Nat} {x1 x2 x3 xs0 : Int} {I L : Nat → Nat → Nat → Int} {t : Nat → Nat} : Res d 219 5 [vr 12 i0, vi x1, vi x2, vi x3, vx, vx, vx, vx, vx, vx, vx] [vi xs0] (mk I L t) = if xs0 = 0 then Res d 219 26 [vr 12 i0, vi x1, vi x2, vi x3, vx, vx, vx, vx, vx, vx, vx] [] (mk I L t) else Res d 219 8 [vr 12 i0, vi x1, vi x2, vi x3, vx, vx, vx, vx, vx, vx, vx] [] (mk I L t) :=
  e_ifeq D219_5 rfl rfl
theorem b219_8 {d : Nat} {i0 : Nat} {x1 x2 x3 : Int} {I L : Nat → Nat → Nat → Int} {t : Nat → Nat} : Res (d + 1) 219 8 [vr 12 i0, vi x1, vi x2, vi x3, vx, vx, vx, vx, vx, vx, vx] [] (mk I L t) = (Cal d 148 [vi x2] (mk I L t)).bind fun v => Res (d + 1) 219 12 [vr 12 i0, vi x1, vi x2, vi x3, vx, vx, vx, vx, vx, vx, vx] (psh 148 v.1 []) v.2 :=
  Eq.trans (e_iload_n D219_8 rfl rfl) <| e_callS D219_9 rfl o_219 m_12_233 (by decide) rfl rfl
theorem b219_12 {d : Nat} {i0 : Nat} {x1 x2 x3 xs0 : Int} {I L : Nat → Nat → Nat → Int} {t : Nat → Nat} : Res d 219 12 [vr 12 i0, vi x1, vi x2, vi x3, vx, vx, vx, vx, vx, vx, vx] [vi xs0] (mk I L t) = if xs0 = 0 then Res d 219 26 [vr 12 i0, vi x1, vi x2, vi x3, vx, vx, vx, vx, vx, vx, vx] [] (mk I L t) else Res d 219 15 [vr 12 i0, vi x1, vi x2, vi x3, vx, vx, vx, vx, vx, vx, vx] [] (mk I L t) :=
  e_ifeq D219_12 rfl rfl
theorem b219_15 {d : Nat} {i0 : Nat} {x1 x2 x3 : Int} {I L : Nat → Nat → Nat → Int} {t : Nat → Nat} : Res (d + 1) 219 15 [vr 12 i0, vi x1, vi x2, vi x3, vx, vx, vx, vx, vx, vx, vx] [] (mk I L t) = (Cal d 146 [vi x3, vi 0, vi 999] (mk I L t)).bind fun v => Res (d + 1) 219 23 [vr 12 i0, vi x1, vi x2, vi x3, vx, vx, vx, vx, vx, vx, vx] (psh 146 v.1 []) v.2 :=
  Eq.trans (e_iload_n D219_15 rfl rfl) <| Eq.trans (e_iconst (x := 0) D219_16 rfl rfl) <| Eq.trans (e_sipush (x := 999) D219_17 rfl rfl) <| e_callS D219_20 rfl o_219 m_12_219 (by decide) rfl rfl
theorem b219_23 {d : Nat} {i0 : Nat} {x1 x2 x3 xs0 : Int} {I L : Nat → Nat → Nat → Int} {t : Nat → Nat} : Res d 219 23 [vr 12 i0, vi x1, vi x2, vi x3, vx, vx, vx, vx, vx, vx, vx] [vi xs0] (mk I L t) = if ¬ xs0 = 0 then Res d 219 28 [vr 12 i0, vi x1, vi x2, vi x3, vx, vx, vx, vx, vx, vx, vx] [] (mk I L t) else Res d 219 26 [vr 12 i0, vi x1, vi x2, vi x3, vx, vx, vx, vx, vx, vx, vx] [] (mk I L t) :=
  e_ifne D219_23 rfl rfl
theorem b219_26 {d : Nat} {i0 : Nat} {x1 x2 x3 : Int} {I L : Nat → Nat → Nat → Int} {t : Nat → Nat} : Res d 219 26 [vr 12 i0, vi x1, vi x2, vi x3, vx, vx, vx, vx, vx, vx, vx] [] (mk I L t) = some (vi (-1), (mk I L t)) :=
  Eq.trans (e_iconst (x := -1) D219_26 rfl rfl) <| e_iret D219_27 rfl
theorem b219_28 {d : Nat} {i0 : Nat} {x1 x2 x3 : Int} {I L : Nat → Nat → Nat → Int} {t : Nat → Nat} : Res (d + 1) 219 28 [vr 12 i0, vi x1, vi x2, vi x3, vx, vx, vx, vx, vx, vx, vx] [] (mk I L t) = (Cal d 156 [vr 12 i0, vi x2] (mk I L t)).bind fun v => Res (d + 1) 219 33 [vr 12 i0, vi x1, vi x2, vi x3, vx, vx, vx, vx, vx, vx, vx] (psh 156 v.1 []) v.2 :=
  Eq.trans (e_aload_n D219_28 rfl rfl) <| Eq.trans (e_iload_n D219_29 rfl rfl) <| e_callV D219_30 rfl o_219 m_12_472 (by decide) rfl rfl
theorem b219_33 {d : Nat} {i0 : Nat} {x1 x2 x3 : Int} {I L : Nat → Nat → Nat → Int} {t : Nat → Nat} : Res (d + 1) 219 33 [vr 12 i0, vi x1, vi x2, vi x3, vx, vx, vx, vx, vx, vx, vx] [] (mk I L t) = (Cal d 158 [vr 12 i0] (mk I L t)).bind fun v => Res (d + 1) 219 37 [vr 12 i0, vi x1, vi x2, vi x3, vx, vx, vx, vx, vx, vx, vx] (psh 158 v.1 []) v.2 :=
  Eq.trans (e_aload_n D219_33 rfl rfl) <| e_callV D219_34 rfl o_219 m_12_499 (by decide) rfl rfl
theorem b219_37 {d : Nat} {i0 : Nat} {x1 x2 x3 xs0 : Int} {I L : Nat → Nat → Nat → Int} {t : Nat → Nat} : Res d 219 37 [vr 12 i0, vi x1, vi x2, vi x3, vx, vx, vx, vx, vx, vx, vx] [vi xs0] (mk I L t) = if ¬ xs0 = 0 then Res d 219 42 [vr 12 i0, vi x1, vi x2, vi x3, vx, vx, vx, vx, vx, vx, vx] [] (mk I L t) else Res d 219 40 [vr 12 i0, vi x1, vi x2, vi x3, vx, vx, vx, vx, vx, vx, vx] [] (mk I L t) :=
  e_ifne D219_37 rfl rfl
theorem b219_40 {d : Nat} {i0 : Nat} {x1 x2 x3 : Int} {I L : Nat → Nat → Nat → Int} {t : Nat → Nat} : Res d 219 40 [vr 12 i0, vi x1, vi x2, vi x3, vx, vx, vx, vx, vx, vx, vx] [] (mk I L t) = some (vi (-1), (mk I L t)) :=
  Eq.trans (e_iconst (x := -1) D219_40 rfl rfl) <| e_iret D219_41 rfl
theorem b219_42 {d : Nat} {i0 : Nat} {x1 x2 x3 : Int} {I L : Nat → Nat → Nat → Int} {t : Nat → Nat} : Res (d + 1) 219 42 [vr 12 i0, vi x1, vi x2, vi x3, vx, vx, vx, vx, vx, vx, vx] [] (mk I L t) = (Cal d 196 [vr 12 i0, vi x1] (mk I L t)).bind fun v => Res (d + 1) 219 47 [vr 12 i0, vi x1, vi x2, vi x3, vx, vx, vx, vx, vx, vx, vx] (psh 196 v.1 []) v.2 :=
  Eq.trans (e_aload_n D219_42 rfl rfl) <| Eq.trans (e_iload_n D219_43 rfl rfl) <| e_callV D219_44 rfl o_219 m_12_459 (by decide) rfl rfl
theorem b219_47 {d : Nat} {i0 : Nat} {x1 x2 x3 : Int} {I L : Nat → Nat → Nat → Int} {t : Nat → Nat} : Res d 219 47 [vr 12 i0, vi x1, vi x2, vi x3, vx, vx, vx, vx, vx, vx, vx] [] (mk I L t) = Res d 219 50 [vr 12 i0, vi x1, vi x2, vi x3, vi 1, vx, vx, vx, vx, vx, vx] [] (mk I L t) :=
  Eq.trans (e_iconst (x := 1) D219_47 rfl rfl) <| e_istore (ls1 := [vr 12 i0, vi x1, vi x2, vi x3, vi 1, vx, vx, vx, vx, vx, vx]) D219_48 rfl (show 4 < 11 by decide) rfl
theorem b219_50 {d : Nat} {i0 : Nat} {x1 x2 x3 x4 : Int} {u5 u6 u7 u8 u9 u10 : MV} {I L : Nat → Nat → Nat → Int} {t : Nat → Nat} : Res d 219 50 [vr 12 i0, vi x1, vi x2, vi x3, vi x4, u5, u6, u7, u8, u9, u10] [] (mk I L t) = if 31 ≤ x4 then Res d 219 212 [vr 12 i0, vi x1, vi x2, vi x3, vi x4, u5, u6, u7, u8, u9, u10] [] (mk I L t) else Res d 219 57 [vr 12 i0, vi x1, vi x2, vi x3, vi x4, u5, u6, u7, u8, u9, u10] [] (mk I L t) :=
  Eq.trans (e_iload D219_50 rfl rfl) <| Eq.trans (e_bipush (x := 31) D219_52 rfl rfl) <| e_icge D219_54 rfl rfl
theorem b219_57 {d : Nat} {i0 : Nat} {x1 x2 x3 x4 : Int} {u5 u6 u7 u8 u9 u10 : MV} {I L : Nat → Nat → Nat → Int} {t : Nat → Nat} : Res (d + 1) 219 57 [vr 12 i0, vi x1, vi x2, vi x3, vi x4, u5, u6, u7, u8, u9, u10] [] (mk I L t) = (Cal d 217 [vr 12 i0, vi (-1)] (mk I L t)).bind fun v => Res (d + 1) 219 62 [vr 12 i0, vi x1, vi x2, vi x3, vi x4, u5, u6, u7, u8, u9, u10] (psh 217 v.1 []) v.2 :=
  Eq.trans (e_aload_n D219_57 rfl rfl) <| Eq.trans (e_iconst (x := -1) D219_58 rfl rfl) <| e_callV D219_59 rfl o_219 m_12_511 (by decide) rfl rfl
theorem b219_62 {d : Nat} {i0 : Nat} {x1 x2 x3 x4 xs0 : Int} {u5 u6 u7 u8 u9 u10 : MV} {I L : Nat → Nat → Nat → Int} {t : Nat → Nat} : Res (d + 1) 219 62 [vr 12 i0, vi x1, vi x2, vi x3, vi x4, u5, u6, u7, u8, u9, u10] [vi xs0] (mk I L t) = (Cal d 217 [vr 12 i0, vi xs0] (mk I L t)).bind fun v => Res (d + 1) 219 70 [vr 12 i0, vi x1, vi x2, vi x3, vi x4, vi xs0, u6, u7, u8, u9, u10] (psh 217 v.1 []) v.2 :=
  Eq.trans (e_istore (ls1 := [vr 12 i0, vi x1, vi x2, vi x3, vi x4, vi xs0, u6, u7, u8, u9, u10]) D219_62 rfl (show 5 < 11 by decide) rfl) <| Eq.trans (e_aload_n D219_64 rfl rfl) <| Eq.trans (e_iload D219_65 rfl rfl) <| e_callV D219_67 rfl o_219 m_12_511 (by decide) rfl rfl
theorem b219_70 {d : Nat} {i0 : Nat} {x1 x2 x3 x4 x5 xs0 : Int} {u6 u7 u8 u9 u10 : MV} {I L : Nat → Nat → Nat → Int} {t : Nat → Nat} : Res d 219 70 [vr 12 i0, vi x1, vi x2, vi x3, vi x4, vi x5, u6, u7, u8, u9, u10] [vi xs0] (mk I L t) = if ¬ xs0 = -1 then Res d 219 82 [vr 12 i0, vi x1, vi x2, vi x3, vi x4, vi x5, vi xs0, u7, u8, u9, u10] [] (mk I L t) else Res d 219 78 [vr 12 i0, vi x1, vi x2, vi x3, vi x4, vi x5, vi xs0, u7, u8, u9, u10] [] (mk I L t) :=
  Eq.trans (e_istore (ls1 := [vr 12 i0, vi x1, vi x2, vi x3, vi x4, vi x5, vi xs0, u7, u8, u9, u10]) D219_70 rfl (show 6 < 11 by decide) rfl) <| Eq.trans (e_iload D219_72 rfl rfl) <| Eq.trans (e_iconst (x := -1) D219_74 rfl rfl) <| e_icne D219_75 rfl rfl
theorem b219_78 {d : Nat} {i0 : Nat} {x1 x2 x3 x4 x5 x6 : Int} {u7 u8 u9 u10 : MV} {I L : Nat → Nat → Nat → Int} {t : Nat → Nat} : Res d 219 78 [vr 12 i0, vi x1, vi x2, vi x3, vi x4, vi x5, vi x6, u7, u8, u9, u10] [] (mk I L t) = Res d 219 82 [vr 12 i0, vi x1, vi x2, vi x3, vi x4, vi x5, vi x5, u7, u8, u9, u10] [] (mk I L t) :=
  Eq.trans (e_iload D219_78 rfl rfl) <| e_istore (ls1 := [vr 12 i0, vi x1, vi x2, vi x3, vi x4, vi x5, vi x5, u7, u8, u9, u10]) D219_80 rfl (show 6 < 11 by decide) rfl
theorem b219_82 {d : Nat} {i0 : Nat} {x1 x2 x3 x4 x5 x6 : Int} {u7 u8 u9 u10 : MV} {I L : Nat → Nat → Nat → Int} {t : Nat → Nat} (g1 : 0 ≤ x5 ∧ x5 < 9) (g2 : 0 ≤ I 54 i0 x5.toNat ∧ I 54 i0 x5.toNat < 132) : Res d 219 82 [vr 12 i0, vi x1, vi x2, vi x3, vi x4, vi x5, vi x6, u7, u8, u9, u10] [] (mk I L t) = Res d 219 99 [vr 12 i0, vi x1, vi x2, vi x3, vi x4, vi x5, vi x6, vi (I 49 i0 (I 54 i0 x5.toNat).toNat), vi 0, u9, u10] [] (mk I L t) :=
  Eq.trans (e_aload_n D219_82 rfl rfl) <| Eq.trans (e_getP (p := (49, i0)) D219_83 rfl o_219 f_12_13 (sh_12 _) (by decide) (pp_12_6 _ _)) <| Eq.trans (e_aload_n D219_86 rfl rfl) <| Eq.trans (e_getP (p := (54, i0)) D219_87 rfl o_219 f_12_28 (sh_12 _) (by decide) (pp_12_11 _ _)) <| Eq.trans (e_iload D219_90 rfl rfl) <| Eq.trans (e_iald D219_92 rfl (al_54 _) g1) <| Eq.trans (e_iald D219_93 rfl (al_49 _) g2) <| Eq.trans (e_istore (ls1 := [vr 12 i0, vi x1, vi x2, vi x3, vi x4, vi x5, vi x6, vi (I 49 i0 (I 54 i0 x5.toNat).toNat), u8, u9, u10]) D219_94 rfl (show 7 < 11 by decide) rfl) <| Eq.trans (e_iconst (x := 0) D219_96 rfl rfl) <| e_istore (ls1 := [vr 12 i0, vi x1, vi x2, vi x3, vi x4, vi x5, vi x6, vi (I 49 i0 (I 54 i0 x5.toNat).toNat), vi 0, u9, u10]) D219_97 rfl (show 8 < 11 by decide) rfl
theorem b219_99 {d : Nat} {i0 : Nat} {x1 x2 x3 x4 x5 x6 x7 x8 : Int} {u9 u10 : MV} {I L : Nat → Nat → Nat → Int} {t : Nat → Nat} : Res d 219 99 [vr 12 i0, vi x1, vi x2, vi x3, vi x4, vi x5, vi x6, vi x7, vi x8, u9, u10] [] (mk I L t) = if 16 ≤ x8 then Res d 219 178 [vr 12 i0, vi x1, vi x2, vi x3, vi x4, vi x5, vi x6, vi x7, vi x8, u9, u10] [] (mk I L t) else Res d 219 106 [vr 12 i0, vi x1, vi x2, vi x3, vi x4, vi x5, vi x6, vi x7, vi x8, u9, u10] [] (mk I L t) :=
  Eq.trans (e_iload D219_99 rfl rfl) <| Eq.trans (e_bipush (x := 16) D219_101 rfl rfl) <| e_icge D219_103 rfl rfl
theorem b219_106 {d : Nat} {i0 : Nat} {x1 x2 x3 x4 x5 x6 x7 x8 : Int} {u9 u10 : MV} {I L : Nat → Nat → Nat → Int} {t : Nat → Nat} (g1 : 0 ≤ x5 ∧ x5 < 9) (g2 : 0 ≤ w32 ((w32 (16 * (I 54 i0 x5.toNat))) + x8) ∧ w32 ((w32 (16 * (I 54 i0 x5.toNat))) + x8) < 2112) (g3 : 0 ≤ x6 ∧ x6 < 9) (g4 : 0 ≤ w32 ((w32 (16 * (I 54 i0 x6.toNat))) + x8) ∧ w32 ((w32 (16 * (I 54 i0 x6.toNat))) + x8) < 2112) (g5 : 0 ≤ w32 (2080 + x8) ∧ w32 (2080 + x8) < 2112) (g6 : 0 ≤ w32 (2096 + x8) ∧ w32 (2096 + x8) < 2112) : Res d 219 106 [vr 12 i0, vi x1, vi x2, vi x3, vi x4, vi x5, vi x6, vi x7, vi x8, u9, u10] [] (mk I L t) = Res d 219 99 [vr 12 i0, vi x1, vi x2, vi x3, vi x4, vi x5, vi x6, vi x7, vi (w32 (x8 + 1)), vi (I 48 i0 (w32 ((w32 (16 * (I 54 i0 x5.toNat))) + x8)).toNat), vi (I 48 i0 (w32 ((w32 (16 * (I 54 i0 x6.toNat))) + x8)).toNat)] [] (mk (up3 (up3 I 48 i0 (w32 (2080 + x8)).toNat (I 48 i0 (w32 ((w32 (16 * (I 54 i0 x5.toNat))) + x8)).toNat)) 48 i0 (w32 (2096 + x8)).toNat (I 48 i0 (w32 ((w32 (16 * (I 54 i0 x6.toNat))) + x8)).toNat)) L t) :=
  Eq.trans (e_aload_n D219_106 rfl rfl) <| Eq.trans (e_getP (p := (48, i0)) D219_107 rfl o_219 f_12_7 (sh_12 _) (by decide) (pp_12_5 _ _)) <| Eq.trans (e_bipush (x := 16) D219_110 rfl rfl) <| Eq.trans (e_aload_n D219_112 rfl rfl) <| Eq.trans (e_getP (p := (54, i0)) D219_113 rfl o_219 f_12_28 (sh_12 _) (by decide) (pp_12_11 _ _)) <| Eq.trans (e_iload D219_116 rfl rfl) <| Eq.trans (e_iald D219_118 rfl (al_54 _) g1) <| Eq.trans (e_imul D219_119 rfl) <| Eq.trans (e_iload D219_120 rfl rfl) <| Eq.trans (e_iadd D219_122 rfl) <| Eq.trans (e_iald D219_123 rfl (al_48 _) g2) <| Eq.trans (e_istore (ls1 := [vr 12 i0, vi x1, vi x2, vi x3, vi x4, vi x5, vi x6, vi x7, vi x8, vi (I 48 i0 (w32 ((w32 (16 * (I 54 i0 x5.toNat))) + x8)).toNat), u10]) D219_124 rfl (show 9 < 11 by decide) rfl) <| Eq.trans (e_aload_n D219_126 rfl rfl) <| Eq.trans (e_getP (p := (48, i0)) D219_127 rfl o_219 f_12_7 (sh_12 _) (by decide) (pp_12_5 _ _)) <| Eq.trans (e_bipush (x := 16) D219_130 rfl rfl) <| Eq.trans (e_aload_n D219_132 rfl rfl) <| Eq.trans (e_getP (p := (54, i0)) D219_133 rfl o_219 f_12_28 (sh_12 _) (by decide) (pp_12_11 _ _)) <| Eq.trans (e_iload D219_136 rfl rfl) <| Eq.trans (e_iald D219_138 rfl (al_54 _) g3) <| Eq.trans (e_imul D219_139 rfl) <| Eq.trans (e_iload D219_140 rfl rfl) <| Eq.trans (e_iadd D219_142 rfl) <| Eq.trans (e_iald D219_143 rfl (al_48 _) g4) <| Eq.trans (e_istore (ls1 := [vr 12 i0, vi x1, vi x2, vi x3, vi x4, vi x5, vi x6, vi x7, vi x8, vi (I 48 i0 (w32 ((w32 (16 * (I 54 i0 x5.toNat))) + x8)).toNat), vi (I 48 i0 (w32 ((w32 (16 * (I 54 i0 x6.toNat))) + x8)).toNat)]) D219_144 rfl (show 10 < 11 by decide) rfl) <| Eq.trans (e_aload_n D219_146 rfl rfl) <| Eq.trans (e_getP (p := (48, i0)) D219_147 rfl o_219 f_12_7 (sh_12 _) (by decide) (pp_12_5 _ _)) <| Eq.trans (e_sipush (x := 2080) D219_150 rfl rfl) <| Eq.trans (e_iload D219_153 rfl rfl) <| Eq.trans (e_iadd D219_155 rfl) <| Eq.trans (e_iload D219_156 rfl rfl) <| Eq.trans (e_iast D219_158 rfl (al_48 _) rfl g5) <| Eq.trans (e_aload_n D219_159 rfl rfl) <| Eq.trans (e_getP (p := (48, i0)) D219_160 rfl o_219 f_12_7 (sh_12 _) (by decide) (pp_12_5 _ _)) <| Eq.trans (e_sipush (x := 2096) D219_163 rfl rfl) <| Eq.trans (e_iload D219_166 rfl rfl) <| Eq.trans (e_iadd D219_168 rfl) <| Eq.trans (e_iload D219_169 rfl rfl) <| Eq.trans (e_iast D219_171 rfl (al_48 _) rfl g6) <| Eq.trans (e_iinc (ls1 := [vr 12 i0, vi x1, vi x2, vi x3, vi x4, vi x5, vi x6, vi x7, vi (w32 (x8 + 1)), vi (I 48 i0 (w32 ((w32 (16 * (I 54 i0 x5.toNat))) + x8)).toNat), vi (I 48 i0 (w32 ((w32 (16 * (I 54 i0 x6.toNat))) + x8)).toNat)]) D219_172 rfl rfl rfl) <| e_goto (q1 := 99) D219_175 rfl
theorem b219_178 {d : Nat} {i0 : Nat} {x1 x2 x3 x4 x5 x6 x7 x8 : Int} {u9 u10 : MV} {I L : Nat → Nat → Nat → Int} {t : Nat → Nat} (g1 : 0 ≤ x1 ∧ x1 < 20) : Res (d + 1) 219 178 [vr 12 i0, vi x1, vi x2, vi x3, vi x4, vi x5, vi x6, vi x7, vi x8, u9, u10] [] (mk I L t) = (Cal d 215 [vr 12 i0, vi 130, vi (I 82 i0 x1.toNat)] (mk I L t)).bind fun v => Res (d + 1) 219 191 [vr 12 i0, vi x1, vi x2, vi x3, vi x4, vi x5, vi x6, vi x7, vi x8, u9, u10] (psh 215 v.1 []) v.2 :=
  Eq.trans (e_aload_n D219_178 rfl rfl) <| Eq.trans (e_sipush (x := 130) D219_179 rfl rfl) <| Eq.trans (e_aload_n D219_182 rfl rfl) <| Eq.trans (e_getP (p := (82, i0)) D219_183 rfl o_219 f_12_117 (sh_12 _) (by decide) (pp_12_60 _ _)) <| Eq.trans (e_iload_n D219_186 rfl rfl) <| Eq.trans (e_iald D219_187 rfl (al_82 _) g1) <| e_callV D219_188 rfl o_219 m_12_508 (by decide) rfl rfl
theorem b219_191 {d : Nat} {i0 : Nat} {x1 x2 x3 x4 x5 x6 x7 x8 xs0 : Int} {u9 u10 : MV} {I L : Nat → Nat → Nat → Int} {t : Nat → Nat} : Res d 219 191 [vr 12 i0, vi x1, vi x2, vi x3, vi x4, vi x5, vi x6, vi x7, vi x8, u9, u10] [vi xs0] (mk I L t) = if x3 < xs0 then Res d 219 198 [vr 12 i0, vi x1, vi x2, vi x3, vi x4, vi x5, vi x6, vi x7, vi x8, u9, u10] [] (mk I L t) else Res d 219 195 [vr 12 i0, vi x1, vi x2, vi x3, vi x4, vi x5, vi x6, vi x7, vi x8, u9, u10] [] (mk I L t) :=
  Eq.trans (e_iload_n D219_191 rfl rfl) <| e_icgt D219_192 rfl rfl
theorem b219_195 {d : Nat} {i0 : Nat} {x1 x2 x3 x4 x5 x6 x7 x8 : Int} {u9 u10 : MV} {I L : Nat → Nat → Nat → Int} {t : Nat → Nat} : Res d 219 195 [vr 12 i0, vi x1, vi x2, vi x3, vi x4, vi x5, vi x6, vi x7, vi x8, u9, u10] [] (mk I L t) = some (vi x4, (mk I L t)) :=
  Eq.trans (e_iload D219_195 rfl rfl) <| e_iret D219_197 rfl
theorem b219_198 {d : Nat} {i0 : Nat} {x1 x2 x3 x4 x5 x6 x7 x8 : Int} {u9 u10 : MV} {I L : Nat → Nat → Nat → Int} {t : Nat → Nat} : Res (d + 1) 219 198 [vr 12 i0, vi x1, vi x2, vi x3, vi x4, vi x5, vi x6, vi x7, vi x8, u9, u10] [] (mk I L t) = (Cal d 218 [vr 12 i0, vi x7, vi x4] (mk I L t)).bind fun v => Res (d + 1) 219 206 [vr 12 i0, vi x1, vi x2, vi x3, vi x4, vi x5, vi x6, vi x7, vi x8, u9, u10] (psh 218 v.1 []) v.2 :=
  Eq.trans (e_aload_n D219_198 rfl rfl) <| Eq.trans (e_iload D219_199 rfl rfl) <| Eq.trans (e_iload D219_201 rfl rfl) <| e_callV D219_203 rfl o_219 m_12_514 (by decide) rfl rfl
theorem b219_206 {d : Nat} {i0 : Nat} {x1 x2 x3 x4 x5 x6 x7 x8 : Int} {u9 u10 : MV} {I L : Nat → Nat → Nat → Int} {t : Nat → Nat} : Res d 219 206 [vr 12 i0, vi x1, vi x2, vi x3, vi x4, vi x5, vi x6, vi x7, vi x8, u9, u10] [] (mk I L t) = Res d 219 50 [vr 12 i0, vi x1, vi x2, vi x3, vi (w32 (x4 + 1)), vi x5, vi x6, vi x7, vi x8, u9, u10] [] (mk I L t) :=
  Eq.trans (e_iinc (ls1 := [vr 12 i0, vi x1, vi x2, vi x3, vi (w32 (x4 + 1)), vi x5, vi x6, vi x7, vi x8, u9, u10]) D219_206 rfl rfl rfl) <| e_goto (q1 := 50) D219_209 rfl
theorem b219_212 {d : Nat} {i0 : Nat} {x1 x2 x3 x4 : Int} {u5 u6 u7 u8 u9 u10 : MV} {I L : Nat → Nat → Nat → Int} {t : Nat → Nat} : Res d 219 212 [vr 12 i0, vi x1, vi x2, vi x3, vi x4, u5, u6, u7, u8, u9, u10] [] (mk I L t) = some (vi (-1), (mk I L t)) :=
  Eq.trans (e_iconst (x := -1) D219_212 rfl rfl) <| e_iret D219_213 rfl
/-! m_scoreOf -/
theorem cc_220 : cod 220 = cX12_scoreOf := rfl
theorem D220_0 : decode (cod 220) 0 = .ok (.iconst 0, 1) := by rw [cc_220]; decide +kernel
theorem D220_1 : decode (cod 220) 1 = .ok (.istore_n 2, 1) := by rw [cc_220]; decide +kernel
theorem D220_2 : decode (cod 220) 2 = .ok (.iconst 0, 1) := by rw [cc_220]; decide +kernel
theorem D220_3 : decode (cod 220) 3 = .ok (.istore_n 3, 1) := by rw [cc_220]; decide +kernel
theorem D220_4 : decode (cod 220) 4 = .ok (.iload_n 3, 1) := by rw [cc_220]; decide +kernel
theorem D220_5 : decode (cod 220) 5 = .ok (.aload_n 0, 1) := by rw [cc_220]; decide +kernel
theorem D220_6 : decode (cod 220) 6 = .ok (.getfield 406, 3) := by rw [cc_220]; decide +kernel
theorem D220_9 : decode (cod 220) 9 = .ok (.if_icmp .ge 118, 3) := by rw [cc_220]; decide +kernel
theorem D220_12 : decode (cod 220) 12 = .ok (.aload_n 0, 1) := by rw [cc_220]; decide +kernel
theorem D220_13 : decode (cod 220) 13 = .ok (.getfield 7, 3) := by rw [cc_220]; decide +kernel
theorem D220_16 : decode (cod 220) 16 = .ok (.bipush 16, 2) := by rw [cc_220]; decide +kernel
theorem D220_18 : decode (cod 220) 18 = .ok (.iload_n 1, 1) := by rw [cc_220]; decide +kernel
theorem D220_19 : decode (cod 220) 19 = .ok (.imul, 1) := by rw [cc_220]; decide +kernel
theorem D220_20 : decode (cod 220) 20 = .ok (.aload_n 0, 1) := by rw [cc_220]; decide +kernel
theorem D220_21 : decode (cod 220) 21 = .ok (.getfield 58, 3) := by rw [cc_220]; decide +kernel
theorem D220_24 : decode (cod 220) 24 = .ok (.iload_n 3, 1) := by rw [cc_220]; decide +kernel
theorem D220_25 : decode (cod 220) 25 = .ok (.iaload, 1) := by rw [cc_220]; decide +kernel
theorem D220_26 : decode (cod 220) 26 = .ok (.iadd, 1) := by rw [cc_220]; decide +kernel
theorem D220_27 : decode (cod 220) 27 = .ok (.iaload, 1) := by rw [cc_220]; decide +kernel
theorem D220_28 : decode (cod 220) 28 = .ok (.istore 4, 2) := by rw [cc_220]; decide +kernel
theorem D220_30 : decode (cod 220) 30 = .ok (.aload_n 0, 1) := by rw [cc_220]; decide +kernel
theorem D220_31 : decode (cod 220) 31 = .ok (.getfield 61, 3) := by rw [cc_220]; decide +kernel
theorem D220_34 : decode (cod 220) 34 = .ok (.iload_n 3, 1) := by rw [cc_220]; decide +kernel
theorem D220_35 : decode (cod 220) 35 = .ok (.iaload, 1) := by rw [cc_220]; decide +kernel
theorem D220_36 : decode (cod 220) 36 = .ok (.bipush 60, 2) := by rw [cc_220]; decide +kernel
theorem D220_38 : decode (cod 220) 38 = .ok (.if_icmp .ne 22, 3) := by rw [cc_220]; decide +kernel
theorem D220_41 : decode (cod 220) 41 = .ok (.iload 4, 2) := by rw [cc_220]; decide +kernel
theorem D220_43 : decode (cod 220) 43 = .ok (.aload_n 0, 1) := by rw [cc_220]; decide +kernel
theorem D220_44 : decode (cod 220) 44 = .ok (.getfield 64, 3) := by rw [cc_220]; decide +kernel
theorem D220_47 : decode (cod 220) 47 = .ok (.iload_n 3, 1) := by rw [cc_220]; decide +kernel
theorem D220_48 : decode (cod 220) 48 = .ok (.iaload, 1) := by rw [cc_220]; decide +kernel
theorem D220_49 : decode (cod 220) 49 = .ok (.if_icmp .ge 7, 3) := by rw [cc_220]; decide +kernel
theorem D220_52 : decode (cod 220) 52 = .ok (.iconst 1, 1) := by rw [cc_220]; decide +kernel
theorem D220_53 : decode (cod 220) 53 = .ok (.goto 53, 3) := by rw [cc_220]; decide +kernel
theorem D220_56 : decode (cod 220) 56 = .ok (.iconst 0, 1) := by rw [cc_220]; decide +kernel
theorem D220_57 : decode (cod 220) 57 = .ok (.goto 49, 3) := by rw [cc_220]; decide +kernel
theorem D220_60 : decode (cod 220) 60 = .ok (.aload_n 0, 1) := by rw [cc_220]; decide +kernel
theorem D220_61 : decode (cod 220) 61 = .ok (.getfield 61, 3) := by rw [cc_220]; decide +kernel
theorem D220_64 : decode (cod 220) 64 = .ok (.iload_n 3, 1) := by rw [cc_220]; decide +kernel
theorem D220_65 : decode (cod 220) 65 = .ok (.iaload, 1) := by rw [cc_220]; decide +kernel
theorem D220_66 : decode (cod 220) 66 = .ok (.bipush 61, 2) := by rw [cc_220]; decide +kernel
theorem D220_68 : decode (cod 220) 68 = .ok (.if_icmp .ne 22, 3) := by rw [cc_220]; decide +kernel
theorem D220_71 : decode (cod 220) 71 = .ok (.iload 4, 2) := by rw [cc_220]; decide +kernel
theorem D220_73 : decode (cod 220) 73 = .ok (.aload_n 0, 1) := by rw [cc_220]; decide +kernel
theorem D220_74 : decode (cod 220) 74 = .ok (.getfield 64, 3) := by rw [cc_220]; decide +kernel
theorem D220_77 : decode (cod 220) 77 = .ok (.iload_n 3, 1) := by rw [cc_220]; decide +kernel
theorem D220_78 : decode (cod 220) 78 = .ok (.iaload, 1) := by rw [cc_220]; decide +kernel
theorem D220_79 : decode (cod 220) 79 = .ok (.if_icmp .ne 7, 3) := by rw [cc_220]; decide +kernel
theorem D220_82 : decode (cod 220) 82 = .ok (.iconst 1, 1) := by rw [cc_220]; decide +kernel
theorem D220_83 : decode (cod 220) 83 = .ok (.goto 23, 3) := by rw [cc_220]; decide +kernel
theorem D220_86 : decode (cod 220) 86 = .ok (.iconst 0, 1) := by rw [cc_220]; decide +kernel
theorem D220_87 : decode (cod 220) 87 = .ok (.goto 19, 3) := by rw [cc_220]; decide +kernel
theorem D220_90 : decode (cod 220) 90 = .ok (.iload 4, 2) := by rw [cc_220]; decide +kernel
theorem D220_92 : decode (cod 220) 92 = .ok (.aload_n 0, 1) := by rw [cc_220]; decide +kernel
theorem D220_93 : decode (cod 220) 93 = .ok (.getfield 64, 3) := by rw [cc_220]; decide +kernel
theorem D220_96 : decode (cod 220) 96 = .ok (.iload_n 3, 1) := by rw [cc_220]; decide +kernel
theorem D220_97 : decode (cod 220) 97 = .ok (.iaload, 1) := by rw [cc_220]; decide +kernel
theorem D220_98 : decode (cod 220) 98 = .ok (.if_icmp .le 7, 3) := by rw [cc_220]; decide +kernel
theorem D220_101 : decode (cod 220) 101 = .ok (.iconst 1, 1) := by rw [cc_220]; decide +kernel
theorem D220_102 : decode (cod 220) 102 = .ok (.goto 4, 3) := by rw [cc_220]; decide +kernel
theorem D220_105 : decode (cod 220) 105 = .ok (.iconst 0, 1) := by rw [cc_220]; decide +kernel
theorem D220_106 : decode (cod 220) 106 = .ok (.istore 5, 2) := by rw [cc_220]; decide +kernel
theorem D220_108 : decode (cod 220) 108 = .ok (.iload_n 2, 1) := by rw [cc_220]; decide +kernel
theorem D220_109 : decode (cod 220) 109 = .ok (.iload 5, 2) := by rw [cc_220]; decide +kernel
theorem D220_111 : decode (cod 220) 111 = .ok (.ifCond .eq 7, 3) := by rw [cc_220]; decide +kernel
theorem D220_114 : decode (cod 220) 114 = .ok (.iconst 1, 1) := by rw [cc_220]; decide +kernel
theorem D220_115 : decode (cod 220) 115 = .ok (.goto 4, 3) := by rw [cc_220]; decide +kernel
theorem D220_118 : decode (cod 220) 118 = .ok (.iconst 0, 1) := by rw [cc_220]; decide +kernel
theorem D220_119 : decode (cod 220) 119 = .ok (.iadd, 1) := by rw [cc_220]; decide +kernel
theorem D220_120 : decode (cod 220) 120 = .ok (.istore_n 2, 1) := by rw [cc_220]; decide +kernel
theorem D220_121 : decode (cod 220) 121 = .ok (.iinc 3 1, 3) := by rw [cc_220]; decide +kernel
theorem D220_124 : decode (cod 220) 124 = .ok (.goto (-120), 3) := by rw [cc_220]; decide +kernel
theorem D220_127 : decode (cod 220) 127 = .ok (.iload_n 2, 1) := by rw [cc_220]; decide +kernel
theorem D220_128 : decode (cod 220) 128 = .ok (.ireturn, 1) := by rw [cc_220]; decide +kernel
theorem b220_0 {d : Nat} {i0 : Nat} {x1 : Int} {I L : Nat → Nat → Nat → Int} {t : Nat → Nat} : Res d 220 0 [vr 12 i0, vi x1, vx, vx, vx, vx] [] (mk I L t) = Res d 220 4 [vr 12 i0, vi x1, vi 0, vi 0, vx, vx] [] (mk I L t) :=
  Eq.trans (e_iconst (x := 0) D220_0 rfl rfl) <| Eq.trans (e_istore_n (ls1 := [vr 12 i0, vi x1, vi 0, vx, vx, vx]) D220_1 rfl (show 2 < 6 by decide) rfl) <| Eq.trans (e_iconst (x := 0) D220_2 rfl rfl) <| e_istore_n (ls1 := [vr 12 i0, vi x1, vi 0, vi 0, vx, vx]) D220_3 rfl (show 3 < 6 by decide) rfl
theorem b220_4 {d : Nat} {i0 : Nat} {x1 x2 x3 : Int} {u4 u5 : MV} {I L : Nat → Nat → Nat → Int} {t : Nat → Nat} : Res d 220 4 [vr 12 i0, vi x1, vi x2, vi x3, u4, u5] [] (mk I L t) = if I 12 i0 33 ≤ x3 then Res d 220 127 [vr 12 i0, vi x1, vi x2, vi x3, u4, u5] [] (mk I L t) else Res d 220 12 [vr 12 i0, vi x1, vi x2, vi x3, u4, u5] [] (mk I L t) :=
  Eq.trans (e_iload_n D220_4 rfl rfl) <| Eq.trans (e_aload_n D220_5 rfl rfl) <| Eq.trans (e_getI D220_6 rfl o_220 f_12_406 (sh_12 _) (by decide)) <| e_icge D220_9 rfl rfl
theorem b220_12 {d : Nat} {i0 : Nat} {x1 x2 x3 : Int} {u4 u5 : MV} {I L : Nat → Nat → Nat → Int} {t : Nat → Nat} (g1 : 0 ≤ x3 ∧ x3 < 12) (g2 : 0 ≤ w32 ((w32 (16 * x1)) + (I 64 i0 x3.toNat)) ∧ w32 ((w32 (16 * x1)) + (I 64 i0 x3.toNat)) < 2112) : Res d 220 12 [vr 12 i0, vi x1, vi x2, vi x3, u4, u5] [] (mk I L t) = if ¬ I 65 i0 x3.toNat = 60 then Res d 220 60 [vr 12 i0, vi x1, vi x2, vi x3, vi (I 48 i0 (w32 ((w32 (16 * x1)) + (I 64 i0 x3.toNat))).toNat), u5] [] (mk I L t) else Res d 220 41 [vr 12 i0, vi x1, vi x2, vi x3, vi (I 48 i0 (w32 ((w32 (16 * x1)) + (I 64 i0 x3.toNat))).toNat), u5] [] (mk I L t) :=
  Eq.trans (e_aload_n D220_12 rfl rfl) <| Eq.trans (e_getP (p := (48, i0)) D220_13 rfl o_220 f_12_7 (sh_12 _) (by decide) (pp_12_5 _ _)) <| Eq.trans (e_bipush (x := 16) D220_16 rfl rfl) <| Eq.trans (e_iload_n D220_18 rfl rfl) <| Eq.trans (e_imul D220_19 rfl) <| Eq.trans (e_aload_n D220_20 rfl rfl) <| Eq.trans (e_getP (p := (64, i0)) D220_21 rfl o_220 f_12_58 (sh_12 _) (by decide) (pp_12_22 _ _)) <| Eq.trans (e_iload_n D220_24 rfl rfl) <| Eq.trans (e_iald D220_25 rfl (al_64 _) g1) <| Eq.trans (e_iadd D220_26 rfl) <| Eq.trans (e_iald D220_27 rfl (al_48 _) g2) <| Eq.trans (e_istore (ls1 := [vr 12 i0, vi x1, vi x2, vi x3, vi (I 48 i0 (w32 ((w32 (16 * x1)) + (I 64 i0 x3.toNat))).toNat), u5]) D220_28 rfl (show 4 < 6 by decide) rfl) <| Eq.trans (e_aload_n D220_30 rfl rfl) <| Eq.trans (e_getP (p := (65, i0)) D220_31 rfl o_220 f_12_61 (sh_12 _) (by decide) (pp_12_23 _ _)) <| Eq.trans (e_iload_n D220_34 rfl rfl) <| Eq.trans (e_iald D220_35 rfl (al_65 _) g1) <| Eq.trans (e_bipush (x := 60) D220_36 rfl rfl) <| e_icne D220_38 rfl rfl
theorem b220_41 {d : Nat} {i0 : Nat} {x1 x2 x3 x4 : Int} {u5 : MV} {I L : Nat → Nat → Nat → Int} {t : Nat → Nat} (g1 : 0 ≤ x3 ∧ x3 < 12) : Res d 220 41 [vr 12 i0, vi x1, vi x2, vi x3, vi x4, u5] [] (mk I L t) = if I 66 i0 x3.toNat ≤ x4 then Res d 220 56 [vr 12 i0, vi x1, vi x2, vi x3, vi x4, u5] [] (mk I L t) else Res d 220 52 [vr 12 i0, vi x1, vi x2, vi x3, vi x4, u5] [] (mk I L t) :=
  Eq.trans (e_iload D220_41 rfl rfl) <| Eq.trans (e_aload_n D220_43 rfl rfl) <| Eq.trans (e_getP (p := (66, i0)) D220_44 rfl o_220 f_12_64 (sh_12 _) (by decide) (pp_12_24 _ _)) <| Eq.trans (e_iload_n D220_47 rfl rfl) <| Eq.trans (e_iald D220_48 rfl (al_66 _) g1) <| e_icge D220_49 rfl rfl
theorem b220_52 {d : Nat} {i0 : Nat} {x1 x2 x3 x4 : Int} {u5 : MV} {I L : Nat → Nat → Nat → Int} {t : Nat → Nat} : Res d 220 52 [vr 12 i0, vi x1, vi x2, vi x3, vi x4, u5] [] (mk I L t) = Res d 220 106 [vr 12 i0, vi x1, vi x2, vi x3, vi x4, u5] [vi 1] (mk I L t) :=
  Eq.trans (e_iconst (x := 1) D220_52 rfl rfl) <| e_goto (q1 := 106) D220_53 rfl
theorem b220_56 {d : Nat} {i0 : Nat} {x1 x2 x3 x4 : Int} {u5 : MV} {I L : Nat → Nat → Nat → Int} {t : Nat → Nat} : Res d 220 56 [vr 12 i0, vi x1, vi x2, vi x3, vi x4, u5] [] (mk I L t) = Res d 220 106 [vr 12 i0, vi x1, vi x2, vi x3, vi x4, u5] [vi 0] (mk I L t) :=
  Eq.trans (e_iconst (x := 0) D220_56 rfl rfl) <| e_goto (q1 := 106) D220_57 rfl
theorem b220_60 {d : Nat} {i0 : Nat} {x1 x2 x3 x4 : Int} {u5 : MV} {I L : Nat → Nat → Nat → Int} {t : Nat → Nat} (g1 : 0 ≤ x3 ∧ x3 < 12) : Res d 220 60 [vr 12 i0, vi x1, vi x2, vi x3, vi x4, u5] [] (mk I L t) = if ¬ I 65 i0 x3.toNat = 61 then Res d 220 90 [vr 12 i0, vi x1, vi x2, vi x3, vi x4, u5] [] (mk I L t) else Res d 220 71 [vr 12 i0, vi x1, vi x2, vi x3, vi x4, u5] [] (mk I L t) :=
  Eq.trans (e_aload_n D220_60 rfl rfl) <| Eq.trans (e_getP (p := (65, i0)) D220_61 rfl o_220 f_12_61 (sh_12 _) (by decide) (pp_12_23 _ _)) <| Eq.trans (e_iload_n D220_64 rfl rfl) <| Eq.trans (e_iald D220_65 rfl (al_65 _) g1) <| Eq.trans (e_bipush (x := 61) D220_66 rfl rfl) <| e_icne D220_68 rfl rfl
theorem b220_71 {d : Nat} {i0 : Nat} {x1 x2 x3 x4 : Int} {u5 : MV} {I L : Nat → Nat → Nat → Int} {t : Nat → Nat} (g1 : 0 ≤ x3 ∧ x3 < 12) : Res d 220 71 [vr 12 i0, vi x1, vi x2, vi x3, vi x4, u5] [] (mk I L t) = if ¬ x4 = I 66 i0 x3.toNat then Res d 220 86 [vr 12 i0, vi x1, vi x2, vi x3, vi x4, u5] [] (mk I L t) else Res d 220 82 [vr 12 i0, vi x1, vi x2, vi x3, vi x4, u5] [] (mk I L t) :=
  Eq.trans (e_iload D220_71 rfl rfl) <| Eq.trans (e_aload_n D220_73 rfl rfl) <| Eq.trans (e_getP (p := (66, i0)) D220_74 rfl o_220 f_12_64 (sh_12 _) (by decide) (pp_12_24 _ _)) <| Eq.trans (e_iload_n D220_77 rfl rfl) <| Eq.trans (e_iald D220_78 rfl (al_66 _) g1) <| e_icne D220_79 rfl rfl
theorem b220_82 {d : Nat} {i0 : Nat} {x1 x2 x3 x4 : Int} {u5 : MV} {I L : Nat → Nat → Nat → Int} {t : Nat → Nat} : Res d 220 82 [vr 12 i0, vi x1, vi x2, vi x3, vi x4, u5] [] (mk I L t) = Res d 220 106 [vr 12 i0, vi x1, vi x2, vi x3, vi x4, u5] [vi 1] (mk I L t) :=
  Eq.trans (e_iconst (x := 1) D220_82 rfl rfl) <| e_goto (q1 := 106) D220_83 rfl
theorem b220_86 {d : Nat} {i0 : Nat} {x1 x2 x3 x4 : Int} {u5 : MV} {I L : Nat → Nat → Nat → Int} {t : Nat → Nat} : Res d 220 86 [vr 12 i0, vi x1, vi x2, vi x3, vi x4, u5] [] (mk I L t) = Res d 220 106 [vr 12 i0, vi x1, vi x2, vi x3, vi x4, u5] [vi 0] (mk I L t) :=
  Eq.trans (e_iconst (x := 0) D220_86 rfl rfl) <| e_goto (q1 := 106) D220_87 rfl
theorem b220_90 {d : Nat} {i0 : Nat} {x1 x2 x3 x4 : Int} {u5 : MV} {I L : Nat → Nat → Nat → Int} {t : Nat → Nat} (g1 : 0 ≤ x3 ∧ x3 < 12) : Res d 220 90 [vr 12 i0, vi x1, vi x2, vi x3, vi x4, u5] [] (mk I L t) = if x4 ≤ I 66 i0 x3.toNat then Res d 220 105 [vr 12 i0, vi x1, vi x2, vi x3, vi x4, u5] [] (mk I L t) else Res d 220 101 [vr 12 i0, vi x1, vi x2, vi x3, vi x4, u5] [] (mk I L t) :=
  Eq.trans (e_iload D220_90 rfl rfl) <| Eq.trans (e_aload_n D220_92 rfl rfl) <| Eq.trans (e_getP (p := (66, i0)) D220_93 rfl o_220 f_12_64 (sh_12 _) (by decide) (pp_12_24 _ _)) <| Eq.trans (e_iload_n D220_96 rfl rfl) <| Eq.trans (e_iald D220_97 rfl (al_66 _) g1) <| e_icle D220_98 rfl rfl
theorem b220_101 {d : Nat} {i0 : Nat} {x1 x2 x3 x4 : Int} {u5 : MV} {I L : Nat → Nat → Nat → Int} {t : Nat → Nat} : Res d 220 101 [vr 12 i0, vi x1, vi x2, vi x3, vi x4, u5] [] (mk I L t) = Res d 220 106 [vr 12 i0, vi x1, vi x2, vi x3, vi x4, u5] [vi 1] (mk I L t) :=
  Eq.trans (e_iconst (x := 1) D220_101 rfl rfl) <| e_goto (q1 := 106) D220_102 rfl
theorem b220_105 {d : Nat} {i0 : Nat} {x1 x2 x3 x4 : Int} {u5 : MV} {I L : Nat → Nat → Nat → Int} {t : Nat → Nat} : Res d 220 105 [vr 12 i0, vi x1, vi x2, vi x3, vi x4, u5] [] (mk I L t) = Res d 220 106 [vr 12 i0, vi x1, vi x2, vi x3, vi x4, u5] [vi 0] (mk I L t) :=
  e_iconst (x := 0) D220_105 rfl rfl
theorem b220_106 {d : Nat} {i0 : Nat} {x1 x2 x3 x4 xs0 : Int} {u5 : MV} {I L : Nat → Nat → Nat → Int} {t : Nat → Nat} : Res d 220 106 [vr 12 i0, vi x1, vi x2, vi x3, vi x4, u5] [vi xs0] (mk I L t) = if xs0 = 0 then Res d 220 118 [vr 12 i0, vi x1, vi x2, vi x3, vi x4, vi xs0] [vi x2] (mk I L t) else Res d 220 114 [vr 12 i0, vi x1, vi x2, vi x3, vi x4, vi xs0] [vi x2] (mk I L t) :=
  Eq.trans (e_istore (ls1 := [vr 12 i0, vi x1, vi x2, vi x3, vi x4, vi xs0]) D220_106 rfl (show 5 < 6 by decide) rfl) <| Eq.trans (e_iload_n D220_108 rfl rfl) <| Eq.trans (e_iload D220_109 rfl rfl) <| e_ifeq D220_111 rfl rfl
theorem b220_114 {d : Nat} {i0 : Nat} {x1 x2 x3 x4 x5 xs0 : Int} {I L : Nat → Nat → Nat → Int} {t : Nat → Nat} : Res d 220 114 [vr 12 i0, vi x1, vi x2, vi x3, vi x4, vi x5] [vi xs0] (mk I L t) = Res d 220 119 [vr 12 i0, vi x1, vi x2, vi x3, vi x4, vi x5] [vi 1, vi xs0] (mk I L t) :=
  Eq.trans (e_iconst (x := 1) D220_114 rfl rfl) <| e_goto (q1 := 119) D220_115 rfl
theorem b220_118 {d : Nat} {i0 : Nat} {x1 x2 x3 x4 x5 xs0 : Int} {I L : Nat → Nat → Nat → Int} {t : Nat → Nat} : Res d 220 118 [vr 12 i0, vi x1, vi x2, vi x3, vi x4, vi x5] [vi xs0] (mk I L t) = Res d 220 119 [vr 12 i0, vi x1, vi x2, vi x3, vi x4, vi x5] [vi 0, vi xs0] (mk I L t) :=
  e_iconst (x := 0) D220_118 rfl rfl
theorem b220_119 {d : Nat} {i0 : Nat} {x1 x2 x3 x4 x5 xs1 xs0 : Int} {I L : Nat → Nat → Nat → Int} {t : Nat → Nat} : Res d 220 119 [vr 12 i0, vi x1, vi x2, vi x3, vi x4, vi x5] [vi xs1, vi xs0] (mk I L t) = Res d 220 4 [vr 12 i0, vi x1, vi (w32 (xs0 + xs1)), vi (w32 (x3 + 1)), vi x4, vi x5] [] (mk I L t) :=
  Eq.trans (e_iadd D220_119 rfl) <| Eq.trans (e_istore_n (ls1 := [vr 12 i0, vi x1, vi (w32 (xs0 + xs1)), vi x3, vi x4, vi x5]) D220_120 rfl (show 2 < 6 by decide) rfl) <| Eq.trans (e_iinc (ls1 := [vr 12 i0, vi x1, vi (w32 (xs0 + xs1)), vi (w32 (x3 + 1)), vi x4, vi x5]) D220_121 rfl rfl rfl) <| e_goto (q1 := 4) D220_124 rfl
theorem b220_127 {d : Nat} {i0 : Nat} {x1 x2 x3 : Int} {u4 u5 : MV} {I L : Nat → Nat → Nat → Int} {t : Nat → Nat} : Res d 220 127 [vr 12 i0, vi x1, vi x2, vi x3, u4, u5] [] (mk I L t) = some (vi x2, (mk I L t)) :=
  Eq.trans (e_iload_n D220_127 rfl rfl) <| e_iret D220_128 rfl
/-! m_score -/
theorem cc_221 : cod 221 = cX12_score := rfl
theorem D221_0 : decode (cod 221) 0 = .ok (.aload_n 0, 1) := by rw [cc_221]; decide +kernel
theorem D221_1 : decode (cod 221) 1 = .ok (.iload_n 1, 1) := by rw [cc_221]; decide +kernel
theorem D221_2 : decode (cod 221) 2 = .ok (.invokevirtual 230, 3) := by rw [cc_221]; decide +kernel
theorem D221_5 : decode (cod 221) 5 = .ok (.ifCond .eq 11, 3) := by rw [cc_221]; decide +kernel
theorem D221_8 : decode (cod 221) 8 = .ok (.aload_n 0, 1) := by rw [cc_221]; decide +kernel
theorem D221_9 : decode (cod 221) 9 = .ok (.iload_n 1, 1) := by rw [cc_221]; decide +kernel
theorem D221_10 : decode (cod 221) 10 = .ok (.invokevirtual 517, 3) := by rw [cc_221]; decide +kernel
theorem D221_13 : decode (cod 221) 13 = .ok (.goto 4, 3) := by rw [cc_221]; decide +kernel
theorem D221_16 : decode (cod 221) 16 = .ok (.iconst (-1), 1) := by rw [cc_221]; decide +kernel
theorem D221_17 : decode (cod 221) 17 = .ok (.ireturn, 1) := by rw [cc_221]; decide +kernel
theorem b221_0 {d : Nat} {i0 : Nat} {x1 : Int} {I L : Nat → Nat → Nat → Int} {t : Nat → Nat} : Res (d + 1) 221 0 [vr 12 i0, vi x1] [] (mk I L t) = (Cal d 147 [vr 12 i0, vi x1] (mk I L t)).bind fun v => Res (d + 1) 221 5 [vr 12 i0, vi x1] (psh 147 v.1 []) v.2 :=
  Eq.trans (e_aload_n D221_0 rfl rfl) <| Eq.trans (e_iload_n D221_1 rfl rfl) <| e_callV D221_2 rfl o_221 m_12_230 (by decide) rfl rfl
theorem b221_5 {d : Nat} {i0 : Nat} {x1 xs0 : Int} {I L : Nat → Nat → Nat → Int} {t : Nat → Nat} : Res d 221 5 [vr 12 i0, vi x1] [vi xs0] (mk I L t) = if xs0 = 0 then Res d 221 16 [vr 12 i0, vi x1] [] (mk I L t) else Res d 221 8 [vr 12 i0, vi x1] [] (mk I L t) :=
  e_ifeq D221_5 rfl rfl
theorem b221_8 {d : Nat} {i0 : Nat} {x1 : Int} {I L : Nat → Nat → Nat → Int} {t : Nat → Nat} : Res (d + 1) 221 8 [vr 12 i0, vi x1] [] (mk I L t) = (Cal d 220 [vr 12 i0, vi x1] (mk I L t)).bind fun v => Res (d + 1) 221 13 [vr 12 i0, vi x1] (psh 220 v.1 []) v.2 :=
  Eq.trans (e_aload_n D221_8 rfl rfl) <| Eq.trans (e_iload_n D221_9 rfl rfl) <| e_callV D221_10 rfl o_221 m_12_517 (by decide) rfl rfl
theorem b221_13 {d : Nat} {i0 : Nat} {x1 xs0 : Int} {I L : Nat → Nat → Nat → Int} {t : Nat → Nat} : Res d 221 13 [vr 12 i0, vi x1] [vi xs0] (mk I L t) = Res d 221 17 [vr 12 i0, vi x1] [vi xs0] (mk I L t) :=
  e_goto (q1 := 17) D221_13 rfl
theorem b221_16 {d : Nat} {i0 : Nat} {x1 : Int} {I L : Nat → Nat → Nat → Int} {t : Nat → Nat} : Res d 221 16 [vr 12 i0, vi x1] [] (mk I L t) = Res d 221 17 [vr 12 i0, vi x1] [vi (-1)] (mk I L t) :=
  e_iconst (x := -1) D221_16 rfl rfl
theorem b221_17 {d : Nat} {i0 : Nat} {x1 xs0 : Int} {I L : Nat → Nat → Nat → Int} {t : Nat → Nat} : Res d 221 17 [vr 12 i0, vi x1] [vi xs0] (mk I L t) = some (vi xs0, (mk I L t)) :=
  e_iret D221_17 rfl
/-! m_mockOf -/
theorem cc_222 : cod 222 = cX12_mockOf := rfl
theorem D222_0 : decode (cod 222) 0 = .ok (.iconst (-1), 1) := by rw [cc_222]; decide +kernel
theorem D222_1 : decode (cod 222) 1 = .ok (.istore_n 2, 1) := by rw [cc_222]; decide +kernel
theorem D222_2 : decode (cod 222) 2 = .ok (.iconst 0, 1) := by rw [cc_222]; decide +kernel
theorem D222_3 : decode (cod 222) 3 = .ok (.istore_n 3, 1) := by rw [cc_222]; decide +kernel
theorem D222_4 : decode (cod 222) 4 = .ok (.iconst 0, 1) := by rw [cc_222]; decide +kernel
theorem D222_5 : decode (cod 222) 5 = .ok (.istore 4, 2) := by rw [cc_222]; decide +kernel
theorem D222_7 : decode (cod 222) 7 = .ok (.iload 4, 2) := by rw [cc_222]; decide +kernel
theorem D222_9 : decode (cod 222) 9 = .ok (.aload_n 0, 1) := by rw [cc_222]; decide +kernel
theorem D222_10 : decode (cod 222) 10 = .ok (.getfield 236, 3) := by rw [cc_222]; decide +kernel
theorem D222_13 : decode (cod 222) 13 = .ok (.if_icmp .ge 73, 3) := by rw [cc_222]; decide +kernel
theorem D222_16 : decode (cod 222) 16 = .ok (.aload_n 0, 1) := by rw [cc_222]; decide +kernel
theorem D222_17 : decode (cod 222) 17 = .ok (.getfield 28, 3) := by rw [cc_222]; decide +kernel
theorem D222_20 : decode (cod 222) 20 = .ok (.iload 4, 2) := by rw [cc_222]; decide +kernel
theorem D222_22 : decode (cod 222) 22 = .ok (.iaload, 1) := by rw [cc_222]; decide +kernel
theorem D222_23 : decode (cod 222) 23 = .ok (.iconst (-1), 1) := by rw [cc_222]; decide +kernel
theorem D222_24 : decode (cod 222) 24 = .ok (.if_icmp .ne 6, 3) := by rw [cc_222]; decide +kernel
theorem D222_27 : decode (cod 222) 27 = .ok (.goto 53, 3) := by rw [cc_222]; decide +kernel
theorem D222_30 : decode (cod 222) 30 = .ok (.aload_n 0, 1) := by rw [cc_222]; decide +kernel
theorem D222_31 : decode (cod 222) 31 = .ok (.aload_n 0, 1) := by rw [cc_222]; decide +kernel
theorem D222_32 : decode (cod 222) 32 = .ok (.getfield 28, 3) := by rw [cc_222]; decide +kernel
theorem D222_35 : decode (cod 222) 35 = .ok (.iload 4, 2) := by rw [cc_222]; decide +kernel
theorem D222_37 : decode (cod 222) 37 = .ok (.iaload, 1) := by rw [cc_222]; decide +kernel
theorem D222_38 : decode (cod 222) 38 = .ok (.invokevirtual 517, 3) := by rw [cc_222]; decide +kernel
theorem D222_41 : decode (cod 222) 41 = .ok (.istore 5, 2) := by rw [cc_222]; decide +kernel
theorem D222_43 : decode (cod 222) 43 = .ok (.iload 5, 2) := by rw [cc_222]; decide +kernel
theorem D222_45 : decode (cod 222) 45 = .ok (.iload_n 2, 1) := by rw [cc_222]; decide +kernel
theorem D222_46 : decode (cod 222) 46 = .ok (.if_icmp .le 7, 3) := by rw [cc_222]; decide +kernel
theorem D222_49 : decode (cod 222) 49 = .ok (.iconst 1, 1) := by rw [cc_222]; decide +kernel
theorem D222_50 : decode (cod 222) 50 = .ok (.goto 16, 3) := by rw [cc_222]; decide +kernel
theorem D222_53 : decode (cod 222) 53 = .ok (.iload 5, 2) := by rw [cc_222]; decide +kernel
theorem D222_55 : decode (cod 222) 55 = .ok (.iload_n 2, 1) := by rw [cc_222]; decide +kernel
theorem D222_56 : decode (cod 222) 56 = .ok (.if_icmp .ne 9, 3) := by rw [cc_222]; decide +kernel
theorem D222_59 : decode (cod 222) 59 = .ok (.iload_n 3, 1) := by rw [cc_222]; decide +kernel
theorem D222_60 : decode (cod 222) 60 = .ok (.iconst 1, 1) := by rw [cc_222]; decide +kernel
theorem D222_61 : decode (cod 222) 61 = .ok (.iadd, 1) := by rw [cc_222]; decide +kernel
theorem D222_62 : decode (cod 222) 62 = .ok (.goto 4, 3) := by rw [cc_222]; decide +kernel
theorem D222_65 : decode (cod 222) 65 = .ok (.iload_n 3, 1) := by rw [cc_222]; decide +kernel
theorem D222_66 : decode (cod 222) 66 = .ok (.istore_n 3, 1) := by rw [cc_222]; decide +kernel
theorem D222_67 : decode (cod 222) 67 = .ok (.iload 5, 2) := by rw [cc_222]; decide +kernel
theorem D222_69 : decode (cod 222) 69 = .ok (.iload_n 2, 1) := by rw [cc_222]; decide +kernel
theorem D222_70 : decode (cod 222) 70 = .ok (.if_icmp .le 8, 3) := by rw [cc_222]; decide +kernel
theorem D222_73 : decode (cod 222) 73 = .ok (.iload 5, 2) := by rw [cc_222]; decide +kernel
theorem D222_75 : decode (cod 222) 75 = .ok (.goto 4, 3) := by rw [cc_222]; decide +kernel
theorem D222_78 : decode (cod 222) 78 = .ok (.iload_n 2, 1) := by rw [cc_222]; decide +kernel
theorem D222_79 : decode (cod 222) 79 = .ok (.istore_n 2, 1) := by rw [cc_222]; decide +kernel
theorem D222_80 : decode (cod 222) 80 = .ok (.iinc 4 1, 3) := by rw [cc_222]; decide +kernel
theorem D222_83 : decode (cod 222) 83 = .ok (.goto (-76), 3) := by rw [cc_222]; decide +kernel
theorem D222_86 : decode (cod 222) 86 = .ok (.aload_n 0, 1) := by rw [cc_222]; decide +kernel
theorem D222_87 : decode (cod 222) 87 = .ok (.aload_n 0, 1) := by rw [cc_222]; decide +kernel
theorem D222_88 : decode (cod 222) 88 = .ok (.getfield 28, 3) := by rw [cc_222]; decide +kernel
theorem D222_91 : decode (cod 222) 91 = .ok (.iload_n 1, 1) := by rw [cc_222]; decide +kernel
theorem D222_92 : decode (cod 222) 92 = .ok (.iaload, 1) := by rw [cc_222]; decide +kernel
theorem D222_93 : decode (cod 222) 93 = .ok (.invokevirtual 517, 3) := by rw [cc_222]; decide +kernel
theorem D222_96 : decode (cod 222) 96 = .ok (.iload_n 2, 1) := by rw [cc_222]; decide +kernel
theorem D222_97 : decode (cod 222) 97 = .ok (.if_icmp .ne 11, 3) := by rw [cc_222]; decide +kernel
theorem D222_100 : decode (cod 222) 100 = .ok (.ldc_w 520, 3) := by rw [cc_222]; decide +kernel
theorem D222_103 : decode (cod 222) 103 = .ok (.iload_n 3, 1) := by rw [cc_222]; decide +kernel
theorem D222_104 : decode (cod 222) 104 = .ok (.idiv, 1) := by rw [cc_222]; decide +kernel
theorem D222_105 : decode (cod 222) 105 = .ok (.goto 4, 3) := by rw [cc_222]; decide +kernel
theorem D222_108 : decode (cod 222) 108 = .ok (.iconst 0, 1) := by rw [cc_222]; decide +kernel
theorem D222_109 : decode (cod 222) 109 = .ok (.ireturn, 1) := by rw [cc_222]; decide +kernel
theorem b222_0 {d : Nat} {i0 : Nat} {x1 : Int} {I L : Nat → Nat → Nat → Int} {t : Nat → Nat} : Res d 222 0 [vr 12 i0, vi x1, vx, vx, vx, vx] [] (mk I L t) = Res d 222 7 [vr 12 i0, vi x1, vi (-1), vi 0, vi 0, vx] [] (mk I L t) :=
  Eq.trans (e_iconst (x := -1) D222_0 rfl rfl) <| Eq.trans (e_istore_n (ls1 := [vr 12 i0, vi x1, vi (-1), vx, vx, vx]) D222_1 rfl (show 2 < 6 by decide) rfl) <| Eq.trans (e_iconst (x := 0) D222_2 rfl rfl) <| Eq.trans (e_istore_n (ls1 := [vr 12 i0, vi x1, vi (-1), vi 0, vx, vx]) D222_3 rfl (show 3 < 6 by decide) rfl) <| Eq.trans (e_iconst (x := 0) D222_4 rfl rfl) <| e_istore (ls1 := [vr 12 i0, vi x1, vi (-1), vi 0, vi 0, vx]) D222_5 rfl (show 4 < 6 by decide) rfl
theorem b222_7 {d : Nat} {i0 : Nat} {x1 x2 x3 x4 : Int} {u5 : MV} {I L : Nat → Nat → Nat → Int} {t : Nat → Nat} : Res d 222 7 [vr 12 i0, vi x1, vi x2, vi x3, vi x4, u5] [] (mk I L t) = if I 12 i0 12 ≤ x4 then Res d 222 86 [vr 12 i0, vi x1, vi x2, vi x3, vi x4, u5] [] (mk I L t) else Res d 222 16 [vr 12 i0, vi x1, vi x2, vi x3, vi x4, u5] [] (mk I L t) :=
  Eq.trans (e_iload D222_7 rfl rfl) <| Eq.trans (e_aload_n D222_9 rfl rfl) <| Eq.trans (e_getI D222_10 rfl o_222 f_12_236 (sh_12 _) (by decide)) <| e_icge D222_13 rfl rfl
theorem b222_16 {d : Nat} {i0 : Nat} {x1 x2 x3 x4 : Int} {u5 : MV} {I L : Nat → Nat → Nat → Int} {t : Nat → Nat} (g1 : 0 ≤ x4 ∧ x4 < 9) : Res d 222 16 [vr 12 i0, vi x1, vi x2, vi x3, vi x4, u5] [] (mk I L t) = if ¬ I 54 i0 x4.toNat = -1 then Res d 222 30 [vr 12 i0, vi x1, vi x2, vi x3, vi x4, u5] [] (mk I L t) else Res d 222 27 [vr 12 i0, vi x1, vi x2, vi x3, vi x4, u5] [] (mk I L t) :=
  Eq.trans (e_aload_n D222_16 rfl rfl) <| Eq.trans (e_getP (p := (54, i0)) D222_17 rfl o_222 f_12_28 (sh_12 _) (by decide) (pp_12_11 _ _)) <| Eq.trans (e_iload D222_20 rfl rfl) <| Eq.trans (e_iald D222_22 rfl (al_54 _) g1) <| Eq.trans (e_iconst (x := -1) D222_23 rfl rfl) <| e_icne D222_24 rfl rfl
theorem b222_27 {d : Nat} {i0 : Nat} {x1 x2 x3 x4 : Int} {u5 : MV} {I L : Nat → Nat → Nat → Int} {t : Nat → Nat} : Res d 222 27 [vr 12 i0, vi x1, vi x2, vi x3, vi x4, u5] [] (mk I L t) = Res d 222 80 [vr 12 i0, vi x1, vi x2, vi x3, vi x4, u5] [] (mk I L t) :=
  e_goto (q1 := 80) D222_27 rfl
theorem b222_30 {d : Nat} {i0 : Nat} {x1 x2 x3 x4 : Int} {u5 : MV} {I L : Nat → Nat → Nat → Int} {t : Nat → Nat} (g1 : 0 ≤ x4 ∧ x4 < 9) : Res (d + 1) 222 30 [vr 12 i0, vi x1, vi x2, vi x3, vi x4, u5] [] (mk I L t) = (Cal d 220 [vr 12 i0, vi (I 54 i0 x4.toNat)] (mk I L t)).bind fun v => Res (d + 1) 222 41 [vr 12 i0, vi x1, vi x2, vi x3, vi x4, u5] (psh 220 v.1 []) v.2 :=
  Eq.trans (e_aload_n D222_30 rfl rfl) <| Eq.trans (e_aload_n D222_31 rfl rfl) <| Eq.trans (e_getP (p := (54, i0)) D222_32 rfl o_222 f_12_28 (sh_12 _) (by decide) (pp_12_11 _ _)) <| Eq.trans (e_iload D222_35 rfl rfl) <| Eq.trans (e_iald D222_37 rfl (al_54 _) g1) <| e_callV D222_38 rfl o_222 m_12_517 (by decide) rfl rfl
theorem b222_41 {d : Nat} {i0 : Nat} {x1 x2 x3 x4 xs0 : Int} {u5 : MV} {I L : Nat → Nat → Nat → Int} {t : Nat → Nat} : Res d 222 41 [vr 12 i0, vi x1, vi x2, vi x3, vi x4, u5] [vi xs0] (mk I L t) = if xs0 ≤ x2 then Res d 222 53 [vr 12 i0, vi x1, vi x2, vi x3, vi x4, vi xs0] [] (mk I L t) else Res d 222 49 [vr 12 i0, vi x1, vi x2, vi x3, vi x4, vi xs0] [] (mk I L t) :=
  Eq.trans (e_istore (ls1 := [vr 12 i0, vi x1, vi x2, vi x3, vi x4, vi xs0]) D222_41 rfl (show 5 < 6 by decide) rfl) <| Eq.trans (e_iload D222_43 rfl rfl) <| Eq.trans (e_iload_n D222_45 rfl rfl) <| e_icle D222_46 rfl rfl
theorem b222_49 {d : Nat} {i0 : Nat} {x1 x2 x3 x4 x5 : Int} {I L : Nat → Nat → Nat → Int} {t : Nat → Nat} : Res d 222 49 [vr 12 i0, vi x1, vi x2, vi x3, vi x4, vi x5] [] (mk I L t) = Res d 222 66 [vr 12 i0, vi x1, vi x2, vi x3, vi x4, vi x5] [vi 1] (mk I L t) :=
  Eq.trans (e_iconst (x := 1) D222_49 rfl rfl) <| e_goto (q1 := 66) D222_50 rfl
theorem b222_53 {d : Nat} {i0 : Nat} {x1 x2 x3 x4 x5 : Int} {I L : Nat → Nat → Nat → Int} {t : Nat → Nat} : Res d 222 53 [vr 12 i0, vi x1, vi x2, vi x3, vi x4, vi x5] [] (mk I L t) = if ¬ x5 = x2 then Res d 222 65 [vr 12 i0, vi x1, vi x2, vi x3, vi x4, vi x5] [] (mk I L t) else Res d 222 59 [vr 12 i0, vi x1, vi x2, vi x3, vi x4, vi x5] [] (mk I L t) :=
  Eq.trans (e_iload D222_53 rfl rfl) <| Eq.trans (e_iload_n D222_55 rfl rfl) <| e_icne D222_56 rfl rfl
theorem b222_59 {d : Nat} {i0 : Nat} {x1 x2 x3 x4 x5 : Int} {I L : Nat → Nat → Nat → Int} {t : Nat → Nat} : Res d 222 59 [vr 12 i0, vi x1, vi x2, vi x3, vi x4, vi x5] [] (mk I L t) = Res d 222 66 [vr 12 i0, vi x1, vi x2, vi x3, vi x4, vi x5] [vi (w32 (x3 + 1))] (mk I L t) :=
  Eq.trans (e_iload_n D222_59 rfl rfl) <| Eq.trans (e_iconst (x := 1) D222_60 rfl rfl) <| Eq.trans (e_iadd D222_61 rfl) <| e_goto (q1 := 66) D222_62 rfl
theorem b222_65 {d : Nat} {i0 : Nat} {x1 x2 x3 x4 x5 : Int} {I L : Nat → Nat → Nat → Int} {t : Nat → Nat} : Res d 222 65 [vr 12 i0, vi x1, vi x2, vi x3, vi x4, vi x5] [] (mk I L t) = Res d 222 66 [vr 12 i0, vi x1, vi x2, vi x3, vi x4, vi x5] [vi x3] (mk I L t) :=
  e_iload_n D222_65 rfl rfl
theorem b222_66 {d : Nat} {i0 : Nat} {x1 x2 x3 x4 x5 xs0 : Int} {I L : Nat → Nat → Nat → Int} {t : Nat → Nat} : Res d 222 66 [vr 12 i0, vi x1, vi x2, vi x3, vi x4, vi x5] [vi xs0] (mk I L t) = if x5 ≤ x2 then Res d 222 78 [vr 12 i0, vi x1, vi x2, vi xs0, vi x4, vi x5] [] (mk I L t) else Res d 222 73 [vr 12 i0, vi x1, vi x2, vi xs0, vi x4, vi x5] [] (mk I L t) :=
  Eq.trans (e_istore_n (ls1 := [vr 12 i0, vi x1, vi x2, vi xs0, vi x4, vi x5]) D222_66 rfl (show 3 < 6 by decide) rfl) <| Eq.trans (e_iload D222_67 rfl rfl) <| Eq.trans (e_iload_n D222_69 rfl rfl) <| e_icle D222_70 rfl rfl
theorem b222_73 {d : Nat} {i0 : Nat} {x1 x2 x3 x4 x5 : Int} {I L : Nat → Nat → Nat → Int} {t : Nat → Nat} : Res d 222 73 [vr 12 i0, vi x1, vi x2, vi x3, vi x4, vi x5] [] (mk I L t) = Res d 222 79 [vr 12 i0, vi x1, vi x2, vi x3, vi x4, vi x5] [vi x5] (mk I L t) :=
  Eq.trans (e_iload D222_73 rfl rfl) <| e_goto (q1 := 79) D222_75 rfl
theorem b222_78 {d : Nat} {i0 : Nat} {x1 x2 x3 x4 x5 : Int} {I L : Nat → Nat → Nat → Int} {t : Nat → Nat} : Res d 222 78 [vr 12 i0, vi x1, vi x2, vi x3, vi x4, vi x5] [] (mk I L t) = Res d 222 79 [vr 12 i0, vi x1, vi x2, vi x3, vi x4, vi x5] [vi x2] (mk I L t) :=
  e_iload_n D222_78 rfl rfl
theorem b222_79 {d : Nat} {i0 : Nat} {x1 x2 x3 x4 x5 xs0 : Int} {I L : Nat → Nat → Nat → Int} {t : Nat → Nat} : Res d 222 79 [vr 12 i0, vi x1, vi x2, vi x3, vi x4, vi x5] [vi xs0] (mk I L t) = Res d 222 80 [vr 12 i0, vi x1, vi xs0, vi x3, vi x4, vi x5] [] (mk I L t) :=
  e_istore_n (ls1 := [vr 12 i0, vi x1, vi xs0, vi x3, vi x4, vi x5]) D222_79 rfl (show 2 < 6 by decide) rfl
theorem b222_80 {d : Nat} {i0 : Nat} {x1 x2 x3 x4 : Int} {u5 : MV} {I L : Nat → Nat → Nat → Int} {t : Nat → Nat} : Res d 222 80 [vr 12 i0, vi x1, vi x2, vi x3, vi x4, u5] [] (mk I L t) = Res d 222 7 [vr 12 i0, vi x1, vi x2, vi x3, vi (w32 (x4 + 1)), u5] [] (mk I L t) :=
  Eq.trans (e_iinc (ls1 := [vr 12 i0, vi x1, vi x2, vi x3, vi (w32 (x4 + 1)), u5]) D222_80 rfl rfl rfl) <| e_goto (q1 := 7) D222_83 rfl
theorem b222_86 {d : Nat} {i0 : Nat} {x1 x2 x3 x4 : Int} {u5 : MV} {I L : Nat → Nat → Nat → Int} {t : Nat → Nat} (g1 : 0 ≤ x1 ∧ x1 < 9) : Res (d + 1) 222 86 [vr 12 i0, vi x1, vi x2, vi x3, vi x4, u5] [] (mk I L t) = (Cal d 220 [vr 12 i0, vi (I 54 i0 x1.toNat)] (mk I L t)).bind fun v => Res (d + 1) 222 96 [vr 12 i0, vi x1, vi x2, vi x3, vi x4, u5] (psh 220 v.1 []) v.2 :=
  Eq.trans (e_aload_n D222_86 rfl rfl) <| Eq.trans (e_aload_n D222_87 rfl rfl) <| Eq.trans (e_getP (p := (54, i0)) D222_88 rfl o_222 f_12_28 (sh_12 _) (by decide) (pp_12_11 _ _)) <| Eq.trans (e_iload_n D222_91 rfl rfl) <| Eq.trans (e_iald D222_92 rfl (al_54 _) g1) <| e_callV D222_93 rfl o_222 m_12_517 (by decide) rfl rfl
theorem b222_96 {d : Nat} {i0 : Nat} {x1 x2 x3 x4 xs0 : Int} {u5 : MV} {I L : Nat → Nat → Nat → Int} {t : Nat → Nat} : Res d 222 96 [vr 12 i0, vi x1, vi x2, vi x3, vi x4, u5] [vi xs0] (mk I L t) = if ¬ xs0 = x2 then Res d 222 108 [vr 12 i0, vi x1, vi x2, vi x3, vi x4, u5] [] (mk I L t) else Res d 222 100 [vr 12 i0, vi x1, vi x2, vi x3, vi x4, u5] [] (mk I L t) :=
  Eq.trans (e_iload_n D222_96 rfl rfl) <| e_icne D222_97 rfl rfl
theorem b222_100 {d : Nat} {i0 : Nat} {x1 x2 x3 x4 : Int} {u5 : MV} {I L : Nat → Nat → Nat → Int} {t : Nat → Nat} (g1 : x3 ≠ 0) : Res d 222 100 [vr 12 i0, vi x1, vi x2, vi x3, vi x4, u5] [] (mk I L t) = Res d 222 109 [vr 12 i0, vi x1, vi x2, vi x3, vi x4, u5] [vi (vIdiv 1000000 x3)] (mk I L t) :=
  Eq.trans (e_ldc_w (x := 1000000) D222_100 rfl o_222 i_12_520 rfl) <| Eq.trans (e_iload_n D222_103 rfl rfl) <| Eq.trans (e_idiv D222_104 rfl g1) <| e_goto (q1 := 109) D222_105 rfl
theorem b222_108 {d : Nat} {i0 : Nat} {x1 x2 x3 x4 : Int} {u5 : MV} {I L : Nat → Nat → Nat → Int} {t : Nat → Nat} : Res d 222 108 [vr 12 i0, vi x1, vi x2, vi x3, vi x4, u5] [] (mk I L t) = Res d 222 109 [vr 12 i0, vi x1, vi x2, vi x3, vi x4, u5] [vi 0] (mk I L t) :=
  e_iconst (x := 0) D222_108 rfl rfl
theorem b222_109 {d : Nat} {i0 : Nat} {x1 x2 x3 x4 xs0 : Int} {u5 : MV} {I L : Nat → Nat → Nat → Int} {t : Nat → Nat} : Res d 222 109 [vr 12 i0, vi x1, vi x2, vi x3, vi x4, u5] [vi xs0] (mk I L t) = some (vi xs0, (mk I L t)) :=
  e_iret D222_109 rfl
