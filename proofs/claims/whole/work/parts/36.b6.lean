/-! block equations (printed by wip/whole/genall.py) -/
/-! m_mock -/
theorem cc_223 : cod 223 = cX12_mock := rfl
theorem D223_0 : decode (cod 223) 0 = .ok (.iload_n 1, 1) := by rw [cc_223]; decide +kernel
theorem D223_1 : decode (cod 223) 1 = .ok (.invokestatic 233, 3) := by rw [cc_223]; decide +kernel
theorem D223_4 : decode (cod 223) 4 = .ok (.ifCond .eq 12, 3) := by rw [cc_223]; decide +kernel
theorem D223_7 : decode (cod 223) 7 = .ok (.iload_n 3, 1) := by rw [cc_223]; decide +kernel
theorem D223_8 : decode (cod 223) 8 = .ok (.iconst 0, 1) := by rw [cc_223]; decide +kernel
theorem D223_9 : decode (cod 223) 9 = .ok (.iconst 1, 1) := by rw [cc_223]; decide +kernel
theorem D223_10 : decode (cod 223) 10 = .ok (.invokestatic 219, 3) := by rw [cc_223]; decide +kernel
theorem D223_13 : decode (cod 223) 13 = .ok (.ifCond .ne 5, 3) := by rw [cc_223]; decide +kernel
theorem D223_16 : decode (cod 223) 16 = .ok (.iconst (-1), 1) := by rw [cc_223]; decide +kernel
theorem D223_17 : decode (cod 223) 17 = .ok (.ireturn, 1) := by rw [cc_223]; decide +kernel
theorem D223_18 : decode (cod 223) 18 = .ok (.aload_n 0, 1) := by rw [cc_223]; decide +kernel
theorem D223_19 : decode (cod 223) 19 = .ok (.iload_n 1, 1) := by rw [cc_223]; decide +kernel
theorem D223_20 : decode (cod 223) 20 = .ok (.invokevirtual 472, 3) := by rw [cc_223]; decide +kernel
theorem D223_23 : decode (cod 223) 23 = .ok (.aload_n 0, 1) := by rw [cc_223]; decide +kernel
theorem D223_24 : decode (cod 223) 24 = .ok (.iload_n 2, 1) := by rw [cc_223]; decide +kernel
theorem D223_25 : decode (cod 223) 25 = .ok (.invokevirtual 475, 3) := by rw [cc_223]; decide +kernel
theorem D223_28 : decode (cod 223) 28 = .ok (.ifCond .eq 13, 3) := by rw [cc_223]; decide +kernel
theorem D223_31 : decode (cod 223) 31 = .ok (.aload_n 0, 1) := by rw [cc_223]; decide +kernel
theorem D223_32 : decode (cod 223) 32 = .ok (.getfield 28, 3) := by rw [cc_223]; decide +kernel
theorem D223_35 : decode (cod 223) 35 = .ok (.iload_n 2, 1) := by rw [cc_223]; decide +kernel
theorem D223_36 : decode (cod 223) 36 = .ok (.iaload, 1) := by rw [cc_223]; decide +kernel
theorem D223_37 : decode (cod 223) 37 = .ok (.iconst (-1), 1) := by rw [cc_223]; decide +kernel
theorem D223_38 : decode (cod 223) 38 = .ok (.if_icmp .ne 5, 3) := by rw [cc_223]; decide +kernel
theorem D223_41 : decode (cod 223) 41 = .ok (.iconst (-1), 1) := by rw [cc_223]; decide +kernel
theorem D223_42 : decode (cod 223) 42 = .ok (.ireturn, 1) := by rw [cc_223]; decide +kernel
theorem D223_43 : decode (cod 223) 43 = .ok (.aload_n 0, 1) := by rw [cc_223]; decide +kernel
theorem D223_44 : decode (cod 223) 44 = .ok (.iload_n 2, 1) := by rw [cc_223]; decide +kernel
theorem D223_45 : decode (cod 223) 45 = .ok (.invokevirtual 521, 3) := by rw [cc_223]; decide +kernel
theorem D223_48 : decode (cod 223) 48 = .ok (.istore 4, 2) := by rw [cc_223]; decide +kernel
theorem D223_50 : decode (cod 223) 50 = .ok (.ldc_w 520, 3) := by rw [cc_223]; decide +kernel
theorem D223_53 : decode (cod 223) 53 = .ok (.aload_n 0, 1) := by rw [cc_223]; decide +kernel
theorem D223_54 : decode (cod 223) 54 = .ok (.invokevirtual 499, 3) := by rw [cc_223]; decide +kernel
theorem D223_57 : decode (cod 223) 57 = .ok (.idiv, 1) := by rw [cc_223]; decide +kernel
theorem D223_58 : decode (cod 223) 58 = .ok (.istore 5, 2) := by rw [cc_223]; decide +kernel
theorem D223_60 : decode (cod 223) 60 = .ok (.iload_n 3, 1) := by rw [cc_223]; decide +kernel
theorem D223_61 : decode (cod 223) 61 = .ok (.ifCond .ne 8, 3) := by rw [cc_223]; decide +kernel
theorem D223_64 : decode (cod 223) 64 = .ok (.iload 4, 2) := by rw [cc_223]; decide +kernel
theorem D223_66 : decode (cod 223) 66 = .ok (.goto 19, 3) := by rw [cc_223]; decide +kernel
theorem D223_69 : decode (cod 223) 69 = .ok (.iload 4, 2) := by rw [cc_223]; decide +kernel
theorem D223_71 : decode (cod 223) 71 = .ok (.iload 5, 2) := by rw [cc_223]; decide +kernel
theorem D223_73 : decode (cod 223) 73 = .ok (.if_icmp .ge 7, 3) := by rw [cc_223]; decide +kernel
theorem D223_76 : decode (cod 223) 76 = .ok (.iconst 0, 1) := by rw [cc_223]; decide +kernel
theorem D223_77 : decode (cod 223) 77 = .ok (.goto 8, 3) := by rw [cc_223]; decide +kernel
theorem D223_80 : decode (cod 223) 80 = .ok (.iload 4, 2) := by rw [cc_223]; decide +kernel
theorem D223_82 : decode (cod 223) 82 = .ok (.iload 5, 2) := by rw [cc_223]; decide +kernel
theorem D223_84 : decode (cod 223) 84 = .ok (.isub, 1) := by rw [cc_223]; decide +kernel
theorem D223_85 : decode (cod 223) 85 = .ok (.ireturn, 1) := by rw [cc_223]; decide +kernel
theorem b223_0 {d : Nat} {i0 : Nat} {x1 x2 x3 : Int} {I L : Nat → Nat → Nat → Int} {t : Nat → Nat} : Res (d + 1) 223 0 [vr 12 i0, vi x1, vi x2, vi x3, vx, vx] [] (mk I L t) = (Cal d 148 [vi x1] (mk I L t)).bind fun v => Res (d + 1) 223 4 [vr 12 i0, vi x1, vi x2, vi x3, vx, vx] (psh 148 v.1 []) v.2 :=
  Eq.trans (e_iload_n D223_0 rfl rfl) <| e_callS D223_1 rfl o_223 m_12_233 (by decide) rfl rfl
theorem b223_4 {d : Nat} {i0 : Nat} {x1 x2 x3 xs0 : Int} {I L : Nat → Nat → Nat → Int} {t : Nat → Nat} : Res d 223 4 [vr 12 i0, vi x1, vi x2, vi x3, vx, vx] [vi xs0] (mk I L t) = if xs0 = 0 then Res d 223 16 [vr 12 i0, vi x1, vi x2, vi x3, vx, vx] [] (mk I L t) else Res d 223 7 [vr 12 i0, vi x1, vi x2, vi x3, vx, vx] [] (mk I L t) :=
  e_ifeq D223_4 rfl rfl
theorem b223_7 {d : Nat} {i0 : Nat} {x1 x2 x3 : Int} {I L : Nat → Nat → Nat → Int} {t : Nat → Nat} : Res (d + 1) 223 7 [vr 12 i0, vi x1, vi x2, vi x3, vx, vx] [] (mk I L t) = (Cal d 146 [vi x3, vi 0, vi 1] (mk I L t)).bind fun v => Res (d + 1) 223 13 [vr 12 i0, vi x1, vi x2, vi x3, vx, vx] (psh 146 v.1 []) v.2 :=
  Eq.trans (e_iload_n D223_7 rfl rfl) <| Eq.trans (e_iconst (x := 0) D223_8 rfl rfl) <| Eq.trans (e_iconst (x := 1) D223_9 rfl rfl) <| e_callS D223_10 rfl o_223 m_12_219 (by decide) rfl rfl
theorem b223_13 {d : Nat} {i0 : Nat} {x1 x2 x3 xs0 : Int} {I L : Nat → Nat → Nat → Int} {t : Nat → Nat} : Res d 223 13 [vr 12 i0, vi x1, vi x2, vi x3, vx, vx] [vi xs0] (mk I L t) = if ¬ xs0 = 0 then Res d 223 18 [vr 12 i0, vi x1, vi x2, vi x3, vx, vx] [] (mk I L t) else Res d 223 16 [vr 12 i0, vi x1, vi x2, vi x3, vx, vx] [] (mk I L t) :=
  e_ifne D223_13 rfl rfl
theorem b223_16 {d : Nat} {i0 : Nat} {x1 x2 x3 : Int} {I L : Nat → Nat → Nat → Int} {t : Nat → Nat} : Res d 223 16 [vr 12 i0, vi x1, vi x2, vi x3, vx, vx] [] (mk I L t) = some (vi (-1), (mk I L t)) :=
  Eq.trans (e_iconst (x := -1) D223_16 rfl rfl) <| e_iret D223_17 rfl
theorem b223_18 {d : Nat} {i0 : Nat} {x1 x2 x3 : Int} {I L : Nat → Nat → Nat → Int} {t : Nat → Nat} : Res (d + 1) 223 18 [vr 12 i0, vi x1, vi x2, vi x3, vx, vx] [] (mk I L t) = (Cal d 156 [vr 12 i0, vi x1] (mk I L t)).bind fun v => Res (d + 1) 223 23 [vr 12 i0, vi x1, vi x2, vi x3, vx, vx] (psh 156 v.1 []) v.2 :=
  Eq.trans (e_aload_n D223_18 rfl rfl) <| Eq.trans (e_iload_n D223_19 rfl rfl) <| e_callV D223_20 rfl o_223 m_12_472 (by decide) rfl rfl
theorem b223_23 {d : Nat} {i0 : Nat} {x1 x2 x3 : Int} {I L : Nat → Nat → Nat → Int} {t : Nat → Nat} : Res (d + 1) 223 23 [vr 12 i0, vi x1, vi x2, vi x3, vx, vx] [] (mk I L t) = (Cal d 157 [vr 12 i0, vi x2] (mk I L t)).bind fun v => Res (d + 1) 223 28 [vr 12 i0, vi x1, vi x2, vi x3, vx, vx] (psh 157 v.1 []) v.2 :=
  Eq.trans (e_aload_n D223_23 rfl rfl) <| Eq.trans (e_iload_n D223_24 rfl rfl) <| e_callV D223_25 rfl o_223 m_12_475 (by decide) rfl rfl
theorem b223_28 {d : Nat} {i0 : Nat} {x1 x2 x3 xs0 : Int} {I L : Nat → Nat → Nat → Int} {t : Nat → Nat} : Res d 223 28 [vr 12 i0, vi x1, vi x2, vi x3, vx, vx] [vi xs0] (mk I L t) = if xs0 = 0 then Res d 223 41 [vr 12 i0, vi x1, vi x2, vi x3, vx, vx] [] (mk I L t) else Res d 223 31 [vr 12 i0, vi x1, vi x2, vi x3, vx, vx] [] (mk I L t) :=
  e_ifeq D223_28 rfl rfl
theorem b223_31 {d : Nat} {i0 : Nat} {x1 x2 x3 : Int} {I L : Nat → Nat → Nat → Int} {t : Nat → Nat} (g1 : 0 ≤ x2 ∧ x2 < 9) : Res d 223 31 [vr 12 i0, vi x1, vi x2, vi x3, vx, vx] [] (mk I L t) = if ¬ I 54 i0 x2.toNat = -1 then Res d 223 43 [vr 12 i0, vi x1, vi x2, vi x3, vx, vx] [] (mk I L t) else Res d 223 41 [vr 12 i0, vi x1, vi x2, vi x3, vx, vx] [] (mk I L t) :=
  Eq.trans (e_aload_n D223_31 rfl rfl) <| Eq.trans (e_getP (p := (54, i0)) D223_32 rfl o_223 f_12_28 (sh_12 _) (by decide) (pp_12_11 _ _)) <| Eq.trans (e_iload_n D223_35 rfl rfl) <| Eq.trans (e_iald D223_36 rfl (al_54 _) g1) <| Eq.trans (e_iconst (x := -1) D223_37 rfl rfl) <| e_icne D223_38 rfl rfl
theorem b223_41 {d : Nat} {i0 : Nat} {x1 x2 x3 : Int} {I L : Nat → Nat → Nat → Int} {t : Nat → Nat} : Res d 223 41 [vr 12 i0, vi x1, vi x2, vi x3, vx, vx] [] (mk I L t) = some (vi (-1), (mk I L t)) :=
  Eq.trans (e_iconst (x := -1) D223_41 rfl rfl) <| e_iret D223_42 rfl
theorem b223_43 {d : Nat} {i0 : Nat} {x1 x2 x3 : Int} {I L : Nat → Nat → Nat → Int} {t : Nat → Nat} : Res (d + 1) 223 43 [vr 12 i0, vi x1, vi x2, vi x3, vx, vx] [] (mk I L t) = (Cal d 222 [vr 12 i0, vi x2] (mk I L t)).bind fun v => Res (d + 1) 223 48 [vr 12 i0, vi x1, vi x2, vi x3, vx, vx] (psh 222 v.1 []) v.2 :=
  Eq.trans (e_aload_n D223_43 rfl rfl) <| Eq.trans (e_iload_n D223_44 rfl rfl) <| e_callV D223_45 rfl o_223 m_12_521 (by decide) rfl rfl
theorem b223_48 {d : Nat} {i0 : Nat} {x1 x2 x3 xs0 : Int} {I L : Nat → Nat → Nat → Int} {t : Nat → Nat} : Res (d + 1) 223 48 [vr 12 i0, vi x1, vi x2, vi x3, vx, vx] [vi xs0] (mk I L t) = (Cal d 158 [vr 12 i0] (mk I L t)).bind fun v => Res (d + 1) 223 57 [vr 12 i0, vi x1, vi x2, vi x3, vi xs0, vx] (psh 158 v.1 [vi 1000000]) v.2 :=
  Eq.trans (e_istore (ls1 := [vr 12 i0, vi x1, vi x2, vi x3, vi xs0, vx]) D223_48 rfl (show 4 < 6 by decide) rfl) <| Eq.trans (e_ldc_w (x := 1000000) D223_50 rfl o_223 i_12_520 rfl) <| Eq.trans (e_aload_n D223_53 rfl rfl) <| e_callV D223_54 rfl o_223 m_12_499 (by decide) rfl rfl
theorem b223_57 {d : Nat} {i0 : Nat} {x1 x2 x3 x4 xs1 xs0 : Int} {I L : Nat → Nat → Nat → Int} {t : Nat → Nat} (g1 : xs1 ≠ 0) : Res d 223 57 [vr 12 i0, vi x1, vi x2, vi x3, vi x4, vx] [vi xs1, vi xs0] (mk I L t) = if ¬ x3 = 0 then Res d 223 69 [vr 12 i0, vi x1, vi x2, vi x3, vi x4, vi (vIdiv xs0 xs1)] [] (mk I L t) else Res d 223 64 [vr 12 i0, vi x1, vi x2, vi x3, vi x4, vi (vIdiv xs0 xs1)] [] (mk I L t) :=
  Eq.trans (e_idiv D223_57 rfl g1) <| Eq.trans (e_istore (ls1 := [vr 12 i0, vi x1, vi x2, vi x3, vi x4, vi (vIdiv xs0 xs1)]) D223_58 rfl (show 5 < 6 by decide) rfl) <| Eq.trans (e_iload_n D223_60 rfl rfl) <| e_ifne D223_61 rfl rfl
theorem b223_64 {d : Nat} {i0 : Nat} {x1 x2 x3 x4 x5 : Int} {I L : Nat → Nat → Nat → Int} {t : Nat → Nat} : Res d 223 64 [vr 12 i0, vi x1, vi x2, vi x3, vi x4, vi x5] [] (mk I L t) = Res d 223 85 [vr 12 i0, vi x1, vi x2, vi x3, vi x4, vi x5] [vi x4] (mk I L t) :=
  Eq.trans (e_iload D223_64 rfl rfl) <| e_goto (q1 := 85) D223_66 rfl
theorem b223_69 {d : Nat} {i0 : Nat} {x1 x2 x3 x4 x5 : Int} {I L : Nat → Nat → Nat → Int} {t : Nat → Nat} : Res d 223 69 [vr 12 i0, vi x1, vi x2, vi x3, vi x4, vi x5] [] (mk I L t) = if x5 ≤ x4 then Res d 223 80 [vr 12 i0, vi x1, vi x2, vi x3, vi x4, vi x5] [] (mk I L t) else Res d 223 76 [vr 12 i0, vi x1, vi x2, vi x3, vi x4, vi x5] [] (mk I L t) :=
  Eq.trans (e_iload D223_69 rfl rfl) <| Eq.trans (e_iload D223_71 rfl rfl) <| e_icge D223_73 rfl rfl
theorem b223_76 {d : Nat} {i0 : Nat} {x1 x2 x3 x4 x5 : Int} {I L : Nat → Nat → Nat → Int} {t : Nat → Nat} : Res d 223 76 [vr 12 i0, vi x1, vi x2, vi x3, vi x4, vi x5] [] (mk I L t) = Res d 223 85 [vr 12 i0, vi x1, vi x2, vi x3, vi x4, vi x5] [vi 0] (mk I L t) :=
  Eq.trans (e_iconst (x := 0) D223_76 rfl rfl) <| e_goto (q1 := 85) D223_77 rfl
theorem b223_80 {d : Nat} {i0 : Nat} {x1 x2 x3 x4 x5 : Int} {I L : Nat → Nat → Nat → Int} {t : Nat → Nat} : Res d 223 80 [vr 12 i0, vi x1, vi x2, vi x3, vi x4, vi x5] [] (mk I L t) = Res d 223 85 [vr 12 i0, vi x1, vi x2, vi x3, vi x4, vi x5] [vi (w32 (x4 - x5))] (mk I L t) :=
  Eq.trans (e_iload D223_80 rfl rfl) <| Eq.trans (e_iload D223_82 rfl rfl) <| e_isub D223_84 rfl
theorem b223_85 {d : Nat} {i0 : Nat} {x1 x2 x3 x4 x5 xs0 : Int} {I L : Nat → Nat → Nat → Int} {t : Nat → Nat} : Res d 223 85 [vr 12 i0, vi x1, vi x2, vi x3, vi x4, vi x5] [vi xs0] (mk I L t) = some (vi xs0, (mk I L t)) :=
  e_iret D223_85 rfl
/-! m_bits -/
theorem cc_224 : cod 224 = cX12_bits := rfl
theorem D224_0 : decode (cod 224) 0 = .ok (.iconst 0, 1) := by rw [cc_224]; decide +kernel
theorem D224_1 : decode (cod 224) 1 = .ok (.istore_n 1, 1) := by rw [cc_224]; decide +kernel
theorem D224_2 : decode (cod 224) 2 = .ok (.iconst 0, 1) := by rw [cc_224]; decide +kernel
theorem D224_3 : decode (cod 224) 3 = .ok (.istore_n 2, 1) := by rw [cc_224]; decide +kernel
theorem D224_4 : decode (cod 224) 4 = .ok (.iload_n 2, 1) := by rw [cc_224]; decide +kernel
theorem D224_5 : decode (cod 224) 5 = .ok (.bipush 9, 2) := by rw [cc_224]; decide +kernel
theorem D224_7 : decode (cod 224) 7 = .ok (.if_icmp .ge 17, 3) := by rw [cc_224]; decide +kernel
theorem D224_10 : decode (cod 224) 10 = .ok (.iload_n 1, 1) := by rw [cc_224]; decide +kernel
theorem D224_11 : decode (cod 224) 11 = .ok (.iload_n 0, 1) := by rw [cc_224]; decide +kernel
theorem D224_12 : decode (cod 224) 12 = .ok (.iload_n 2, 1) := by rw [cc_224]; decide +kernel
theorem D224_13 : decode (cod 224) 13 = .ok (.ishr, 1) := by rw [cc_224]; decide +kernel
theorem D224_14 : decode (cod 224) 14 = .ok (.iconst 1, 1) := by rw [cc_224]; decide +kernel
theorem D224_15 : decode (cod 224) 15 = .ok (.iand, 1) := by rw [cc_224]; decide +kernel
theorem D224_16 : decode (cod 224) 16 = .ok (.iadd, 1) := by rw [cc_224]; decide +kernel
theorem D224_17 : decode (cod 224) 17 = .ok (.istore_n 1, 1) := by rw [cc_224]; decide +kernel
theorem D224_18 : decode (cod 224) 18 = .ok (.iinc 2 1, 3) := by rw [cc_224]; decide +kernel
theorem D224_21 : decode (cod 224) 21 = .ok (.goto (-17), 3) := by rw [cc_224]; decide +kernel
theorem D224_24 : decode (cod 224) 24 = .ok (.iload_n 1, 1) := by rw [cc_224]; decide +kernel
theorem D224_25 : decode (cod 224) 25 = .ok (.ireturn, 1) := by rw [cc_224]; decide +kernel
theorem b224_0 {d : Nat} {x0 : Int} {I L : Nat → Nat → Nat → Int} {t : Nat → Nat} : Res d 224 0 [vi x0, vx, vx] [] (mk I L t) = Res d 224 4 [vi x0, vi 0, vi 0] [] (mk I L t) :=
  Eq.trans (e_iconst (x := 0) D224_0 rfl rfl) <| Eq.trans (e_istore_n (ls1 := [vi x0, vi 0, vx]) D224_1 rfl (show 1 < 3 by decide) rfl) <| Eq.trans (e_iconst (x := 0) D224_2 rfl rfl) <| e_istore_n (ls1 := [vi x0, vi 0, vi 0]) D224_3 rfl (show 2 < 3 by decide) rfl
theorem b224_4 {d : Nat} {x0 x1 x2 : Int} {I L : Nat → Nat → Nat → Int} {t : Nat → Nat} : Res d 224 4 [vi x0, vi x1, vi x2] [] (mk I L t) = if 9 ≤ x2 then Res d 224 24 [vi x0, vi x1, vi x2] [] (mk I L t) else Res d 224 10 [vi x0, vi x1, vi x2] [] (mk I L t) :=
  Eq.trans (e_iload_n D224_4 rfl rfl) <| Eq.trans (e_bipush (x := 9) D224_5 rfl rfl) <| e_icge D224_7 rfl rfl
theorem b224_10 {d : Nat} {x0 x1 x2 : Int} {I L : Nat → Nat → Nat → Int} {t : Nat → Nat} : Res d 224 10 [vi x0, vi x1, vi x2] [] (mk I L t) = Res d 224 4 [vi x0, vi (w32 (x1 + (vIand (vIshr x0 x2) 1))), vi (w32 (x2 + 1))] [] (mk I L t) :=
  Eq.trans (e_iload_n D224_10 rfl rfl) <| Eq.trans (e_iload_n D224_11 rfl rfl) <| Eq.trans (e_iload_n D224_12 rfl rfl) <| Eq.trans (e_ishr D224_13 rfl) <| Eq.trans (e_iconst (x := 1) D224_14 rfl rfl) <| Eq.trans (e_iand D224_15 rfl) <| Eq.trans (e_iadd D224_16 rfl) <| Eq.trans (e_istore_n (ls1 := [vi x0, vi (w32 (x1 + (vIand (vIshr x0 x2) 1))), vi x2]) D224_17 rfl (show 1 < 3 by decide) rfl) <| Eq.trans (e_iinc (ls1 := [vi x0, vi (w32 (x1 + (vIand (vIshr x0 x2) 1))), vi (w32 (x2 + 1))]) D224_18 rfl rfl rfl) <| e_goto (q1 := 4) D224_21 rfl
theorem b224_24 {d : Nat} {x0 x1 x2 : Int} {I L : Nat → Nat → Nat → Int} {t : Nat → Nat} : Res d 224 24 [vi x0, vi x1, vi x2] [] (mk I L t) = some (vi x1, (mk I L t)) :=
  Eq.trans (e_iload_n D224_24 rfl rfl) <| e_iret D224_25 rfl
/-! m_fillers -/
theorem cc_225 : cod 225 = cX12_fillers := rfl
theorem D225_0 : decode (cod 225) 0 = .ok (.iload_n 1, 1) := by rw [cc_225]; decide +kernel
theorem D225_1 : decode (cod 225) 1 = .ok (.invokestatic 233, 3) := by rw [cc_225]; decide +kernel
theorem D225_4 : decode (cod 225) 4 = .ok (.ifCond .eq 21, 3) := by rw [cc_225]; decide +kernel
theorem D225_7 : decode (cod 225) 7 = .ok (.aload_n 0, 1) := by rw [cc_225]; decide +kernel
theorem D225_8 : decode (cod 225) 8 = .ok (.iload_n 2, 1) := by rw [cc_225]; decide +kernel
theorem D225_9 : decode (cod 225) 9 = .ok (.invokevirtual 230, 3) := by rw [cc_225]; decide +kernel
theorem D225_12 : decode (cod 225) 12 = .ok (.ifCond .eq 13, 3) := by rw [cc_225]; decide +kernel
theorem D225_15 : decode (cod 225) 15 = .ok (.iload_n 3, 1) := by rw [cc_225]; decide +kernel
theorem D225_16 : decode (cod 225) 16 = .ok (.iconst 1, 1) := by rw [cc_225]; decide +kernel
theorem D225_17 : decode (cod 225) 17 = .ok (.bipush 8, 2) := by rw [cc_225]; decide +kernel
theorem D225_19 : decode (cod 225) 19 = .ok (.invokestatic 219, 3) := by rw [cc_225]; decide +kernel
theorem D225_22 : decode (cod 225) 22 = .ok (.ifCond .ne 5, 3) := by rw [cc_225]; decide +kernel
theorem D225_25 : decode (cod 225) 25 = .ok (.iconst (-1), 1) := by rw [cc_225]; decide +kernel
theorem D225_26 : decode (cod 225) 26 = .ok (.ireturn, 1) := by rw [cc_225]; decide +kernel
theorem D225_27 : decode (cod 225) 27 = .ok (.iconst (-1), 1) := by rw [cc_225]; decide +kernel
theorem D225_28 : decode (cod 225) 28 = .ok (.istore 4, 2) := by rw [cc_225]; decide +kernel
theorem D225_30 : decode (cod 225) 30 = .ok (.iconst 0, 1) := by rw [cc_225]; decide +kernel
theorem D225_31 : decode (cod 225) 31 = .ok (.istore 5, 2) := by rw [cc_225]; decide +kernel
theorem D225_33 : decode (cod 225) 33 = .ok (.iconst 0, 1) := by rw [cc_225]; decide +kernel
theorem D225_34 : decode (cod 225) 34 = .ok (.istore 6, 2) := by rw [cc_225]; decide +kernel
theorem D225_36 : decode (cod 225) 36 = .ok (.iconst 0, 1) := by rw [cc_225]; decide +kernel
theorem D225_37 : decode (cod 225) 37 = .ok (.istore 7, 2) := by rw [cc_225]; decide +kernel
theorem D225_39 : decode (cod 225) 39 = .ok (.iload 7, 2) := by rw [cc_225]; decide +kernel
theorem D225_41 : decode (cod 225) 41 = .ok (.iconst 1, 1) := by rw [cc_225]; decide +kernel
theorem D225_42 : decode (cod 225) 42 = .ok (.aload_n 0, 1) := by rw [cc_225]; decide +kernel
theorem D225_43 : decode (cod 225) 43 = .ok (.getfield 25, 3) := by rw [cc_225]; decide +kernel
theorem D225_46 : decode (cod 225) 46 = .ok (.iload_n 1, 1) := by rw [cc_225]; decide +kernel
theorem D225_47 : decode (cod 225) 47 = .ok (.iaload, 1) := by rw [cc_225]; decide +kernel
theorem D225_48 : decode (cod 225) 48 = .ok (.ishl, 1) := by rw [cc_225]; decide +kernel
theorem D225_49 : decode (cod 225) 49 = .ok (.if_icmp .ge 208, 3) := by rw [cc_225]; decide +kernel
theorem D225_52 : decode (cod 225) 52 = .ok (.iload 7, 2) := by rw [cc_225]; decide +kernel
theorem D225_54 : decode (cod 225) 54 = .ok (.invokestatic 524, 3) := by rw [cc_225]; decide +kernel
theorem D225_57 : decode (cod 225) 57 = .ok (.iload_n 3, 1) := by rw [cc_225]; decide +kernel
theorem D225_58 : decode (cod 225) 58 = .ok (.if_icmp .eq 6, 3) := by rw [cc_225]; decide +kernel
theorem D225_61 : decode (cod 225) 61 = .ok (.goto 190, 3) := by rw [cc_225]; decide +kernel
theorem D225_64 : decode (cod 225) 64 = .ok (.iconst 1, 1) := by rw [cc_225]; decide +kernel
theorem D225_65 : decode (cod 225) 65 = .ok (.istore 8, 2) := by rw [cc_225]; decide +kernel
theorem D225_67 : decode (cod 225) 67 = .ok (.iconst 0, 1) := by rw [cc_225]; decide +kernel
theorem D225_68 : decode (cod 225) 68 = .ok (.istore 9, 2) := by rw [cc_225]; decide +kernel
theorem D225_70 : decode (cod 225) 70 = .ok (.aload_n 0, 1) := by rw [cc_225]; decide +kernel
theorem D225_71 : decode (cod 225) 71 = .ok (.getfield 28, 3) := by rw [cc_225]; decide +kernel
theorem D225_74 : decode (cod 225) 74 = .ok (.iconst 0, 1) := by rw [cc_225]; decide +kernel
theorem D225_75 : decode (cod 225) 75 = .ok (.iload_n 2, 1) := by rw [cc_225]; decide +kernel
theorem D225_76 : decode (cod 225) 76 = .ok (.iastore, 1) := by rw [cc_225]; decide +kernel
theorem D225_77 : decode (cod 225) 77 = .ok (.aload_n 0, 1) := by rw [cc_225]; decide +kernel
theorem D225_78 : decode (cod 225) 78 = .ok (.iconst 1, 1) := by rw [cc_225]; decide +kernel
theorem D225_79 : decode (cod 225) 79 = .ok (.putfield 236, 3) := by rw [cc_225]; decide +kernel
theorem D225_82 : decode (cod 225) 82 = .ok (.iconst 0, 1) := by rw [cc_225]; decide +kernel
theorem D225_83 : decode (cod 225) 83 = .ok (.istore 10, 2) := by rw [cc_225]; decide +kernel
theorem D225_85 : decode (cod 225) 85 = .ok (.iload 10, 2) := by rw [cc_225]; decide +kernel
theorem D225_87 : decode (cod 225) 87 = .ok (.aload_n 0, 1) := by rw [cc_225]; decide +kernel
theorem D225_88 : decode (cod 225) 88 = .ok (.getfield 25, 3) := by rw [cc_225]; decide +kernel
theorem D225_91 : decode (cod 225) 91 = .ok (.iload_n 1, 1) := by rw [cc_225]; decide +kernel
theorem D225_92 : decode (cod 225) 92 = .ok (.iaload, 1) := by rw [cc_225]; decide +kernel
theorem D225_93 : decode (cod 225) 93 = .ok (.if_icmp .ge 101, 3) := by rw [cc_225]; decide +kernel
theorem D225_96 : decode (cod 225) 96 = .ok (.iload 7, 2) := by rw [cc_225]; decide +kernel
theorem D225_98 : decode (cod 225) 98 = .ok (.iload 10, 2) := by rw [cc_225]; decide +kernel
theorem D225_100 : decode (cod 225) 100 = .ok (.ishr, 1) := by rw [cc_225]; decide +kernel
theorem D225_101 : decode (cod 225) 101 = .ok (.iconst 1, 1) := by rw [cc_225]; decide +kernel
theorem D225_102 : decode (cod 225) 102 = .ok (.iand, 1) := by rw [cc_225]; decide +kernel
theorem D225_103 : decode (cod 225) 103 = .ok (.ifCond .ne 6, 3) := by rw [cc_225]; decide +kernel
theorem D225_106 : decode (cod 225) 106 = .ok (.goto 82, 3) := by rw [cc_225]; decide +kernel
theorem D225_109 : decode (cod 225) 109 = .ok (.aload_n 0, 1) := by rw [cc_225]; decide +kernel
theorem D225_110 : decode (cod 225) 110 = .ok (.getfield 22, 3) := by rw [cc_225]; decide +kernel
theorem D225_113 : decode (cod 225) 113 = .ok (.bipush 9, 2) := by rw [cc_225]; decide +kernel
theorem D225_115 : decode (cod 225) 115 = .ok (.iload_n 1, 1) := by rw [cc_225]; decide +kernel
theorem D225_116 : decode (cod 225) 116 = .ok (.imul, 1) := by rw [cc_225]; decide +kernel
theorem D225_117 : decode (cod 225) 117 = .ok (.iload 10, 2) := by rw [cc_225]; decide +kernel
theorem D225_119 : decode (cod 225) 119 = .ok (.iadd, 1) := by rw [cc_225]; decide +kernel
theorem D225_120 : decode (cod 225) 120 = .ok (.iaload, 1) := by rw [cc_225]; decide +kernel
theorem D225_121 : decode (cod 225) 121 = .ok (.istore 11, 2) := by rw [cc_225]; decide +kernel
theorem D225_123 : decode (cod 225) 123 = .ok (.iload 8, 2) := by rw [cc_225]; decide +kernel
theorem D225_125 : decode (cod 225) 125 = .ok (.ifCond .eq 19, 3) := by rw [cc_225]; decide +kernel
theorem D225_128 : decode (cod 225) 128 = .ok (.iload 11, 2) := by rw [cc_225]; decide +kernel
theorem D225_130 : decode (cod 225) 130 = .ok (.iconst (-1), 1) := by rw [cc_225]; decide +kernel
theorem D225_131 : decode (cod 225) 131 = .ok (.if_icmp .eq 13, 3) := by rw [cc_225]; decide +kernel
theorem D225_134 : decode (cod 225) 134 = .ok (.iload 11, 2) := by rw [cc_225]; decide +kernel
theorem D225_136 : decode (cod 225) 136 = .ok (.iload_n 2, 1) := by rw [cc_225]; decide +kernel
theorem D225_137 : decode (cod 225) 137 = .ok (.if_icmp .eq 7, 3) := by rw [cc_225]; decide +kernel
theorem D225_140 : decode (cod 225) 140 = .ok (.iconst 1, 1) := by rw [cc_225]; decide +kernel
theorem D225_141 : decode (cod 225) 141 = .ok (.goto 4, 3) := by rw [cc_225]; decide +kernel
theorem D225_144 : decode (cod 225) 144 = .ok (.iconst 0, 1) := by rw [cc_225]; decide +kernel
theorem D225_145 : decode (cod 225) 145 = .ok (.istore 8, 2) := by rw [cc_225]; decide +kernel
theorem D225_147 : decode (cod 225) 147 = .ok (.iload 8, 2) := by rw [cc_225]; decide +kernel
theorem D225_149 : decode (cod 225) 149 = .ok (.ifCond .ne 6, 3) := by rw [cc_225]; decide +kernel
theorem D225_152 : decode (cod 225) 152 = .ok (.goto 36, 3) := by rw [cc_225]; decide +kernel
theorem D225_155 : decode (cod 225) 155 = .ok (.aload_n 0, 1) := by rw [cc_225]; decide +kernel
theorem D225_156 : decode (cod 225) 156 = .ok (.getfield 28, 3) := by rw [cc_225]; decide +kernel
theorem D225_159 : decode (cod 225) 159 = .ok (.aload_n 0, 1) := by rw [cc_225]; decide +kernel
theorem D225_160 : decode (cod 225) 160 = .ok (.getfield 236, 3) := by rw [cc_225]; decide +kernel
theorem D225_163 : decode (cod 225) 163 = .ok (.iload 11, 2) := by rw [cc_225]; decide +kernel
theorem D225_165 : decode (cod 225) 165 = .ok (.iastore, 1) := by rw [cc_225]; decide +kernel
theorem D225_166 : decode (cod 225) 166 = .ok (.aload_n 0, 1) := by rw [cc_225]; decide +kernel
theorem D225_167 : decode (cod 225) 167 = .ok (.dup, 1) := by rw [cc_225]; decide +kernel
theorem D225_168 : decode (cod 225) 168 = .ok (.getfield 236, 3) := by rw [cc_225]; decide +kernel
theorem D225_171 : decode (cod 225) 171 = .ok (.iconst 1, 1) := by rw [cc_225]; decide +kernel
theorem D225_172 : decode (cod 225) 172 = .ok (.iadd, 1) := by rw [cc_225]; decide +kernel
theorem D225_173 : decode (cod 225) 173 = .ok (.putfield 236, 3) := by rw [cc_225]; decide +kernel
theorem D225_176 : decode (cod 225) 176 = .ok (.iload 9, 2) := by rw [cc_225]; decide +kernel
theorem D225_178 : decode (cod 225) 178 = .ok (.aload_n 0, 1) := by rw [cc_225]; decide +kernel
theorem D225_179 : decode (cod 225) 179 = .ok (.iload_n 2, 1) := by rw [cc_225]; decide +kernel
theorem D225_180 : decode (cod 225) 180 = .ok (.iload 11, 2) := by rw [cc_225]; decide +kernel
theorem D225_182 : decode (cod 225) 182 = .ok (.invokevirtual 508, 3) := by rw [cc_225]; decide +kernel
theorem D225_185 : decode (cod 225) 185 = .ok (.iadd, 1) := by rw [cc_225]; decide +kernel
theorem D225_186 : decode (cod 225) 186 = .ok (.istore 9, 2) := by rw [cc_225]; decide +kernel
theorem D225_188 : decode (cod 225) 188 = .ok (.iinc 10 1, 3) := by rw [cc_225]; decide +kernel
theorem D225_191 : decode (cod 225) 191 = .ok (.goto (-106), 3) := by rw [cc_225]; decide +kernel
theorem D225_194 : decode (cod 225) 194 = .ok (.iload 8, 2) := by rw [cc_225]; decide +kernel
theorem D225_196 : decode (cod 225) 196 = .ok (.ifCond .ne 6, 3) := by rw [cc_225]; decide +kernel
theorem D225_199 : decode (cod 225) 199 = .ok (.goto 52, 3) := by rw [cc_225]; decide +kernel
theorem D225_202 : decode (cod 225) 202 = .ok (.aload_n 0, 1) := by rw [cc_225]; decide +kernel
theorem D225_203 : decode (cod 225) 203 = .ok (.iconst 0, 1) := by rw [cc_225]; decide +kernel
theorem D225_204 : decode (cod 225) 204 = .ok (.invokevirtual 521, 3) := by rw [cc_225]; decide +kernel
theorem D225_207 : decode (cod 225) 207 = .ok (.istore 10, 2) := by rw [cc_225]; decide +kernel
theorem D225_209 : decode (cod 225) 209 = .ok (.iload 4, 2) := by rw [cc_225]; decide +kernel
theorem D225_211 : decode (cod 225) 211 = .ok (.iconst (-1), 1) := by rw [cc_225]; decide +kernel
theorem D225_212 : decode (cod 225) 212 = .ok (.if_icmp .eq 27, 3) := by rw [cc_225]; decide +kernel
theorem D225_215 : decode (cod 225) 215 = .ok (.iload 10, 2) := by rw [cc_225]; decide +kernel
theorem D225_217 : decode (cod 225) 217 = .ok (.iload 5, 2) := by rw [cc_225]; decide +kernel
theorem D225_219 : decode (cod 225) 219 = .ok (.if_icmp .gt 32, 3) := by rw [cc_225]; decide +kernel
theorem D225_222 : decode (cod 225) 222 = .ok (.iload 10, 2) := by rw [cc_225]; decide +kernel
theorem D225_224 : decode (cod 225) 224 = .ok (.iload 5, 2) := by rw [cc_225]; decide +kernel
theorem D225_226 : decode (cod 225) 226 = .ok (.if_icmp .ne 13, 3) := by rw [cc_225]; decide +kernel
theorem D225_229 : decode (cod 225) 229 = .ok (.iload 9, 2) := by rw [cc_225]; decide +kernel
theorem D225_231 : decode (cod 225) 231 = .ok (.iload 6, 2) := by rw [cc_225]; decide +kernel
theorem D225_233 : decode (cod 225) 233 = .ok (.if_icmp .lt 6, 3) := by rw [cc_225]; decide +kernel
theorem D225_236 : decode (cod 225) 236 = .ok (.goto 15, 3) := by rw [cc_225]; decide +kernel
theorem D225_239 : decode (cod 225) 239 = .ok (.iload 7, 2) := by rw [cc_225]; decide +kernel
theorem D225_241 : decode (cod 225) 241 = .ok (.istore 4, 2) := by rw [cc_225]; decide +kernel
theorem D225_243 : decode (cod 225) 243 = .ok (.iload 10, 2) := by rw [cc_225]; decide +kernel
theorem D225_245 : decode (cod 225) 245 = .ok (.istore 5, 2) := by rw [cc_225]; decide +kernel
theorem D225_247 : decode (cod 225) 247 = .ok (.iload 9, 2) := by rw [cc_225]; decide +kernel
theorem D225_249 : decode (cod 225) 249 = .ok (.istore 6, 2) := by rw [cc_225]; decide +kernel
theorem D225_251 : decode (cod 225) 251 = .ok (.iinc 7 1, 3) := by rw [cc_225]; decide +kernel
theorem D225_254 : decode (cod 225) 254 = .ok (.goto (-215), 3) := by rw [cc_225]; decide +kernel
theorem D225_257 : decode (cod 225) 257 = .ok (.iload 4, 2) := by rw [cc_225]; decide +kernel
theorem D225_259 : decode (cod 225) 259 = .ok (.ireturn, 1) := by rw [cc_225]; decide +kernel
theorem b225_0 {d : Nat} {i0 : Nat} {x1 x2 x3 : Int} {I L : Nat → Nat → Nat → Int} {t : Nat → Nat} : Res (d + 1) 225 0 [vr 12 i0, vi x1, vi x2, vi x3, vx, vx, vx, vx, vx, vx, vx, vx] [] (mk I L t) = (Cal d 148 [vi x1] (mk I L t)).bind fun v => Res (d + 1) 225 4 [vr 12 i0, vi x1, vi x2, vi x3, vx, vx, vx, vx, vx, vx, vx, vx] (psh 148 v.1 []) v.2 :=
  Eq.trans (e_iload_n D225_0 rfl rfl) <| e_callS D225_1 rfl o_225 m_12_233 (by decide) rfl rfl
theorem b225_4 {d : Nat} {i0 : Nat} {x1 x2 x3 xs0 : Int} {I L : Nat → Nat → Nat → Int} {t : Nat → Nat} : Res d 225 4 [vr 12 i0, vi x1, vi x2, vi x3, vx, vx, vx, vx, vx, vx, vx, vx] [vi xs0] (mk I L t) = if xs0 = 0 then Res d 225 25 [vr 12 i0, vi x1, vi x2, vi x3, vx, vx, vx, vx, vx, vx, vx, vx] [] (mk I L t) else Res d 225 7 [vr 12 i0, vi x1, vi x2, vi x3, vx, vx, vx, vx, vx, vx, vx, vx] [] (mk I L t) :=
  e_ifeq D225_4 rfl rfl
theorem b225_7 {d : Nat} {i0 : Nat} {x1 x2 x3 : Int} {I L : Nat → Nat → Nat → Int} {t : Nat → Nat} : Res (d + 1) 225 7 [vr 12 i0, vi x1, vi x2, vi x3, vx, vx, vx, vx, vx, vx, vx, vx] [] (mk I L t) = (Cal d 147 [vr 12 i0, vi x2] (mk I L t)).bind fun v => Res (d + 1) 225 12 [vr 12 i0, vi x1, vi x2, vi x3, vx, vx, vx, vx, vx, vx, vx, vx] (psh 147 v.1 []) v.2 :=
  Eq.trans (e_aload_n D225_7 rfl rfl) <| Eq.trans (e_iload_n D225_8 rfl rfl) <| e_callV D225_9 rfl o_225 m_12_230 (by decide) rfl rfl
theorem b225_12 {d : Nat} {i0 : Nat} {x1 x2 x3 xs0 : Int} {I L : Nat → Nat → Nat → Int} {t : Nat → Nat} : Res d 225 12 [vr 12 i0, vi x1, vi x2, vi x3, vx, vx, vx, vx, vx, vx, vx, vx] [vi xs0] (mk I L t) = if xs0 = 0 then Res d 225 25 [vr 12 i0, vi x1, vi x2, vi x3, vx, vx, vx, vx, vx, vx, vx, vx] [] (mk I L t) else Res d 225 15 [vr 12 i0, vi x1, vi x2, vi x3, vx, vx, vx, vx, vx, vx, vx, vx] [] (mk I L t) :=
  e_ifeq D225_12 rfl rfl
theorem b225_15 {d : Nat} {i0 : Nat} {x1 x2 x3 : Int} {I L : Nat → Nat → Nat → Int} {t : Nat → Nat} : Res (d + 1) 225 15 [vr 12 i0, vi x1, vi x2, vi x3, vx, vx, vx, vx, vx, vx, vx, vx] [] (mk I L t) = (Cal d 146 [vi x3, vi 1, vi 8] (mk I L t)).bind fun v => Res (d + 1) 225 22 [vr 12 i0, vi x1, vi x2, vi x3, vx, vx, vx, vx, vx, vx, vx, vx] (psh 146 v.1 []) v.2 :=
  Eq.trans (e_iload_n D225_15 rfl rfl) <| Eq.trans (e_iconst (x := 1) D225_16 rfl rfl) <| Eq.trans (e_bipush (x := 8) D225_17 rfl rfl) <| e_callS D225_19 rfl o_225 m_12_219 (by decide) rfl rfl
theorem b225_22 {d : Nat} {i0 : Nat} {x1 x2 x3 xs0 : Int} {I L : Nat → Nat → Nat → Int} {t : Nat → Nat} : Res d 225 22 [vr 12 i0, vi x1, vi x2, vi x3, vx, vx, vx, vx, vx, vx, vx, vx] [vi xs0] (mk I L t) = if ¬ xs0 = 0 then Res d 225 27 [vr 12 i0, vi x1, vi x2, vi x3, vx, vx, vx, vx, vx, vx, vx, vx] [] (mk I L t) else Res d 225 25 [vr 12 i0, vi x1, vi x2, vi x3, vx, vx, vx, vx, vx, vx, vx, vx] [] (mk I L t) :=
  e_ifne D225_22 rfl rfl
theorem b225_25 {d : Nat} {i0 : Nat} {x1 x2 x3 : Int} {I L : Nat → Nat → Nat → Int} {t : Nat → Nat} : Res d 225 25 [vr 12 i0, vi x1, vi x2, vi x3, vx, vx, vx, vx, vx, vx, vx, vx] [] (mk I L t) = some (vi (-1), (mk I L t)) :=
  Eq.trans (e_iconst (x := -1) D225_25 rfl rfl) <| e_iret D225_26 rfl
theorem b225_27 {d : Nat} {i0 : Nat} {x1 x2 x3 : Int} {I L : Nat → Nat → Nat → Int} {t : Nat → Nat} : Res d 225 27 [vr 12 i0, vi x1, vi x2, vi x3, vx, vx, vx, vx, vx, vx, vx, vx] [] (mk I L t) = Res d 225 39 [vr 12 i0, vi x1, vi x2, vi x3, vi (-1), vi 0, vi 0, vi 0, vx, vx, vx, vx] [] (mk I L t) :=
  Eq.trans (e_iconst (x := -1) D225_27 rfl rfl) <| Eq.trans (e_istore (ls1 := [vr 12 i0, vi x1, vi x2, vi x3, vi (-1), vx, vx, vx, vx, vx, vx, vx]) D225_28 rfl (show 4 < 12 by decide) rfl) <| Eq.trans (e_iconst (x := 0) D225_30 rfl rfl) <| Eq.trans (e_istore (ls1 := [vr 12 i0, vi x1, vi x2, vi x3, vi (-1), vi 0, vx, vx, vx, vx, vx, vx]) D225_31 rfl (show 5 < 12 by decide) rfl) <| Eq.trans (e_iconst (x := 0) D225_33 rfl rfl) <| Eq.trans (e_istore (ls1 := [vr 12 i0, vi x1, vi x2, vi x3, vi (-1), vi 0, vi 0, vx, vx, vx, vx, vx]) D225_34 rfl (show 6 < 12 by decide) rfl) <| Eq.trans (e_iconst (x := 0) D225_36 rfl rfl) <| e_istore (ls1 := [vr 12 i0, vi x1, vi x2, vi x3, vi (-1), vi 0, vi 0, vi 0, vx, vx, vx, vx]) D225_37 rfl (show 7 < 12 by decide) rfl
theorem b225_39 {d : Nat} {i0 : Nat} {x1 x2 x3 x4 x5 x6 x7 : Int} {u8 u9 u10 u11 : MV} {I L : Nat → Nat → Nat → Int} {t : Nat → Nat} (g1 : 0 ≤ x1 ∧ x1 < 6) : Res d 225 39 [vr 12 i0, vi x1, vi x2, vi x3, vi x4, vi x5, vi x6, vi x7, u8, u9, u10, u11] [] (mk I L t) = if vIshl 1 (I 53 i0 x1.toNat) ≤ x7 then Res d 225 257 [vr 12 i0, vi x1, vi x2, vi x3, vi x4, vi x5, vi x6, vi x7, u8, u9, u10, u11] [] (mk I L t) else Res d 225 52 [vr 12 i0, vi x1, vi x2, vi x3, vi x4, vi x5, vi x6, vi x7, u8, u9, u10, u11] [] (mk I L t) :=
  Eq.trans (e_iload D225_39 rfl rfl) <| Eq.trans (e_iconst (x := 1) D225_41 rfl rfl) <| Eq.trans (e_aload_n D225_42 rfl rfl) <| Eq.trans (e_getP (p := (53, i0)) D225_43 rfl o_225 f_12_25 (sh_12 _) (by decide) (pp_12_10 _ _)) <| Eq.trans (e_iload_n D225_46 rfl rfl) <| Eq.trans (e_iald D225_47 rfl (al_53 _) g1) <| Eq.trans (e_ishl D225_48 rfl) <| e_icge D225_49 rfl rfl
theorem b225_52 {d : Nat} {i0 : Nat} {x1 x2 x3 x4 x5 x6 x7 : Int} {u8 u9 u10 u11 : MV} {I L : Nat → Nat → Nat → Int} {t : Nat → Nat} : Res (d + 1) 225 52 [vr 12 i0, vi x1, vi x2, vi x3, vi x4, vi x5, vi x6, vi x7, u8, u9, u10, u11] [] (mk I L t) = (Cal d 224 [vi x7] (mk I L t)).bind fun v => Res (d + 1) 225 57 [vr 12 i0, vi x1, vi x2, vi x3, vi x4, vi x5, vi x6, vi x7, u8, u9, u10, u11] (psh 224 v.1 []) v.2 :=
  Eq.trans (e_iload D225_52 rfl rfl) <| e_callS D225_54 rfl o_225 m_12_524 (by decide) rfl rfl
theorem b225_57 {d : Nat} {i0 : Nat} {x1 x2 x3 x4 x5 x6 x7 xs0 : Int} {u8 u9 u10 u11 : MV} {I L : Nat → Nat → Nat → Int} {t : Nat → Nat} : Res d 225 57 [vr 12 i0, vi x1, vi x2, vi x3, vi x4, vi x5, vi x6, vi x7, u8, u9, u10, u11] [vi xs0] (mk I L t) = if xs0 = x3 then Res d 225 64 [vr 12 i0, vi x1, vi x2, vi x3, vi x4, vi x5, vi x6, vi x7, u8, u9, u10, u11] [] (mk I L t) else Res d 225 61 [vr 12 i0, vi x1, vi x2, vi x3, vi x4, vi x5, vi x6, vi x7, u8, u9, u10, u11] [] (mk I L t) :=
  Eq.trans (e_iload_n D225_57 rfl rfl) <| e_iceq D225_58 rfl rfl
theorem b225_61 {d : Nat} {i0 : Nat} {x1 x2 x3 x4 x5 x6 x7 : Int} {u8 u9 u10 u11 : MV} {I L : Nat → Nat → Nat → Int} {t : Nat → Nat} : Res d 225 61 [vr 12 i0, vi x1, vi x2, vi x3, vi x4, vi x5, vi x6, vi x7, u8, u9, u10, u11] [] (mk I L t) = Res d 225 251 [vr 12 i0, vi x1, vi x2, vi x3, vi x4, vi x5, vi x6, vi x7, u8, u9, u10, u11] [] (mk I L t) :=
  e_goto (q1 := 251) D225_61 rfl
theorem b225_64 {d : Nat} {i0 : Nat} {x1 x2 x3 x4 x5 x6 x7 : Int} {u8 u9 u10 u11 : MV} {I L : Nat → Nat → Nat → Int} {t : Nat → Nat} : Res d 225 64 [vr 12 i0, vi x1, vi x2, vi x3, vi x4, vi x5, vi x6, vi x7, u8, u9, u10, u11] [] (mk I L t) = Res d 225 85 [vr 12 i0, vi x1, vi x2, vi x3, vi x4, vi x5, vi x6, vi x7, vi 1, vi 0, vi 0, u11] [] (mk (up3 (up3 I 54 i0 0 x2) 12 i0 12 1) L t) :=
  Eq.trans (e_iconst (x := 1) D225_64 rfl rfl) <| Eq.trans (e_istore (ls1 := [vr 12 i0, vi x1, vi x2, vi x3, vi x4, vi x5, vi x6, vi x7, vi 1, u9, u10, u11]) D225_65 rfl (show 8 < 12 by decide) rfl) <| Eq.trans (e_iconst (x := 0) D225_67 rfl rfl) <| Eq.trans (e_istore (ls1 := [vr 12 i0, vi x1, vi x2, vi x3, vi x4, vi x5, vi x6, vi x7, vi 1, vi 0, u10, u11]) D225_68 rfl (show 9 < 12 by decide) rfl) <| Eq.trans (e_aload_n D225_70 rfl rfl) <| Eq.trans (e_getP (p := (54, i0)) D225_71 rfl o_225 f_12_28 (sh_12 _) (by decide) (pp_12_11 _ _)) <| Eq.trans (e_iconst (x := 0) D225_74 rfl rfl) <| Eq.trans (e_iload_n D225_75 rfl rfl) <| Eq.trans (e_iast D225_76 rfl (al_54 _) rfl (by decide)) <| Eq.trans (e_aload_n D225_77 rfl rfl) <| Eq.trans (e_iconst (x := 1) D225_78 rfl rfl) <| Eq.trans (e_putI D225_79 rfl o_225 f_12_236 (sh_12 _) rfl (by decide) (Or.inl (by decide))) <| Eq.trans (e_iconst (x := 0) D225_82 rfl rfl) <| e_istore (ls1 := [vr 12 i0, vi x1, vi x2, vi x3, vi x4, vi x5, vi x6, vi x7, vi 1, vi 0, vi 0, u11]) D225_83 rfl (show 10 < 12 by decide) rfl
theorem b225_85 {d : Nat} {i0 : Nat} {x1 x2 x3 x4 x5 x6 x7 x8 x9 x10 : Int} {u11 : MV} {I L : Nat → Nat → Nat → Int} {t : Nat → Nat} (g1 : 0 ≤ x1 ∧ x1 < 6) : Res d 225 85 [vr 12 i0, vi x1, vi x2, vi x3, vi x4, vi x5, vi x6, vi x7, vi x8, vi x9, vi x10, u11] [] (mk I L t) = if I 53 i0 x1.toNat ≤ x10 then Res d 225 194 [vr 12 i0, vi x1, vi x2, vi x3, vi x4, vi x5, vi x6, vi x7, vi x8, vi x9, vi x10, u11] [] (mk I L t) else Res d 225 96 [vr 12 i0, vi x1, vi x2, vi x3, vi x4, vi x5, vi x6, vi x7, vi x8, vi x9, vi x10, u11] [] (mk I L t) :=
  Eq.trans (e_iload D225_85 rfl rfl) <| Eq.trans (e_aload_n D225_87 rfl rfl) <| Eq.trans (e_getP (p := (53, i0)) D225_88 rfl o_225 f_12_25 (sh_12 _) (by decide) (pp_12_10 _ _)) <| Eq.trans (e_iload_n D225_91 rfl rfl) <| Eq.trans (e_iald D225_92 rfl (al_53 _) g1) <| e_icge D225_93 rfl rfl
theorem b225_96 {d : Nat} {i0 : Nat} {x1 x2 x3 x4 x5 x6 x7 x8 x9 x10 : Int} {u11 : MV} {I L : Nat → Nat → Nat → Int} {t : Nat → Nat} : Res d 225 96 [vr 12 i0, vi x1, vi x2, vi x3, vi x4, vi x5, vi x6, vi x7, vi x8, vi x9, vi x10, u11] [] (mk I L t) = if ¬ vIand (vIshr x7 x10) 1 = 0 then Res d 225 109 [vr 12 i0, vi x1, vi x2, vi x3, vi x4, vi x5, vi x6, vi x7, vi x8, vi x9, vi x10, u11] [] (mk I L t) else Res d 225 106 [vr 12 i0, vi x1, vi x2, vi x3, vi x4, vi x5, vi x6, vi x7, vi x8, vi x9, vi x10, u11] [] (mk I L t) :=
  Eq.trans (e_iload D225_96 rfl rfl) <| Eq.trans (e_iload D225_98 rfl rfl) <| Eq.trans (e_ishr D225_100 rfl) <| Eq.trans (e_iconst (x := 1) D225_101 rfl rfl) <| Eq.trans (e_iand D225_102 rfl) <| e_ifne D225_103 rfl rfl
theorem b225_106 {d : Nat} {i0 : Nat} {x1 x2 x3 x4 x5 x6 x7 x8 x9 x10 : Int} {u11 : MV} {I L : Nat → Nat → Nat → Int} {t : Nat → Nat} : Res d 225 106 [vr 12 i0, vi x1, vi x2, vi x3, vi x4, vi x5, vi x6, vi x7, vi x8, vi x9, vi x10, u11] [] (mk I L t) = Res d 225 188 [vr 12 i0, vi x1, vi x2, vi x3, vi x4, vi x5, vi x6, vi x7, vi x8, vi x9, vi x10, u11] [] (mk I L t) :=
  e_goto (q1 := 188) D225_106 rfl
theorem b225_109 {d : Nat} {i0 : Nat} {x1 x2 x3 x4 x5 x6 x7 x8 x9 x10 : Int} {u11 : MV} {I L : Nat → Nat → Nat → Int} {t : Nat → Nat} (g1 : 0 ≤ w32 ((w32 (9 * x1)) + x10) ∧ w32 ((w32 (9 * x1)) + x10) < 54) : Res d 225 109 [vr 12 i0, vi x1, vi x2, vi x3, vi x4, vi x5, vi x6, vi x7, vi x8, vi x9, vi x10, u11] [] (mk I L t) = if x8 = 0 then Res d 225 144 [vr 12 i0, vi x1, vi x2, vi x3, vi x4, vi x5, vi x6, vi x7, vi x8, vi x9, vi x10, vi (I 52 i0 (w32 ((w32 (9 * x1)) + x10)).toNat)] [] (mk I L t) else Res d 225 128 [vr 12 i0, vi x1, vi x2, vi x3, vi x4, vi x5, vi x6, vi x7, vi x8, vi x9, vi x10, vi (I 52 i0 (w32 ((w32 (9 * x1)) + x10)).toNat)] [] (mk I L t) :=
  Eq.trans (e_aload_n D225_109 rfl rfl) <| Eq.trans (e_getP (p := (52, i0)) D225_110 rfl o_225 f_12_22 (sh_12 _) (by decide) (pp_12_9 _ _)) <| Eq.trans (e_bipush (x := 9) D225_113 rfl rfl) <| Eq.trans (e_iload_n D225_115 rfl rfl) <| Eq.trans (e_imul D225_116 rfl) <| Eq.trans (e_iload D225_117 rfl rfl) <| Eq.trans (e_iadd D225_119 rfl) <| Eq.trans (e_iald D225_120 rfl (al_52 _) g1) <| Eq.trans (e_istore (ls1 := [vr 12 i0, vi x1, vi x2, vi x3, vi x4, vi x5, vi x6, vi x7, vi x8, vi x9, vi x10, vi (I 52 i0 (w32 ((w32 (9 * x1)) + x10)).toNat)]) D225_121 rfl (show 11 < 12 by decide) rfl) <| Eq.trans (e_iload D225_123 rfl rfl) <| e_ifeq D225_125 rfl rfl
theorem b225_128 {d : Nat} {i0 : Nat} {x1 x2 x3 x4 x5 x6 x7 x8 x9 x10 x11 : Int} {I L : Nat → Nat → Nat → Int} {t : Nat → Nat} : Res d 225 128 [vr 12 i0, vi x1, vi x2, vi x3, vi x4, vi x5, vi x6, vi x7, vi x8, vi x9, vi x10, vi x11] [] (mk I L t) = if x11 = -1 then Res d 225 144 [vr 12 i0, vi x1, vi x2, vi x3, vi x4, vi x5, vi x6, vi x7, vi x8, vi x9, vi x10, vi x11] [] (mk I L t) else Res d 225 134 [vr 12 i0, vi x1, vi x2, vi x3, vi x4, vi x5, vi x6, vi x7, vi x8, vi x9, vi x10, vi x11] [] (mk I L t) :=
  Eq.trans (e_iload D225_128 rfl rfl) <| Eq.trans (e_iconst (x := -1) D225_130 rfl rfl) <| e_iceq D225_131 rfl rfl
theorem b225_134 {d : Nat} {i0 : Nat} {x1 x2 x3 x4 x5 x6 x7 x8 x9 x10 x11 : Int} {I L : Nat → Nat → Nat → Int} {t : Nat → Nat} : Res d 225 134 [vr 12 i0, vi x1, vi x2, vi x3, vi x4, vi x5, vi x6, vi x7, vi x8, vi x9, vi x10, vi x11] [] (mk I L t) = if x11 = x2 then Res d 225 144 [vr 12 i0, vi x1, vi x2, vi x3, vi x4, vi x5, vi x6, vi x7, vi x8, vi x9, vi x10, vi x11] [] (mk I L t) else Res d 225 140 [vr 12 i0, vi x1, vi x2, vi x3, vi x4, vi x5, vi x6, vi x7, vi x8, vi x9, vi x10, vi x11] [] (mk I L t) :=
  Eq.trans (e_iload D225_134 rfl rfl) <| Eq.trans (e_iload_n D225_136 rfl rfl) <| e_iceq D225_137 rfl rfl
theorem b225_140 {d : Nat} {i0 : Nat} {x1 x2 x3 x4 x5 x6 x7 x8 x9 x10 x11 : Int} {I L : Nat → Nat → Nat → Int} {t : Nat → Nat} : Res d 225 140 [vr 12 i0, vi x1, vi x2, vi x3, vi x4, vi x5, vi x6, vi x7, vi x8, vi x9, vi x10, vi x11] [] (mk I L t) = Res d 225 145 [vr 12 i0, vi x1, vi x2, vi x3, vi x4, vi x5, vi x6, vi x7, vi x8, vi x9, vi x10, vi x11] [vi 1] (mk I L t) :=
  Eq.trans (e_iconst (x := 1) D225_140 rfl rfl) <| e_goto (q1 := 145) D225_141 rfl
theorem b225_144 {d : Nat} {i0 : Nat} {x1 x2 x3 x4 x5 x6 x7 x8 x9 x10 x11 : Int} {I L : Nat → Nat → Nat → Int} {t : Nat → Nat} : Res d 225 144 [vr 12 i0, vi x1, vi x2, vi x3, vi x4, vi x5, vi x6, vi x7, vi x8, vi x9, vi x10, vi x11] [] (mk I L t) = Res d 225 145 [vr 12 i0, vi x1, vi x2, vi x3, vi x4, vi x5, vi x6, vi x7, vi x8, vi x9, vi x10, vi x11] [vi 0] (mk I L t) :=
  e_iconst (x := 0) D225_144 rfl rfl
theorem b225_145 {d : Nat} {i0 : Nat} {x1 x2 x3 x4 x5 x6 x7 x8 x9 x10 x11 xs0 : Int} {I L : Nat → Nat → Nat → Int} {t : Nat → Nat} : Res d 225 145 [vr 12 i0, vi x1, vi x2, vi x3, vi x4, vi x5, vi x6, vi x7, vi x8, vi x9, vi x10, vi x11] [vi xs0] (mk I L t) = if ¬ xs0 = 0 then Res d 225 155 [vr 12 i0, vi x1, vi x2, vi x3, vi x4, vi x5, vi x6, vi x7, vi xs0, vi x9, vi x10, vi x11] [] (mk I L t) else Res d 225 152 [vr 12 i0, vi x1, vi x2, vi x3, vi x4, vi x5, vi x6, vi x7, vi xs0, vi x9, vi x10, vi x11] [] (mk I L t) :=
  Eq.trans (e_istore (ls1 := [vr 12 i0, vi x1, vi x2, vi x3, vi x4, vi x5, vi x6, vi x7, vi xs0, vi x9, vi x10, vi x11]) D225_145 rfl (show 8 < 12 by decide) rfl) <| Eq.trans (e_iload D225_147 rfl rfl) <| e_ifne D225_149 rfl rfl
theorem b225_152 {d : Nat} {i0 : Nat} {x1 x2 x3 x4 x5 x6 x7 x8 x9 x10 x11 : Int} {I L : Nat → Nat → Nat → Int} {t : Nat → Nat} : Res d 225 152 [vr 12 i0, vi x1, vi x2, vi x3, vi x4, vi x5, vi x6, vi x7, vi x8, vi x9, vi x10, vi x11] [] (mk I L t) = Res d 225 188 [vr 12 i0, vi x1, vi x2, vi x3, vi x4, vi x5, vi x6, vi x7, vi x8, vi x9, vi x10, vi x11] [] (mk I L t) :=
  e_goto (q1 := 188) D225_152 rfl
theorem b225_155 {d : Nat} {i0 : Nat} {x1 x2 x3 x4 x5 x6 x7 x8 x9 x10 x11 : Int} {I L : Nat → Nat → Nat → Int} {t : Nat → Nat} (g1 : 0 ≤ I 12 i0 12 ∧ I 12 i0 12 < 9) : Res (d + 1) 225 155 [vr 12 i0, vi x1, vi x2, vi x3, vi x4, vi x5, vi x6, vi x7, vi x8, vi x9, vi x10, vi x11] [] (mk I L t) = (Cal d 215 [vr 12 i0, vi x2, vi x11] (mk (up3 (up3 I 54 i0 (I 12 i0 12).toNat x11) 12 i0 12 (w32 (((up3 I 54 i0 (I 12 i0 12).toNat x11) 12 i0 12) + 1))) L t)).bind fun v => Res (d + 1) 225 185 [vr 12 i0, vi x1, vi x2, vi x3, vi x4, vi x5, vi x6, vi x7, vi x8, vi x9, vi x10, vi x11] (psh 215 v.1 [vi x9]) v.2 :=
  Eq.trans (e_aload_n D225_155 rfl rfl) <| Eq.trans (e_getP (p := (54, i0)) D225_156 rfl o_225 f_12_28 (sh_12 _) (by decide) (pp_12_11 _ _)) <| Eq.trans (e_aload_n D225_159 rfl rfl) <| Eq.trans (e_getI D225_160 rfl o_225 f_12_236 (sh_12 _) (by decide)) <| Eq.trans (e_iload D225_163 rfl rfl) <| Eq.trans (e_iast D225_165 rfl (al_54 _) rfl g1) <| Eq.trans (e_aload_n D225_166 rfl rfl) <| Eq.trans (e_dup D225_167 rfl) <| Eq.trans (e_getI D225_168 rfl o_225 f_12_236 (sh_12 _) (by decide)) <| Eq.trans (e_iconst (x := 1) D225_171 rfl rfl) <| Eq.trans (e_iadd D225_172 rfl) <| Eq.trans (e_putI D225_173 rfl o_225 f_12_236 (sh_12 _) rfl (by decide) (Or.inl (by decide))) <| Eq.trans (e_iload D225_176 rfl rfl) <| Eq.trans (e_aload_n D225_178 rfl rfl) <| Eq.trans (e_iload_n D225_179 rfl rfl) <| Eq.trans (e_iload D225_180 rfl rfl) <| e_callV D225_182 rfl o_225 m_12_508 (by decide) rfl rfl
theorem b225_185 {d : Nat} {i0 : Nat} {x1 x2 x3 x4 x5 x6 x7 x8 x9 x10 x11 xs1 xs0 : Int} {I L : Nat → Nat → Nat → Int} {t : Nat → Nat} : Res d 225 185 [vr 12 i0, vi x1, vi x2, vi x3, vi x4, vi x5, vi x6, vi x7, vi x8, vi x9, vi x10, vi x11] [vi xs1, vi xs0] (mk I L t) = Res d 225 188 [vr 12 i0, vi x1, vi x2, vi x3, vi x4, vi x5, vi x6, vi x7, vi x8, vi (w32 (xs0 + xs1)), vi x10, vi x11] [] (mk I L t) :=
  Eq.trans (e_iadd D225_185 rfl) <| e_istore (ls1 := [vr 12 i0, vi x1, vi x2, vi x3, vi x4, vi x5, vi x6, vi x7, vi x8, vi (w32 (xs0 + xs1)), vi x10, vi x11]) D225_186 rfl (show 9 < 12 by decide) rfl
theorem b225_188 {d : Nat} {i0 : Nat} {x1 x2 x3 x4 x5 x6 x7 x8 x9 x10 : Int} {u11 : MV} {I L : Nat → Nat → Nat → Int} {t : Nat → Nat} : Res d 225 188 [vr 12 i0, vi x1, vi x2, vi x3, vi x4, vi x5, vi x6, vi x7, vi x8, vi x9, vi x10, u11] [] (mk I L t) = Res d 225 85 [vr 12 i0, vi x1, vi x2, vi x3, vi x4, vi x5, vi x6, vi x7, vi x8, vi x9, vi (w32 (x10 + 1)), u11] [] (mk I L t) :=
  Eq.trans (e_iinc (ls1 := [vr 12 i0, vi x1, vi x2, vi x3, vi x4, vi x5, vi x6, vi x7, vi x8, vi x9, vi (w32 (x10 + 1)), u11]) D225_188 rfl rfl rfl) <| e_goto (q1 := 85) D225_191 rfl
theorem b225_194 {d : Nat} {i0 : Nat} {x1 x2 x3 x4 x5 x6 x7 x8 x9 x10 : Int} {u11 : MV} {I L : Nat → Nat → Nat → Int} {t : Nat → Nat} : Res d 225 194 [vr 12 i0, vi x1, vi x2, vi x3, vi x4, vi x5, vi x6, vi x7, vi x8, vi x9, vi x10, u11] [] (mk I L t) = if ¬ x8 = 0 then Res d 225 202 [vr 12 i0, vi x1, vi x2, vi x3, vi x4, vi x5, vi x6, vi x7, vi x8, vi x9, vi x10, u11] [] (mk I L t) else Res d 225 199 [vr 12 i0, vi x1, vi x2, vi x3, vi x4, vi x5, vi x6, vi x7, vi x8, vi x9, vi x10, u11] [] (mk I L t) :=
  Eq.trans (e_iload D225_194 rfl rfl) <| e_ifne D225_196 rfl rfl
theorem b225_199 {d : Nat} {i0 : Nat} {x1 x2 x3 x4 x5 x6 x7 x8 x9 x10 : Int} {u11 : MV} {I L : Nat → Nat → Nat → Int} {t : Nat → Nat} : Res d 225 199 [vr 12 i0, vi x1, vi x2, vi x3, vi x4, vi x5, vi x6, vi x7, vi x8, vi x9, vi x10, u11] [] (mk I L t) = Res d 225 251 [vr 12 i0, vi x1, vi x2, vi x3, vi x4, vi x5, vi x6, vi x7, vi x8, vi x9, vi x10, u11] [] (mk I L t) :=
  e_goto (q1 := 251) D225_199 rfl
theorem b225_202 {d : Nat} {i0 : Nat} {x1 x2 x3 x4 x5 x6 x7 x8 x9 x10 : Int} {u11 : MV} {I L : Nat → Nat → Nat → Int} {t : Nat → Nat} : Res (d + 1) 225 202 [vr 12 i0, vi x1, vi x2, vi x3, vi x4, vi x5, vi x6, vi x7, vi x8, vi x9, vi x10, u11] [] (mk I L t) = (Cal d 222 [vr 12 i0, vi 0] (mk I L t)).bind fun v => Res (d + 1) 225 207 [vr 12 i0, vi x1, vi x2, vi x3, vi x4, vi x5, vi x6, vi x7, vi x8, vi x9, vi x10, u11] (psh 222 v.1 []) v.2 :=
  Eq.trans (e_aload_n D225_202 rfl rfl) <| Eq.trans (e_iconst (x := 0) D225_203 rfl rfl) <| e_callV D225_204 rfl o_225 m_12_521 (by decide) rfl rfl
theorem b225_207 {d : Nat} {i0 : Nat} {x1 x2 x3 x4 x5 x6 x7 x8 x9 x10 xs0 : Int} {u11 : MV} {I L : Nat → Nat → Nat → Int} {t : Nat → Nat} : Res d 225 207 [vr 12 i0, vi x1, vi x2, vi x3, vi x4, vi x5, vi x6, vi x7, vi x8, vi x9, vi x10, u11] [vi xs0] (mk I L t) = if x4 = -1 then Res d 225 239 [vr 12 i0, vi x1, vi x2, vi x3, vi x4, vi x5, vi x6, vi x7, vi x8, vi x9, vi xs0, u11] [] (mk I L t) else Res d 225 215 [vr 12 i0, vi x1, vi x2, vi x3, vi x4, vi x5, vi x6, vi x7, vi x8, vi x9, vi xs0, u11] [] (mk I L t) :=
  Eq.trans (e_istore (ls1 := [vr 12 i0, vi x1, vi x2, vi x3, vi x4, vi x5, vi x6, vi x7, vi x8, vi x9, vi xs0, u11]) D225_207 rfl (show 10 < 12 by decide) rfl) <| Eq.trans (e_iload D225_209 rfl rfl) <| Eq.trans (e_iconst (x := -1) D225_211 rfl rfl) <| e_iceq D225_212 rfl rfl
theorem b225_215 {d : Nat} {i0 : Nat} {x1 x2 x3 x4 x5 x6 x7 x8 x9 x10 : Int} {u11 : MV} {I L : Nat → Nat → Nat → Int} {t : Nat → Nat} : Res d 225 215 [vr 12 i0, vi x1, vi x2, vi x3, vi x4, vi x5, vi x6, vi x7, vi x8, vi x9, vi x10, u11] [] (mk I L t) = if x5 < x10 then Res d 225 251 [vr 12 i0, vi x1, vi x2, vi x3, vi x4, vi x5, vi x6, vi x7, vi x8, vi x9, vi x10, u11] [] (mk I L t) else Res d 225 222 [vr 12 i0, vi x1, vi x2, vi x3, vi x4, vi x5, vi x6, vi x7, vi x8, vi x9, vi x10, u11] [] (mk I L t) :=
  Eq.trans (e_iload D225_215 rfl rfl) <| Eq.trans (e_iload D225_217 rfl rfl) <| e_icgt D225_219 rfl rfl
theorem b225_222 {d : Nat} {i0 : Nat} {x1 x2 x3 x4 x5 x6 x7 x8 x9 x10 : Int} {u11 : MV} {I L : Nat → Nat → Nat → Int} {t : Nat → Nat} : Res d 225 222 [vr 12 i0, vi x1, vi x2, vi x3, vi x4, vi x5, vi x6, vi x7, vi x8, vi x9, vi x10, u11] [] (mk I L t) = if ¬ x10 = x5 then Res d 225 239 [vr 12 i0, vi x1, vi x2, vi x3, vi x4, vi x5, vi x6, vi x7, vi x8, vi x9, vi x10, u11] [] (mk I L t) else Res d 225 229 [vr 12 i0, vi x1, vi x2, vi x3, vi x4, vi x5, vi x6, vi x7, vi x8, vi x9, vi x10, u11] [] (mk I L t) :=
  Eq.trans (e_iload D225_222 rfl rfl) <| Eq.trans (e_iload D225_224 rfl rfl) <| e_icne D225_226 rfl rfl
theorem b225_229 {d : Nat} {i0 : Nat} {x1 x2 x3 x4 x5 x6 x7 x8 x9 x10 : Int} {u11 : MV} {I L : Nat → Nat → Nat → Int} {t : Nat → Nat} : Res d 225 229 [vr 12 i0, vi x1, vi x2, vi x3, vi x4, vi x5, vi x6, vi x7, vi x8, vi x9, vi x10, u11] [] (mk I L t) = if x9 < x6 then Res d 225 239 [vr 12 i0, vi x1, vi x2, vi x3, vi x4, vi x5, vi x6, vi x7, vi x8, vi x9, vi x10, u11] [] (mk I L t) else Res d 225 236 [vr 12 i0, vi x1, vi x2, vi x3, vi x4, vi x5, vi x6, vi x7, vi x8, vi x9, vi x10, u11] [] (mk I L t) :=
  Eq.trans (e_iload D225_229 rfl rfl) <| Eq.trans (e_iload D225_231 rfl rfl) <| e_iclt D225_233 rfl rfl
theorem b225_236 {d : Nat} {i0 : Nat} {x1 x2 x3 x4 x5 x6 x7 x8 x9 x10 : Int} {u11 : MV} {I L : Nat → Nat → Nat → Int} {t : Nat → Nat} : Res d 225 236 [vr 12 i0, vi x1, vi x2, vi x3, vi x4, vi x5, vi x6, vi x7, vi x8, vi x9, vi x10, u11] [] (mk I L t) = Res d 225 251 [vr 12 i0, vi x1, vi x2, vi x3, vi x4, vi x5, vi x6, vi x7, vi x8, vi x9, vi x10, u11] [] (mk I L t) :=
  e_goto (q1 := 251) D225_236 rfl
theorem b225_239 {d : Nat} {i0 : Nat} {x1 x2 x3 x4 x5 x6 x7 x8 x9 x10 : Int} {u11 : MV} {I L : Nat → Nat → Nat → Int} {t : Nat → Nat} : Res d 225 239 [vr 12 i0, vi x1, vi x2, vi x3, vi x4, vi x5, vi x6, vi x7, vi x8, vi x9, vi x10, u11] [] (mk I L t) = Res d 225 251 [vr 12 i0, vi x1, vi x2, vi x3, vi x7, vi x10, vi x9, vi x7, vi x8, vi x9, vi x10, u11] [] (mk I L t) :=
  Eq.trans (e_iload D225_239 rfl rfl) <| Eq.trans (e_istore (ls1 := [vr 12 i0, vi x1, vi x2, vi x3, vi x7, vi x5, vi x6, vi x7, vi x8, vi x9, vi x10, u11]) D225_241 rfl (show 4 < 12 by decide) rfl) <| Eq.trans (e_iload D225_243 rfl rfl) <| Eq.trans (e_istore (ls1 := [vr 12 i0, vi x1, vi x2, vi x3, vi x7, vi x10, vi x6, vi x7, vi x8, vi x9, vi x10, u11]) D225_245 rfl (show 5 < 12 by decide) rfl) <| Eq.trans (e_iload D225_247 rfl rfl) <| e_istore (ls1 := [vr 12 i0, vi x1, vi x2, vi x3, vi x7, vi x10, vi x9, vi x7, vi x8, vi x9, vi x10, u11]) D225_249 rfl (show 6 < 12 by decide) rfl
theorem b225_251 {d : Nat} {i0 : Nat} {x1 x2 x3 x4 x5 x6 x7 : Int} {u8 u9 u10 u11 : MV} {I L : Nat → Nat → Nat → Int} {t : Nat → Nat} : Res d 225 251 [vr 12 i0, vi x1, vi x2, vi x3, vi x4, vi x5, vi x6, vi x7, u8, u9, u10, u11] [] (mk I L t) = Res d 225 39 [vr 12 i0, vi x1, vi x2, vi x3, vi x4, vi x5, vi x6, vi (w32 (x7 + 1)), u8, u9, u10, u11] [] (mk I L t) :=
  Eq.trans (e_iinc (ls1 := [vr 12 i0, vi x1, vi x2, vi x3, vi x4, vi x5, vi x6, vi (w32 (x7 + 1)), u8, u9, u10, u11]) D225_251 rfl rfl rfl) <| e_goto (q1 := 39) D225_254 rfl
theorem b225_257 {d : Nat} {i0 : Nat} {x1 x2 x3 x4 x5 x6 x7 : Int} {u8 u9 u10 u11 : MV} {I L : Nat → Nat → Nat → Int} {t : Nat → Nat} : Res d 225 257 [vr 12 i0, vi x1, vi x2, vi x3, vi x4, vi x5, vi x6, vi x7, u8, u9, u10, u11] [] (mk I L t) = some (vi x4, (mk I L t)) :=
  Eq.trans (e_iload D225_257 rfl rfl) <| e_iret D225_259 rfl
/-! m_world -/
theorem cc_226 : cod 226 = cX12_world := rfl
theorem D226_0 : decode (cod 226) 0 = .ok (.iload_n 1, 1) := by rw [cc_226]; decide +kernel
theorem D226_1 : decode (cod 226) 1 = .ok (.invokestatic 449, 3) := by rw [cc_226]; decide +kernel
theorem D226_4 : decode (cod 226) 4 = .ok (.ifCond .eq 80, 3) := by rw [cc_226]; decide +kernel
theorem D226_7 : decode (cod 226) 7 = .ok (.iload_n 2, 1) := by rw [cc_226]; decide +kernel
theorem D226_8 : decode (cod 226) 8 = .ok (.invokestatic 226, 3) := by rw [cc_226]; decide +kernel
theorem D226_11 : decode (cod 226) 11 = .ok (.ifCond .eq 73, 3) := by rw [cc_226]; decide +kernel
theorem D226_14 : decode (cod 226) 14 = .ok (.aload_n 0, 1) := by rw [cc_226]; decide +kernel
theorem D226_15 : decode (cod 226) 15 = .ok (.iload_n 3, 1) := by rw [cc_226]; decide +kernel
theorem D226_16 : decode (cod 226) 16 = .ok (.invokevirtual 230, 3) := by rw [cc_226]; decide +kernel
theorem D226_19 : decode (cod 226) 19 = .ok (.ifCond .eq 65, 3) := by rw [cc_226]; decide +kernel
theorem D226_22 : decode (cod 226) 22 = .ok (.iload 4, 2) := by rw [cc_226]; decide +kernel
theorem D226_24 : decode (cod 226) 24 = .ok (.iconst 0, 1) := by rw [cc_226]; decide +kernel
theorem D226_25 : decode (cod 226) 25 = .ok (.sipush 999, 3) := by rw [cc_226]; decide +kernel
theorem D226_28 : decode (cod 226) 28 = .ok (.invokestatic 219, 3) := by rw [cc_226]; decide +kernel
theorem D226_31 : decode (cod 226) 31 = .ok (.ifCond .eq 53, 3) := by rw [cc_226]; decide +kernel
theorem D226_34 : decode (cod 226) 34 = .ok (.iload 5, 2) := by rw [cc_226]; decide +kernel
theorem D226_36 : decode (cod 226) 36 = .ok (.iconst 0, 1) := by rw [cc_226]; decide +kernel
theorem D226_37 : decode (cod 226) 37 = .ok (.bipush 9, 2) := by rw [cc_226]; decide +kernel
theorem D226_39 : decode (cod 226) 39 = .ok (.invokestatic 219, 3) := by rw [cc_226]; decide +kernel
theorem D226_42 : decode (cod 226) 42 = .ok (.ifCond .eq 42, 3) := by rw [cc_226]; decide +kernel
theorem D226_45 : decode (cod 226) 45 = .ok (.iload 6, 2) := by rw [cc_226]; decide +kernel
theorem D226_47 : decode (cod 226) 47 = .ok (.iconst 0, 1) := by rw [cc_226]; decide +kernel
theorem D226_48 : decode (cod 226) 48 = .ok (.bipush 9, 2) := by rw [cc_226]; decide +kernel
theorem D226_50 : decode (cod 226) 50 = .ok (.invokestatic 219, 3) := by rw [cc_226]; decide +kernel
theorem D226_53 : decode (cod 226) 53 = .ok (.ifCond .eq 31, 3) := by rw [cc_226]; decide +kernel
theorem D226_56 : decode (cod 226) 56 = .ok (.iload 7, 2) := by rw [cc_226]; decide +kernel
theorem D226_58 : decode (cod 226) 58 = .ok (.iconst 0, 1) := by rw [cc_226]; decide +kernel
theorem D226_59 : decode (cod 226) 59 = .ok (.bipush 60, 2) := by rw [cc_226]; decide +kernel
theorem D226_61 : decode (cod 226) 61 = .ok (.invokestatic 219, 3) := by rw [cc_226]; decide +kernel
theorem D226_64 : decode (cod 226) 64 = .ok (.ifCond .eq 20, 3) := by rw [cc_226]; decide +kernel
theorem D226_67 : decode (cod 226) 67 = .ok (.iload 8, 2) := by rw [cc_226]; decide +kernel
theorem D226_69 : decode (cod 226) 69 = .ok (.invokestatic 233, 3) := by rw [cc_226]; decide +kernel
theorem D226_72 : decode (cod 226) 72 = .ok (.ifCond .eq 12, 3) := by rw [cc_226]; decide +kernel
theorem D226_75 : decode (cod 226) 75 = .ok (.aload_n 0, 1) := by rw [cc_226]; decide +kernel
theorem D226_76 : decode (cod 226) 76 = .ok (.getfield 527, 3) := by rw [cc_226]; decide +kernel
theorem D226_79 : decode (cod 226) 79 = .ok (.bipush 40, 2) := by rw [cc_226]; decide +kernel
theorem D226_81 : decode (cod 226) 81 = .ok (.if_icmp .ne 5, 3) := by rw [cc_226]; decide +kernel
theorem D226_84 : decode (cod 226) 84 = .ok (.iconst (-1), 1) := by rw [cc_226]; decide +kernel
theorem D226_85 : decode (cod 226) 85 = .ok (.ireturn, 1) := by rw [cc_226]; decide +kernel
theorem D226_86 : decode (cod 226) 86 = .ok (.aload_n 0, 1) := by rw [cc_226]; decide +kernel
theorem D226_87 : decode (cod 226) 87 = .ok (.iload 8, 2) := by rw [cc_226]; decide +kernel
theorem D226_89 : decode (cod 226) 89 = .ok (.invokevirtual 472, 3) := by rw [cc_226]; decide +kernel
theorem D226_92 : decode (cod 226) 92 = .ok (.aload_n 0, 1) := by rw [cc_226]; decide +kernel
theorem D226_93 : decode (cod 226) 93 = .ok (.iload 9, 2) := by rw [cc_226]; decide +kernel
theorem D226_95 : decode (cod 226) 95 = .ok (.invokevirtual 475, 3) := by rw [cc_226]; decide +kernel
theorem D226_98 : decode (cod 226) 98 = .ok (.ifCond .eq 14, 3) := by rw [cc_226]; decide +kernel
theorem D226_101 : decode (cod 226) 101 = .ok (.aload_n 0, 1) := by rw [cc_226]; decide +kernel
theorem D226_102 : decode (cod 226) 102 = .ok (.getfield 28, 3) := by rw [cc_226]; decide +kernel
theorem D226_105 : decode (cod 226) 105 = .ok (.iload 9, 2) := by rw [cc_226]; decide +kernel
theorem D226_107 : decode (cod 226) 107 = .ok (.iaload, 1) := by rw [cc_226]; decide +kernel
theorem D226_108 : decode (cod 226) 108 = .ok (.iconst (-1), 1) := by rw [cc_226]; decide +kernel
theorem D226_109 : decode (cod 226) 109 = .ok (.if_icmp .ne 5, 3) := by rw [cc_226]; decide +kernel
theorem D226_112 : decode (cod 226) 112 = .ok (.iconst (-1), 1) := by rw [cc_226]; decide +kernel
theorem D226_113 : decode (cod 226) 113 = .ok (.ireturn, 1) := by rw [cc_226]; decide +kernel
theorem D226_114 : decode (cod 226) 114 = .ok (.aload_n 0, 1) := by rw [cc_226]; decide +kernel
theorem D226_115 : decode (cod 226) 115 = .ok (.getfield 527, 3) := by rw [cc_226]; decide +kernel
theorem D226_118 : decode (cod 226) 118 = .ok (.istore 10, 2) := by rw [cc_226]; decide +kernel
theorem D226_120 : decode (cod 226) 120 = .ok (.aload_n 0, 1) := by rw [cc_226]; decide +kernel
theorem D226_121 : decode (cod 226) 121 = .ok (.getfield 186, 3) := by rw [cc_226]; decide +kernel
theorem D226_124 : decode (cod 226) 124 = .ok (.iload 10, 2) := by rw [cc_226]; decide +kernel
theorem D226_126 : decode (cod 226) 126 = .ok (.iload_n 1, 1) := by rw [cc_226]; decide +kernel
theorem D226_127 : decode (cod 226) 127 = .ok (.iastore, 1) := by rw [cc_226]; decide +kernel
theorem D226_128 : decode (cod 226) 128 = .ok (.aload_n 0, 1) := by rw [cc_226]; decide +kernel
theorem D226_129 : decode (cod 226) 129 = .ok (.getfield 189, 3) := by rw [cc_226]; decide +kernel
theorem D226_132 : decode (cod 226) 132 = .ok (.iload 10, 2) := by rw [cc_226]; decide +kernel
theorem D226_134 : decode (cod 226) 134 = .ok (.iload_n 2, 1) := by rw [cc_226]; decide +kernel
theorem D226_135 : decode (cod 226) 135 = .ok (.iastore, 1) := by rw [cc_226]; decide +kernel
theorem D226_136 : decode (cod 226) 136 = .ok (.aload_n 0, 1) := by rw [cc_226]; decide +kernel
theorem D226_137 : decode (cod 226) 137 = .ok (.getfield 192, 3) := by rw [cc_226]; decide +kernel
theorem D226_140 : decode (cod 226) 140 = .ok (.iload 10, 2) := by rw [cc_226]; decide +kernel
theorem D226_142 : decode (cod 226) 142 = .ok (.iload_n 3, 1) := by rw [cc_226]; decide +kernel
theorem D226_143 : decode (cod 226) 143 = .ok (.iastore, 1) := by rw [cc_226]; decide +kernel
theorem D226_144 : decode (cod 226) 144 = .ok (.aload_n 0, 1) := by rw [cc_226]; decide +kernel
theorem D226_145 : decode (cod 226) 145 = .ok (.getfield 195, 3) := by rw [cc_226]; decide +kernel
theorem D226_148 : decode (cod 226) 148 = .ok (.iload 10, 2) := by rw [cc_226]; decide +kernel
theorem D226_150 : decode (cod 226) 150 = .ok (.iload 4, 2) := by rw [cc_226]; decide +kernel
theorem D226_152 : decode (cod 226) 152 = .ok (.iastore, 1) := by rw [cc_226]; decide +kernel
theorem D226_153 : decode (cod 226) 153 = .ok (.aload_n 0, 1) := by rw [cc_226]; decide +kernel
theorem D226_154 : decode (cod 226) 154 = .ok (.getfield 198, 3) := by rw [cc_226]; decide +kernel
theorem D226_157 : decode (cod 226) 157 = .ok (.iload 10, 2) := by rw [cc_226]; decide +kernel
theorem D226_159 : decode (cod 226) 159 = .ok (.iload 5, 2) := by rw [cc_226]; decide +kernel
theorem D226_161 : decode (cod 226) 161 = .ok (.iastore, 1) := by rw [cc_226]; decide +kernel
theorem D226_162 : decode (cod 226) 162 = .ok (.aload_n 0, 1) := by rw [cc_226]; decide +kernel
theorem D226_163 : decode (cod 226) 163 = .ok (.getfield 201, 3) := by rw [cc_226]; decide +kernel
theorem D226_166 : decode (cod 226) 166 = .ok (.iload 10, 2) := by rw [cc_226]; decide +kernel
theorem D226_168 : decode (cod 226) 168 = .ok (.iload 6, 2) := by rw [cc_226]; decide +kernel
theorem D226_170 : decode (cod 226) 170 = .ok (.iastore, 1) := by rw [cc_226]; decide +kernel
theorem D226_171 : decode (cod 226) 171 = .ok (.aload_n 0, 1) := by rw [cc_226]; decide +kernel
theorem D226_172 : decode (cod 226) 172 = .ok (.getfield 204, 3) := by rw [cc_226]; decide +kernel
theorem D226_175 : decode (cod 226) 175 = .ok (.iload 10, 2) := by rw [cc_226]; decide +kernel
theorem D226_177 : decode (cod 226) 177 = .ok (.iload 7, 2) := by rw [cc_226]; decide +kernel
theorem D226_179 : decode (cod 226) 179 = .ok (.iastore, 1) := by rw [cc_226]; decide +kernel
theorem D226_180 : decode (cod 226) 180 = .ok (.aload_n 0, 1) := by rw [cc_226]; decide +kernel
theorem D226_181 : decode (cod 226) 181 = .ok (.getfield 210, 3) := by rw [cc_226]; decide +kernel
theorem D226_184 : decode (cod 226) 184 = .ok (.iload 10, 2) := by rw [cc_226]; decide +kernel
theorem D226_186 : decode (cod 226) 186 = .ok (.aload_n 0, 1) := by rw [cc_226]; decide +kernel
theorem D226_187 : decode (cod 226) 187 = .ok (.getfield 236, 3) := by rw [cc_226]; decide +kernel
theorem D226_190 : decode (cod 226) 190 = .ok (.iastore, 1) := by rw [cc_226]; decide +kernel
theorem D226_191 : decode (cod 226) 191 = .ok (.iconst 0, 1) := by rw [cc_226]; decide +kernel
theorem D226_192 : decode (cod 226) 192 = .ok (.istore 11, 2) := by rw [cc_226]; decide +kernel
theorem D226_194 : decode (cod 226) 194 = .ok (.iload 11, 2) := by rw [cc_226]; decide +kernel
theorem D226_196 : decode (cod 226) 196 = .ok (.aload_n 0, 1) := by rw [cc_226]; decide +kernel
theorem D226_197 : decode (cod 226) 197 = .ok (.getfield 236, 3) := by rw [cc_226]; decide +kernel
theorem D226_200 : decode (cod 226) 200 = .ok (.if_icmp .ge 29, 3) := by rw [cc_226]; decide +kernel
theorem D226_203 : decode (cod 226) 203 = .ok (.aload_n 0, 1) := by rw [cc_226]; decide +kernel
theorem D226_204 : decode (cod 226) 204 = .ok (.getfield 207, 3) := by rw [cc_226]; decide +kernel
theorem D226_207 : decode (cod 226) 207 = .ok (.bipush 9, 2) := by rw [cc_226]; decide +kernel
theorem D226_209 : decode (cod 226) 209 = .ok (.iload 10, 2) := by rw [cc_226]; decide +kernel
theorem D226_211 : decode (cod 226) 211 = .ok (.imul, 1) := by rw [cc_226]; decide +kernel
theorem D226_212 : decode (cod 226) 212 = .ok (.iload 11, 2) := by rw [cc_226]; decide +kernel
theorem D226_214 : decode (cod 226) 214 = .ok (.iadd, 1) := by rw [cc_226]; decide +kernel
theorem D226_215 : decode (cod 226) 215 = .ok (.aload_n 0, 1) := by rw [cc_226]; decide +kernel
theorem D226_216 : decode (cod 226) 216 = .ok (.getfield 28, 3) := by rw [cc_226]; decide +kernel
theorem D226_219 : decode (cod 226) 219 = .ok (.iload 11, 2) := by rw [cc_226]; decide +kernel
theorem D226_221 : decode (cod 226) 221 = .ok (.iaload, 1) := by rw [cc_226]; decide +kernel
theorem D226_222 : decode (cod 226) 222 = .ok (.iastore, 1) := by rw [cc_226]; decide +kernel
theorem D226_223 : decode (cod 226) 223 = .ok (.iinc 11 1, 3) := by rw [cc_226]; decide +kernel
theorem D226_226 : decode (cod 226) 226 = .ok (.goto (-32), 3) := by rw [cc_226]; decide +kernel
theorem D226_229 : decode (cod 226) 229 = .ok (.aload_n 0, 1) := by rw [cc_226]; decide +kernel
theorem D226_230 : decode (cod 226) 230 = .ok (.getfield 213, 3) := by rw [cc_226]; decide +kernel
theorem D226_233 : decode (cod 226) 233 = .ok (.iload 10, 2) := by rw [cc_226]; decide +kernel
theorem D226_235 : decode (cod 226) 235 = .ok (.iload 9, 2) := by rw [cc_226]; decide +kernel
theorem D226_237 : decode (cod 226) 237 = .ok (.iastore, 1) := by rw [cc_226]; decide +kernel
theorem D226_238 : decode (cod 226) 238 = .ok (.aload_n 0, 1) := by rw [cc_226]; decide +kernel
theorem D226_239 : decode (cod 226) 239 = .ok (.dup, 1) := by rw [cc_226]; decide +kernel
theorem D226_240 : decode (cod 226) 240 = .ok (.getfield 527, 3) := by rw [cc_226]; decide +kernel
theorem D226_243 : decode (cod 226) 243 = .ok (.iconst 1, 1) := by rw [cc_226]; decide +kernel
theorem D226_244 : decode (cod 226) 244 = .ok (.iadd, 1) := by rw [cc_226]; decide +kernel
theorem D226_245 : decode (cod 226) 245 = .ok (.putfield 527, 3) := by rw [cc_226]; decide +kernel
theorem D226_248 : decode (cod 226) 248 = .ok (.iload 10, 2) := by rw [cc_226]; decide +kernel
theorem D226_250 : decode (cod 226) 250 = .ok (.ireturn, 1) := by rw [cc_226]; decide +kernel
theorem b226_0 {d : Nat} {i0 : Nat} {x1 x2 x3 x4 x5 x6 x7 x8 x9 : Int} {I L : Nat → Nat → Nat → Int} {t : Nat → Nat} : Res (d + 1) 226 0 [vr 12 i0, vi x1, vi x2, vi x3, vi x4, vi x5, vi x6, vi x7, vi x8, vi x9, vx, vx] [] (mk I L t) = (Cal d 198 [vi x1] (mk I L t)).bind fun v => Res (d + 1) 226 4 [vr 12 i0, vi x1, vi x2, vi x3, vi x4, vi x5, vi x6, vi x7, vi x8, vi x9, vx, vx] (psh 198 v.1 []) v.2 :=
  Eq.trans (e_iload_n D226_0 rfl rfl) <| e_callS D226_1 rfl o_226 m_12_449 (by decide) rfl rfl
theorem b226_4 {d : Nat} {i0 : Nat} {x1 x2 x3 x4 x5 x6 x7 x8 x9 xs0 : Int} {I L : Nat → Nat → Nat → Int} {t : Nat → Nat} : Res d 226 4 [vr 12 i0, vi x1, vi x2, vi x3, vi x4, vi x5, vi x6, vi x7, vi x8, vi x9, vx, vx] [vi xs0] (mk I L t) = if xs0 = 0 then Res d 226 84 [vr 12 i0, vi x1, vi x2, vi x3, vi x4, vi x5, vi x6, vi x7, vi x8, vi x9, vx, vx] [] (mk I L t) else Res d 226 7 [vr 12 i0, vi x1, vi x2, vi x3, vi x4, vi x5, vi x6, vi x7, vi x8, vi x9, vx, vx] [] (mk I L t) :=
  e_ifeq D226_4 rfl rfl
theorem b226_7 {d : Nat} {i0 : Nat} {x1 x2 x3 x4 x5 x6 x7 x8 x9 : Int} {I L : Nat → Nat → Nat → Int} {t : Nat → Nat} : Res (d + 1) 226 7 [vr 12 i0, vi x1, vi x2, vi x3, vi x4, vi x5, vi x6, vi x7, vi x8, vi x9, vx, vx] [] (mk I L t) = (Cal d 149 [vi x2] (mk I L t)).bind fun v => Res (d + 1) 226 11 [vr 12 i0, vi x1, vi x2, vi x3, vi x4, vi x5, vi x6, vi x7, vi x8, vi x9, vx, vx] (psh 149 v.1 []) v.2 :=
  Eq.trans (e_iload_n D226_7 rfl rfl) <| e_callS D226_8 rfl o_226 m_12_226 (by decide) rfl rfl
theorem b226_11 {d : Nat} {i0 : Nat} {x1 x2 x3 x4 x5 x6 x7 x8 x9 xs0 : Int} {I L : Nat → Nat → Nat → Int} {t : Nat → Nat} : Res d 226 11 [vr 12 i0, vi x1, vi x2, vi x3, vi x4, vi x5, vi x6, vi x7, vi x8, vi x9, vx, vx] [vi xs0] (mk I L t) = if xs0 = 0 then Res d 226 84 [vr 12 i0, vi x1, vi x2, vi x3, vi x4, vi x5, vi x6, vi x7, vi x8, vi x9, vx, vx] [] (mk I L t) else Res d 226 14 [vr 12 i0, vi x1, vi x2, vi x3, vi x4, vi x5, vi x6, vi x7, vi x8, vi x9, vx, vx] [] (mk I L t) :=
  e_ifeq D226_11 rfl rfl
theorem b226_14 {d : Nat} {i0 : Nat} {x1 x2 x3 x4 x5 x6 x7 x8 x9 : Int} {I L : Nat → Nat → Nat → Int} {t : Nat → Nat} : Res (d + 1) 226 14 [vr 12 i0, vi x1, vi x2, vi x3, vi x4, vi x5, vi x6, vi x7, vi x8, vi x9, vx, vx] [] (mk I L t) = (Cal d 147 [vr 12 i0, vi x3] (mk I L t)).bind fun v => Res (d + 1) 226 19 [vr 12 i0, vi x1, vi x2, vi x3, vi x4, vi x5, vi x6, vi x7, vi x8, vi x9, vx, vx] (psh 147 v.1 []) v.2 :=
  Eq.trans (e_aload_n D226_14 rfl rfl) <| Eq.trans (e_iload_n D226_15 rfl rfl) <| e_callV D226_16 rfl o_226 m_12_230 (by decide) rfl rfl
theorem b226_19 {d : Nat} {i0 : Nat} {x1 x2 x3 x4 x5 x6 x7 x8 x9 xs0 : Int} {I L : Nat → Nat → Nat → Int} {t : Nat → Nat} : Res d 226 19 [vr 12 i0, vi x1, vi x2, vi x3, vi x4, vi x5, vi x6, vi x7, vi x8, vi x9, vx, vx] [vi xs0] (mk I L t) = if xs0 = 0 then Res d 226 84 [vr 12 i0, vi x1, vi x2, vi x3, vi x4, vi x5, vi x6, vi x7, vi x8, vi x9, vx, vx] [] (mk I L t) else Res d 226 22 [vr 12 i0, vi x1, vi x2, vi x3, vi x4, vi x5, vi x6, vi x7, vi x8, vi x9, vx, vx] [] (mk I L t) :=
  e_ifeq D226_19 rfl rfl
theorem b226_22 {d : Nat} {i0 : Nat} {x1 x2 x3 x4 x5 x6 x7 x8 x9 : Int} {I L : Nat → Nat → Nat → Int} {t : Nat → Nat} : Res (d + 1) 226 22 [vr 12 i0, vi x1, vi x2, vi x3, vi x4, vi x5, vi x6, vi x7, vi x8, vi x9, vx, vx] [] (mk I L t) = (Cal d 146 [vi x4, vi 0, vi 999] (mk I L t)).bind fun v => Res (d + 1) 226 31 [vr 12 i0, vi x1, vi x2, vi x3, vi x4, vi x5, vi x6, vi x7, vi x8, vi x9, vx, vx] (psh 146 v.1 []) v.2 :=
  Eq.trans (e_iload D226_22 rfl rfl) <| Eq.trans (e_iconst (x := 0) D226_24 rfl rfl) <| Eq.trans (e_sipush (x := 999) D226_25 rfl rfl) <| e_callS D226_28 rfl o_226 m_12_219 (by decide) rfl rfl
theorem b226_31 {d : Nat} {i0 : Nat} {x1 x2 x3 x4 x5 x6 x7 x8 x9 xs0 : Int} {I L : Nat → Nat → Nat → Int} {t : Nat → Nat} : Res d 226 31 [vr 12 i0, vi x1, vi x2, vi x3, vi x4, vi x5, vi x6, vi x7, vi x8, vi x9, vx, vx] [vi xs0] (mk I L t) = if xs0 = 0 then Res d 226 84 [vr 12 i0, vi x1, vi x2, vi x3, vi x4, vi x5, vi x6, vi x7, vi x8, vi x9, vx, vx] [] (mk I L t) else Res d 226 34 [vr 12 i0, vi x1, vi x2, vi x3, vi x4, vi x5, vi x6, vi x7, vi x8, vi x9, vx, vx] [] (mk I L t) :=
  e_ifeq D226_31 rfl rfl
theorem b226_34 {d : Nat} {i0 : Nat} {x1 x2 x3 x4 x5 x6 x7 x8 x9 : Int} {I L : Nat → Nat → Nat → Int} {t : Nat → Nat} : Res (d + 1) 226 34 [vr 12 i0, vi x1, vi x2, vi x3, vi x4, vi x5, vi x6, vi x7, vi x8, vi x9, vx, vx] [] (mk I L t) = (Cal d 146 [vi x5, vi 0, vi 9] (mk I L t)).bind fun v => Res (d + 1) 226 42 [vr 12 i0, vi x1, vi x2, vi x3, vi x4, vi x5, vi x6, vi x7, vi x8, vi x9, vx, vx] (psh 146 v.1 []) v.2 :=
  Eq.trans (e_iload D226_34 rfl rfl) <| Eq.trans (e_iconst (x := 0) D226_36 rfl rfl) <| Eq.trans (e_bipush (x := 9) D226_37 rfl rfl) <| e_callS D226_39 rfl o_226 m_12_219 (by decide) rfl rfl
theorem b226_42 {d : Nat} {i0 : Nat} {x1 x2 x3 x4 x5 x6 x7 x8 x9 xs0 : Int} {I L : Nat → Nat → Nat → Int} {t : Nat → Nat} : Res d 226 42 [vr 12 i0, vi x1, vi x2, vi x3, vi x4, vi x5, vi x6, vi x7, vi x8, vi x9, vx, vx] [vi xs0] (mk I L t) = if xs0 = 0 then Res d 226 84 [vr 12 i0, vi x1, vi x2, vi x3, vi x4, vi x5, vi x6, vi x7, vi x8, vi x9, vx, vx] [] (mk I L t) else Res d 226 45 [vr 12 i0, vi x1, vi x2, vi x3, vi x4, vi x5, vi x6, vi x7, vi x8, vi x9, vx, vx] [] (mk I L t) :=
  e_ifeq D226_42 rfl rfl
theorem b226_45 {d : Nat} {i0 : Nat} {x1 x2 x3 x4 x5 x6 x7 x8 x9 : Int} {I L : Nat → Nat → Nat → Int} {t : Nat → Nat} : Res (d + 1) 226 45 [vr 12 i0, vi x1, vi x2, vi x3, vi x4, vi x5, vi x6, vi x7, vi x8, vi x9, vx, vx] [] (mk I L t) = (Cal d 146 [vi x6, vi 0, vi 9] (mk I L t)).bind fun v => Res (d + 1) 226 53 [vr 12 i0, vi x1, vi x2, vi x3, vi x4, vi x5, vi x6, vi x7, vi x8, vi x9, vx, vx] (psh 146 v.1 []) v.2 :=
  Eq.trans (e_iload D226_45 rfl rfl) <| Eq.trans (e_iconst (x := 0) D226_47 rfl rfl) <| Eq.trans (e_bipush (x := 9) D226_48 rfl rfl) <| e_callS D226_50 rfl o_226 m_12_219 (by decide) rfl rfl
theorem b226_53 {d : Nat} {i0 : Nat} {x1 x2 x3 x4 x5 x6 x7 x8 x9 xs0 : Int} {I L : Nat → Nat → Nat → Int} {t : Nat → Nat} : Res d 226 53 [vr 12 i0, vi x1, vi x2, vi x3, vi x4, vi x5, vi x6, vi x7, vi x8, vi x9, vx, vx] [vi xs0] (mk I L t) = if xs0 = 0 then Res d 226 84 [vr 12 i0, vi x1, vi x2, vi x3, vi x4, vi x5, vi x6, vi x7, vi x8, vi x9, vx, vx] [] (mk I L t) else Res d 226 56 [vr 12 i0, vi x1, vi x2, vi x3, vi x4, vi x5, vi x6, vi x7, vi x8, vi x9, vx, vx] [] (mk I L t) :=
  e_ifeq D226_53 rfl rfl
theorem b226_56 {d : Nat} {i0 : Nat} {x1 x2 x3 x4 x5 x6 x7 x8 x9 : Int} {I L : Nat → Nat → Nat → Int} {t : Nat → Nat} : Res (d + 1) 226 56 [vr 12 i0, vi x1, vi x2, vi x3, vi x4, vi x5, vi x6, vi x7, vi x8, vi x9, vx, vx] [] (mk I L t) = (Cal d 146 [vi x7, vi 0, vi 60] (mk I L t)).bind fun v => Res (d + 1) 226 64 [vr 12 i0, vi x1, vi x2, vi x3, vi x4, vi x5, vi x6, vi x7, vi x8, vi x9, vx, vx] (psh 146 v.1 []) v.2 :=
  Eq.trans (e_iload D226_56 rfl rfl) <| Eq.trans (e_iconst (x := 0) D226_58 rfl rfl) <| Eq.trans (e_bipush (x := 60) D226_59 rfl rfl) <| e_callS D226_61 rfl o_226 m_12_219 (by decide) rfl rfl
theorem b226_64 {d : Nat} {i0 : Nat} {x1 x2 x3 x4 x5 x6 x7 x8 x9 xs0 : Int} {I L : Nat → Nat → Nat → Int} {t : Nat → Nat} : Res d 226 64 [vr 12 i0, vi x1, vi x2, vi x3, vi x4, vi x5, vi x6, vi x7, vi x8, vi x9, vx, vx] [vi xs0] (mk I L t) = if xs0 = 0 then Res d 226 84 [vr 12 i0, vi x1, vi x2, vi x3, vi x4, vi x5, vi x6, vi x7, vi x8, vi x9, vx, vx] [] (mk I L t) else Res d 226 67 [vr 12 i0, vi x1, vi x2, vi x3, vi x4, vi x5, vi x6, vi x7, vi x8, vi x9, vx, vx] [] (mk I L t) :=
  e_ifeq D226_64 rfl rfl
theorem b226_67 {d : Nat} {i0 : Nat} {x1 x2 x3 x4 x5 x6 x7 x8 x9 : Int} {I L : Nat → Nat → Nat → Int} {t : Nat → Nat} : Res (d + 1) 226 67 [vr 12 i0, vi x1, vi x2, vi x3, vi x4, vi x5, vi x6, vi x7, vi x8, vi x9, vx, vx] [] (mk I L t) = (Cal d 148 [vi x8] (mk I L t)).bind fun v => Res (d + 1) 226 72 [vr 12 i0, vi x1, vi x2, vi x3, vi x4, vi x5, vi x6, vi x7, vi x8, vi x9, vx, vx] (psh 148 v.1 []) v.2 :=
  Eq.trans (e_iload D226_67 rfl rfl) <| e_callS D226_69 rfl o_226 m_12_233 (by decide) rfl rfl
theorem b226_72 {d : Nat} {i0 : Nat} {x1 x2 x3 x4 x5 x6 x7 x8 x9 xs0 : Int} {I L : Nat → Nat → Nat → Int} {t : Nat → Nat} : Res d 226 72 [vr 12 i0, vi x1, vi x2, vi x3, vi x4, vi x5, vi x6, vi x7, vi x8, vi x9, vx, vx] [vi xs0] (mk I L t) = if xs0 = 0 then Res d 226 84 [vr 12 i0, vi x1, vi x2, vi x3, vi x4, vi x5, vi x6, vi x7, vi x8, vi x9, vx, vx] [] (mk I L t) else Res d 226 75 [vr 12 i0, vi x1, vi x2, vi x3, vi x4, vi x5, vi x6, vi x7, vi x8, vi x9, vx, vx] [] (mk I L t) :=
  e_ifeq D226_72 rfl rfl
theorem b226_75 {d : Nat} {i0 : Nat} {x1 x2 x3 x4 x5 x6 x7 x8 x9 : Int} {I L : Nat → Nat → Nat → Int} {t : Nat → Nat} : Res d 226 75 [vr 12 i0, vi x1, vi x2, vi x3, vi x4, vi x5, vi x6, vi x7, vi x8, vi x9, vx, vx] [] (mk I L t) = if ¬ I 12 i0 4 = 40 then Res d 226 86 [vr 12 i0, vi x1, vi x2, vi x3, vi x4, vi x5, vi x6, vi x7, vi x8, vi x9, vx, vx] [] (mk I L t) else Res d 226 84 [vr 12 i0, vi x1, vi x2, vi x3, vi x4, vi x5, vi x6, vi x7, vi x8, vi x9, vx, vx] [] (mk I L t) :=
  Eq.trans (e_aload_n D226_75 rfl rfl) <| Eq.trans (e_getI D226_76 rfl o_226 f_12_527 (sh_12 _) (by decide)) <| Eq.trans (e_bipush (x := 40) D226_79 rfl rfl) <| e_icne D226_81 rfl rfl
theorem b226_84 {d : Nat} {i0 : Nat} {x1 x2 x3 x4 x5 x6 x7 x8 x9 : Int} {I L : Nat → Nat → Nat → Int} {t : Nat → Nat} : Res d 226 84 [vr 12 i0, vi x1, vi x2, vi x3, vi x4, vi x5, vi x6, vi x7, vi x8, vi x9, vx, vx] [] (mk I L t) = some (vi (-1), (mk I L t)) :=
  Eq.trans (e_iconst (x := -1) D226_84 rfl rfl) <| e_iret D226_85 rfl
theorem b226_86 {d : Nat} {i0 : Nat} {x1 x2 x3 x4 x5 x6 x7 x8 x9 : Int} {I L : Nat → Nat → Nat → Int} {t : Nat → Nat} : Res (d + 1) 226 86 [vr 12 i0, vi x1, vi x2, vi x3, vi x4, vi x5, vi x6, vi x7, vi x8, vi x9, vx, vx] [] (mk I L t) = (Cal d 156 [vr 12 i0, vi x8] (mk I L t)).bind fun v => Res (d + 1) 226 92 [vr 12 i0, vi x1, vi x2, vi x3, vi x4, vi x5, vi x6, vi x7, vi x8, vi x9, vx, vx] (psh 156 v.1 []) v.2 :=
  Eq.trans (e_aload_n D226_86 rfl rfl) <| Eq.trans (e_iload D226_87 rfl rfl) <| e_callV D226_89 rfl o_226 m_12_472 (by decide) rfl rfl
theorem b226_92 {d : Nat} {i0 : Nat} {x1 x2 x3 x4 x5 x6 x7 x8 x9 : Int} {I L : Nat → Nat → Nat → Int} {t : Nat → Nat} : Res (d + 1) 226 92 [vr 12 i0, vi x1, vi x2, vi x3, vi x4, vi x5, vi x6, vi x7, vi x8, vi x9, vx, vx] [] (mk I L t) = (Cal d 157 [vr 12 i0, vi x9] (mk I L t)).bind fun v => Res (d + 1) 226 98 [vr 12 i0, vi x1, vi x2, vi x3, vi x4, vi x5, vi x6, vi x7, vi x8, vi x9, vx, vx] (psh 157 v.1 []) v.2 :=
  Eq.trans (e_aload_n D226_92 rfl rfl) <| Eq.trans (e_iload D226_93 rfl rfl) <| e_callV D226_95 rfl o_226 m_12_475 (by decide) rfl rfl
theorem b226_98 {d : Nat} {i0 : Nat} {x1 x2 x3 x4 x5 x6 x7 x8 x9 xs0 : Int} {I L : Nat → Nat → Nat → Int} {t : Nat → Nat} : Res d 226 98 [vr 12 i0, vi x1, vi x2, vi x3, vi x4, vi x5, vi x6, vi x7, vi x8, vi x9, vx, vx] [vi xs0] (mk I L t) = if xs0 = 0 then Res d 226 112 [vr 12 i0, vi x1, vi x2, vi x3, vi x4, vi x5, vi x6, vi x7, vi x8, vi x9, vx, vx] [] (mk I L t) else Res d 226 101 [vr 12 i0, vi x1, vi x2, vi x3, vi x4, vi x5, vi x6, vi x7, vi x8, vi x9, vx, vx] [] (mk I L t) :=
  e_ifeq D226_98 rfl rfl
theorem b226_101 {d : Nat} {i0 : Nat} {x1 x2 x3 x4 x5 x6 x7 x8 x9 : Int} {I L : Nat → Nat → Nat → Int} {t : Nat → Nat} (g1 : 0 ≤ x9 ∧ x9 < 9) : Res d 226 101 [vr 12 i0, vi x1, vi x2, vi x3, vi x4, vi x5, vi x6, vi x7, vi x8, vi x9, vx, vx] [] (mk I L t) = if ¬ I 54 i0 x9.toNat = -1 then Res d 226 114 [vr 12 i0, vi x1, vi x2, vi x3, vi x4, vi x5, vi x6, vi x7, vi x8, vi x9, vx, vx] [] (mk I L t) else Res d 226 112 [vr 12 i0, vi x1, vi x2, vi x3, vi x4, vi x5, vi x6, vi x7, vi x8, vi x9, vx, vx] [] (mk I L t) :=
  Eq.trans (e_aload_n D226_101 rfl rfl) <| Eq.trans (e_getP (p := (54, i0)) D226_102 rfl o_226 f_12_28 (sh_12 _) (by decide) (pp_12_11 _ _)) <| Eq.trans (e_iload D226_105 rfl rfl) <| Eq.trans (e_iald D226_107 rfl (al_54 _) g1) <| Eq.trans (e_iconst (x := -1) D226_108 rfl rfl) <| e_icne D226_109 rfl rfl
theorem b226_112 {d : Nat} {i0 : Nat} {x1 x2 x3 x4 x5 x6 x7 x8 x9 : Int} {I L : Nat → Nat → Nat → Int} {t : Nat → Nat} : Res d 226 112 [vr 12 i0, vi x1, vi x2, vi x3, vi x4, vi x5, vi x6, vi x7, vi x8, vi x9, vx, vx] [] (mk I L t) = some (vi (-1), (mk I L t)) :=
  Eq.trans (e_iconst (x := -1) D226_112 rfl rfl) <| e_iret D226_113 rfl
theorem b226_114 {d : Nat} {i0 : Nat} {x1 x2 x3 x4 x5 x6 x7 x8 x9 : Int} {I L : Nat → Nat → Nat → Int} {t : Nat → Nat} (g1 : 0 ≤ I 12 i0 4 ∧ I 12 i0 4 < 40) : Res d 226 114 [vr 12 i0, vi x1, vi x2, vi x3, vi x4, vi x5, vi x6, vi x7, vi x8, vi x9, vx, vx] [] (mk I L t) = Res d 226 194 [vr 12 i0, vi x1, vi x2, vi x3, vi x4, vi x5, vi x6, vi x7, vi x8, vi x9, vi (I 12 i0 4), vi 0] [] (mk (up3 (up3 (up3 (up3 (up3 (up3 (up3 (up3 I 105 i0 (I 12 i0 4).toNat x1) 106 i0 (I 12 i0 4).toNat x2) 107 i0 (I 12 i0 4).toNat x3) 108 i0 (I 12 i0 4).toNat x4) 109 i0 (I 12 i0 4).toNat x5) 110 i0 (I 12 i0 4).toNat x6) 111 i0 (I 12 i0 4).toNat x7) 113 i0 (I 12 i0 4).toNat ((up3 (up3 (up3 (up3 (up3 (up3 (up3 I 105 i0 (I 12 i0 4).toNat x1) 106 i0 (I 12 i0 4).toNat x2) 107 i0 (I 12 i0 4).toNat x3) 108 i0 (I 12 i0 4).toNat x4) 109 i0 (I 12 i0 4).toNat x5) 110 i0 (I 12 i0 4).toNat x6) 111 i0 (I 12 i0 4).toNat x7) 12 i0 12)) L t) :=
  Eq.trans (e_aload_n D226_114 rfl rfl) <| Eq.trans (e_getI D226_115 rfl o_226 f_12_527 (sh_12 _) (by decide)) <| Eq.trans (e_istore (ls1 := [vr 12 i0, vi x1, vi x2, vi x3, vi x4, vi x5, vi x6, vi x7, vi x8, vi x9, vi (I 12 i0 4), vx]) D226_118 rfl (show 10 < 12 by decide) rfl) <| Eq.trans (e_aload_n D226_120 rfl rfl) <| Eq.trans (e_getP (p := (105, i0)) D226_121 rfl o_226 f_12_186 (sh_12 _) (by decide) (pp_12_84 _ _)) <| Eq.trans (e_iload D226_124 rfl rfl) <| Eq.trans (e_iload_n D226_126 rfl rfl) <| Eq.trans (e_iast D226_127 rfl (al_105 _) rfl g1) <| Eq.trans (e_aload_n D226_128 rfl rfl) <| Eq.trans (e_getP (p := (106, i0)) D226_129 rfl o_226 f_12_189 (sh_12 _) (by decide) (pp_12_85 _ _)) <| Eq.trans (e_iload D226_132 rfl rfl) <| Eq.trans (e_iload_n D226_134 rfl rfl) <| Eq.trans (e_iast D226_135 rfl (al_106 _) rfl g1) <| Eq.trans (e_aload_n D226_136 rfl rfl) <| Eq.trans (e_getP (p := (107, i0)) D226_137 rfl o_226 f_12_192 (sh_12 _) (by decide) (pp_12_86 _ _)) <| Eq.trans (e_iload D226_140 rfl rfl) <| Eq.trans (e_iload_n D226_142 rfl rfl) <| Eq.trans (e_iast D226_143 rfl (al_107 _) rfl g1) <| Eq.trans (e_aload_n D226_144 rfl rfl) <| Eq.trans (e_getP (p := (108, i0)) D226_145 rfl o_226 f_12_195 (sh_12 _) (by decide) (pp_12_87 _ _)) <| Eq.trans (e_iload D226_148 rfl rfl) <| Eq.trans (e_iload D226_150 rfl rfl) <| Eq.trans (e_iast D226_152 rfl (al_108 _) rfl g1) <| Eq.trans (e_aload_n D226_153 rfl rfl) <| Eq.trans (e_getP (p := (109, i0)) D226_154 rfl o_226 f_12_198 (sh_12 _) (by decide) (pp_12_88 _ _)) <| Eq.trans (e_iload D226_157 rfl rfl) <| Eq.trans (e_iload D226_159 rfl rfl) <| Eq.trans (e_iast D226_161 rfl (al_109 _) rfl g1) <| Eq.trans (e_aload_n D226_162 rfl rfl) <| Eq.trans (e_getP (p := (110, i0)) D226_163 rfl o_226 f_12_201 (sh_12 _) (by decide) (pp_12_89 _ _)) <| Eq.trans (e_iload D226_166 rfl rfl) <| Eq.trans (e_iload D226_168 rfl rfl) <| Eq.trans (e_iast D226_170 rfl (al_110 _) rfl g1) <| Eq.trans (e_aload_n D226_171 rfl rfl) <| Eq.trans (e_getP (p := (111, i0)) D226_172 rfl o_226 f_12_204 (sh_12 _) (by decide) (pp_12_90 _ _)) <| Eq.trans (e_iload D226_175 rfl rfl) <| Eq.trans (e_iload D226_177 rfl rfl) <| Eq.trans (e_iast D226_179 rfl (al_111 _) rfl g1) <| Eq.trans (e_aload_n D226_180 rfl rfl) <| Eq.trans (e_getP (p := (113, i0)) D226_181 rfl o_226 f_12_210 (sh_12 _) (by decide) (pp_12_92 _ _)) <| Eq.trans (e_iload D226_184 rfl rfl) <| Eq.trans (e_aload_n D226_186 rfl rfl) <| Eq.trans (e_getI D226_187 rfl o_226 f_12_236 (sh_12 _) (by decide)) <| Eq.trans (e_iast D226_190 rfl (al_113 _) rfl g1) <| Eq.trans (e_iconst (x := 0) D226_191 rfl rfl) <| e_istore (ls1 := [vr 12 i0, vi x1, vi x2, vi x3, vi x4, vi x5, vi x6, vi x7, vi x8, vi x9, vi (I 12 i0 4), vi 0]) D226_192 rfl (show 11 < 12 by decide) rfl
theorem b226_194 {d : Nat} {i0 : Nat} {x1 x2 x3 x4 x5 x6 x7 x8 x9 x10 x11 : Int} {I L : Nat → Nat → Nat → Int} {t : Nat → Nat} : Res d 226 194 [vr 12 i0, vi x1, vi x2, vi x3, vi x4, vi x5, vi x6, vi x7, vi x8, vi x9, vi x10, vi x11] [] (mk I L t) = if I 12 i0 12 ≤ x11 then Res d 226 229 [vr 12 i0, vi x1, vi x2, vi x3, vi x4, vi x5, vi x6, vi x7, vi x8, vi x9, vi x10, vi x11] [] (mk I L t) else Res d 226 203 [vr 12 i0, vi x1, vi x2, vi x3, vi x4, vi x5, vi x6, vi x7, vi x8, vi x9, vi x10, vi x11] [] (mk I L t) :=
  Eq.trans (e_iload D226_194 rfl rfl) <| Eq.trans (e_aload_n D226_196 rfl rfl) <| Eq.trans (e_getI D226_197 rfl o_226 f_12_236 (sh_12 _) (by decide)) <| e_icge D226_200 rfl rfl
theorem b226_203 {d : Nat} {i0 : Nat} {x1 x2 x3 x4 x5 x6 x7 x8 x9 x10 x11 : Int} {I L : Nat → Nat → Nat → Int} {t : Nat → Nat} (g1 : 0 ≤ x11 ∧ x11 < 9) (g2 : 0 ≤ w32 ((w32 (9 * x10)) + x11) ∧ w32 ((w32 (9 * x10)) + x11) < 360) : Res d 226 203 [vr 12 i0, vi x1, vi x2, vi x3, vi x4, vi x5, vi x6, vi x7, vi x8, vi x9, vi x10, vi x11] [] (mk I L t) = Res d 226 194 [vr 12 i0, vi x1, vi x2, vi x3, vi x4, vi x5, vi x6, vi x7, vi x8, vi x9, vi x10, vi (w32 (x11 + 1))] [] (mk (up3 I 112 i0 (w32 ((w32 (9 * x10)) + x11)).toNat (I 54 i0 x11.toNat)) L t) :=
  Eq.trans (e_aload_n D226_203 rfl rfl) <| Eq.trans (e_getP (p := (112, i0)) D226_204 rfl o_226 f_12_207 (sh_12 _) (by decide) (pp_12_91 _ _)) <| Eq.trans (e_bipush (x := 9) D226_207 rfl rfl) <| Eq.trans (e_iload D226_209 rfl rfl) <| Eq.trans (e_imul D226_211 rfl) <| Eq.trans (e_iload D226_212 rfl rfl) <| Eq.trans (e_iadd D226_214 rfl) <| Eq.trans (e_aload_n D226_215 rfl rfl) <| Eq.trans (e_getP (p := (54, i0)) D226_216 rfl o_226 f_12_28 (sh_12 _) (by decide) (pp_12_11 _ _)) <| Eq.trans (e_iload D226_219 rfl rfl) <| Eq.trans (e_iald D226_221 rfl (al_54 _) g1) <| Eq.trans (e_iast D226_222 rfl (al_112 _) rfl g2) <| Eq.trans (e_iinc (ls1 := [vr 12 i0, vi x1, vi x2, vi x3, vi x4, vi x5, vi x6, vi x7, vi x8, vi x9, vi x10, vi (w32 (x11 + 1))]) D226_223 rfl rfl rfl) <| e_goto (q1 := 194) D226_226 rfl
theorem b226_229 {d : Nat} {i0 : Nat} {x1 x2 x3 x4 x5 x6 x7 x8 x9 x10 x11 : Int} {I L : Nat → Nat → Nat → Int} {t : Nat → Nat} (g1 : 0 ≤ x10 ∧ x10 < 40) : Res d 226 229 [vr 12 i0, vi x1, vi x2, vi x3, vi x4, vi x5, vi x6, vi x7, vi x8, vi x9, vi x10, vi x11] [] (mk I L t) = some (vi x10, (mk (up3 (up3 I 114 i0 x10.toNat x9) 12 i0 4 (w32 (((up3 I 114 i0 x10.toNat x9) 12 i0 4) + 1))) L t)) :=
  Eq.trans (e_aload_n D226_229 rfl rfl) <| Eq.trans (e_getP (p := (114, i0)) D226_230 rfl o_226 f_12_213 (sh_12 _) (by decide) (pp_12_93 _ _)) <| Eq.trans (e_iload D226_233 rfl rfl) <| Eq.trans (e_iload D226_235 rfl rfl) <| Eq.trans (e_iast D226_237 rfl (al_114 _) rfl g1) <| Eq.trans (e_aload_n D226_238 rfl rfl) <| Eq.trans (e_dup D226_239 rfl) <| Eq.trans (e_getI D226_240 rfl o_226 f_12_527 (sh_12 _) (by decide)) <| Eq.trans (e_iconst (x := 1) D226_243 rfl rfl) <| Eq.trans (e_iadd D226_244 rfl) <| Eq.trans (e_putI D226_245 rfl o_226 f_12_527 (sh_12 _) rfl (by decide) (Or.inl (by decide))) <| Eq.trans (e_iload D226_248 rfl rfl) <| e_iret D226_250 rfl
/-! m_leads -/
theorem cc_227 : cod 227 = cX12_leads := rfl
theorem D227_0 : decode (cod 227) 0 = .ok (.aload_n 0, 1) := by rw [cc_227]; decide +kernel
theorem D227_1 : decode (cod 227) 1 = .ok (.aload_n 0, 1) := by rw [cc_227]; decide +kernel
theorem D227_2 : decode (cod 227) 2 = .ok (.getfield 186, 3) := by rw [cc_227]; decide +kernel
theorem D227_5 : decode (cod 227) 5 = .ok (.iload_n 1, 1) := by rw [cc_227]; decide +kernel
theorem D227_6 : decode (cod 227) 6 = .ok (.iaload, 1) := by rw [cc_227]; decide +kernel
theorem D227_7 : decode (cod 227) 7 = .ok (.aload_n 0, 1) := by rw [cc_227]; decide +kernel
theorem D227_8 : decode (cod 227) 8 = .ok (.getfield 189, 3) := by rw [cc_227]; decide +kernel
theorem D227_11 : decode (cod 227) 11 = .ok (.iload_n 1, 1) := by rw [cc_227]; decide +kernel
theorem D227_12 : decode (cod 227) 12 = .ok (.iaload, 1) := by rw [cc_227]; decide +kernel
theorem D227_13 : decode (cod 227) 13 = .ok (.aload_n 0, 1) := by rw [cc_227]; decide +kernel
theorem D227_14 : decode (cod 227) 14 = .ok (.getfield 192, 3) := by rw [cc_227]; decide +kernel
theorem D227_17 : decode (cod 227) 17 = .ok (.iload_n 1, 1) := by rw [cc_227]; decide +kernel
theorem D227_18 : decode (cod 227) 18 = .ok (.iaload, 1) := by rw [cc_227]; decide +kernel
theorem D227_19 : decode (cod 227) 19 = .ok (.aload_n 0, 1) := by rw [cc_227]; decide +kernel
theorem D227_20 : decode (cod 227) 20 = .ok (.getfield 195, 3) := by rw [cc_227]; decide +kernel
theorem D227_23 : decode (cod 227) 23 = .ok (.iload_n 1, 1) := by rw [cc_227]; decide +kernel
theorem D227_24 : decode (cod 227) 24 = .ok (.iaload, 1) := by rw [cc_227]; decide +kernel
theorem D227_25 : decode (cod 227) 25 = .ok (.aload_n 0, 1) := by rw [cc_227]; decide +kernel
theorem D227_26 : decode (cod 227) 26 = .ok (.getfield 198, 3) := by rw [cc_227]; decide +kernel
theorem D227_29 : decode (cod 227) 29 = .ok (.iload_n 1, 1) := by rw [cc_227]; decide +kernel
theorem D227_30 : decode (cod 227) 30 = .ok (.iaload, 1) := by rw [cc_227]; decide +kernel
theorem D227_31 : decode (cod 227) 31 = .ok (.aload_n 0, 1) := by rw [cc_227]; decide +kernel
theorem D227_32 : decode (cod 227) 32 = .ok (.getfield 201, 3) := by rw [cc_227]; decide +kernel
theorem D227_35 : decode (cod 227) 35 = .ok (.iload_n 1, 1) := by rw [cc_227]; decide +kernel
theorem D227_36 : decode (cod 227) 36 = .ok (.iaload, 1) := by rw [cc_227]; decide +kernel
theorem D227_37 : decode (cod 227) 37 = .ok (.iconst 0, 1) := by rw [cc_227]; decide +kernel
theorem D227_38 : decode (cod 227) 38 = .ok (.invokevirtual 452, 3) := by rw [cc_227]; decide +kernel
theorem D227_41 : decode (cod 227) 41 = .ok (.iconst 0, 1) := by rw [cc_227]; decide +kernel
theorem D227_42 : decode (cod 227) 42 = .ok (.istore_n 3, 1) := by rw [cc_227]; decide +kernel
theorem D227_43 : decode (cod 227) 43 = .ok (.iload_n 3, 1) := by rw [cc_227]; decide +kernel
theorem D227_44 : decode (cod 227) 44 = .ok (.bipush 16, 2) := by rw [cc_227]; decide +kernel
theorem D227_46 : decode (cod 227) 46 = .ok (.if_icmp .ge 36, 3) := by rw [cc_227]; decide +kernel
theorem D227_49 : decode (cod 227) 49 = .ok (.aload_n 0, 1) := by rw [cc_227]; decide +kernel
theorem D227_50 : decode (cod 227) 50 = .ok (.getfield 102, 3) := by rw [cc_227]; decide +kernel
theorem D227_53 : decode (cod 227) 53 = .ok (.iload_n 3, 1) := by rw [cc_227]; decide +kernel
theorem D227_54 : decode (cod 227) 54 = .ok (.aload_n 0, 1) := by rw [cc_227]; decide +kernel
theorem D227_55 : decode (cod 227) 55 = .ok (.getfield 19, 3) := by rw [cc_227]; decide +kernel
theorem D227_58 : decode (cod 227) 58 = .ok (.bipush 16, 2) := by rw [cc_227]; decide +kernel
theorem D227_60 : decode (cod 227) 60 = .ok (.aload_n 0, 1) := by rw [cc_227]; decide +kernel
theorem D227_61 : decode (cod 227) 61 = .ok (.getfield 13, 3) := by rw [cc_227]; decide +kernel
theorem D227_64 : decode (cod 227) 64 = .ok (.aload_n 0, 1) := by rw [cc_227]; decide +kernel
theorem D227_65 : decode (cod 227) 65 = .ok (.getfield 192, 3) := by rw [cc_227]; decide +kernel
theorem D227_68 : decode (cod 227) 68 = .ok (.iload_n 1, 1) := by rw [cc_227]; decide +kernel
theorem D227_69 : decode (cod 227) 69 = .ok (.iaload, 1) := by rw [cc_227]; decide +kernel
theorem D227_70 : decode (cod 227) 70 = .ok (.iaload, 1) := by rw [cc_227]; decide +kernel
theorem D227_71 : decode (cod 227) 71 = .ok (.imul, 1) := by rw [cc_227]; decide +kernel
theorem D227_72 : decode (cod 227) 72 = .ok (.iload_n 3, 1) := by rw [cc_227]; decide +kernel
theorem D227_73 : decode (cod 227) 73 = .ok (.iadd, 1) := by rw [cc_227]; decide +kernel
theorem D227_74 : decode (cod 227) 74 = .ok (.iaload, 1) := by rw [cc_227]; decide +kernel
theorem D227_75 : decode (cod 227) 75 = .ok (.iastore, 1) := by rw [cc_227]; decide +kernel
theorem D227_76 : decode (cod 227) 76 = .ok (.iinc 3 1, 3) := by rw [cc_227]; decide +kernel
theorem D227_79 : decode (cod 227) 79 = .ok (.goto (-36), 3) := by rw [cc_227]; decide +kernel
theorem D227_82 : decode (cod 227) 82 = .ok (.aload_n 0, 1) := by rw [cc_227]; decide +kernel
theorem D227_83 : decode (cod 227) 83 = .ok (.getfield 86, 3) := by rw [cc_227]; decide +kernel
theorem D227_86 : decode (cod 227) 86 = .ok (.iload_n 2, 1) := by rw [cc_227]; decide +kernel
theorem D227_87 : decode (cod 227) 87 = .ok (.iaload, 1) := by rw [cc_227]; decide +kernel
theorem D227_88 : decode (cod 227) 88 = .ok (.iconst (-1), 1) := by rw [cc_227]; decide +kernel
theorem D227_89 : decode (cod 227) 89 = .ok (.if_icmp .eq 28, 3) := by rw [cc_227]; decide +kernel
theorem D227_92 : decode (cod 227) 92 = .ok (.aload_n 0, 1) := by rw [cc_227]; decide +kernel
theorem D227_93 : decode (cod 227) 93 = .ok (.aload_n 0, 1) := by rw [cc_227]; decide +kernel
theorem D227_94 : decode (cod 227) 94 = .ok (.getfield 86, 3) := by rw [cc_227]; decide +kernel
theorem D227_97 : decode (cod 227) 97 = .ok (.iload_n 2, 1) := by rw [cc_227]; decide +kernel
theorem D227_98 : decode (cod 227) 98 = .ok (.iaload, 1) := by rw [cc_227]; decide +kernel
theorem D227_99 : decode (cod 227) 99 = .ok (.invokevirtual 472, 3) := by rw [cc_227]; decide +kernel
theorem D227_102 : decode (cod 227) 102 = .ok (.aload_n 0, 1) := by rw [cc_227]; decide +kernel
theorem D227_103 : decode (cod 227) 103 = .ok (.invokevirtual 499, 3) := by rw [cc_227]; decide +kernel
theorem D227_106 : decode (cod 227) 106 = .ok (.ifCond .le 11, 3) := by rw [cc_227]; decide +kernel
theorem D227_109 : decode (cod 227) 109 = .ok (.aload_n 0, 1) := by rw [cc_227]; decide +kernel
theorem D227_110 : decode (cod 227) 110 = .ok (.invokevirtual 502, 3) := by rw [cc_227]; decide +kernel
theorem D227_113 : decode (cod 227) 113 = .ok (.aload_n 0, 1) := by rw [cc_227]; decide +kernel
theorem D227_114 : decode (cod 227) 114 = .ok (.invokevirtual 505, 3) := by rw [cc_227]; decide +kernel
theorem D227_117 : decode (cod 227) 117 = .ok (.iconst 0, 1) := by rw [cc_227]; decide +kernel
theorem D227_118 : decode (cod 227) 118 = .ok (.istore_n 3, 1) := by rw [cc_227]; decide +kernel
theorem D227_119 : decode (cod 227) 119 = .ok (.iload_n 3, 1) := by rw [cc_227]; decide +kernel
theorem D227_120 : decode (cod 227) 120 = .ok (.aload_n 0, 1) := by rw [cc_227]; decide +kernel
theorem D227_121 : decode (cod 227) 121 = .ok (.getfield 204, 3) := by rw [cc_227]; decide +kernel
theorem D227_124 : decode (cod 227) 124 = .ok (.iload_n 1, 1) := by rw [cc_227]; decide +kernel
theorem D227_125 : decode (cod 227) 125 = .ok (.iaload, 1) := by rw [cc_227]; decide +kernel
theorem D227_126 : decode (cod 227) 126 = .ok (.if_icmp .ge 17, 3) := by rw [cc_227]; decide +kernel
theorem D227_129 : decode (cod 227) 129 = .ok (.aload_n 0, 1) := by rw [cc_227]; decide +kernel
theorem D227_130 : decode (cod 227) 130 = .ok (.invokevirtual 419, 3) := by rw [cc_227]; decide +kernel
theorem D227_133 : decode (cod 227) 133 = .ok (.aload_n 0, 1) := by rw [cc_227]; decide +kernel
theorem D227_134 : decode (cod 227) 134 = .ok (.invokevirtual 462, 3) := by rw [cc_227]; decide +kernel
theorem D227_137 : decode (cod 227) 137 = .ok (.iinc 3 1, 3) := by rw [cc_227]; decide +kernel
theorem D227_140 : decode (cod 227) 140 = .ok (.goto (-21), 3) := by rw [cc_227]; decide +kernel
theorem D227_143 : decode (cod 227) 143 = .ok (.aload_n 0, 1) := by rw [cc_227]; decide +kernel
theorem D227_144 : decode (cod 227) 144 = .ok (.aload_n 0, 1) := by rw [cc_227]; decide +kernel
theorem D227_145 : decode (cod 227) 145 = .ok (.getfield 210, 3) := by rw [cc_227]; decide +kernel
theorem D227_148 : decode (cod 227) 148 = .ok (.iload_n 1, 1) := by rw [cc_227]; decide +kernel
theorem D227_149 : decode (cod 227) 149 = .ok (.iaload, 1) := by rw [cc_227]; decide +kernel
theorem D227_150 : decode (cod 227) 150 = .ok (.putfield 236, 3) := by rw [cc_227]; decide +kernel
theorem D227_153 : decode (cod 227) 153 = .ok (.iconst 0, 1) := by rw [cc_227]; decide +kernel
theorem D227_154 : decode (cod 227) 154 = .ok (.istore_n 3, 1) := by rw [cc_227]; decide +kernel
theorem D227_155 : decode (cod 227) 155 = .ok (.iload_n 3, 1) := by rw [cc_227]; decide +kernel
theorem D227_156 : decode (cod 227) 156 = .ok (.aload_n 0, 1) := by rw [cc_227]; decide +kernel
theorem D227_157 : decode (cod 227) 157 = .ok (.getfield 236, 3) := by rw [cc_227]; decide +kernel
theorem D227_160 : decode (cod 227) 160 = .ok (.if_icmp .ge 26, 3) := by rw [cc_227]; decide +kernel
theorem D227_163 : decode (cod 227) 163 = .ok (.aload_n 0, 1) := by rw [cc_227]; decide +kernel
theorem D227_164 : decode (cod 227) 164 = .ok (.getfield 28, 3) := by rw [cc_227]; decide +kernel
theorem D227_167 : decode (cod 227) 167 = .ok (.iload_n 3, 1) := by rw [cc_227]; decide +kernel
theorem D227_168 : decode (cod 227) 168 = .ok (.aload_n 0, 1) := by rw [cc_227]; decide +kernel
theorem D227_169 : decode (cod 227) 169 = .ok (.getfield 207, 3) := by rw [cc_227]; decide +kernel
theorem D227_172 : decode (cod 227) 172 = .ok (.bipush 9, 2) := by rw [cc_227]; decide +kernel
theorem D227_174 : decode (cod 227) 174 = .ok (.iload_n 1, 1) := by rw [cc_227]; decide +kernel
theorem D227_175 : decode (cod 227) 175 = .ok (.imul, 1) := by rw [cc_227]; decide +kernel
theorem D227_176 : decode (cod 227) 176 = .ok (.iload_n 3, 1) := by rw [cc_227]; decide +kernel
theorem D227_177 : decode (cod 227) 177 = .ok (.iadd, 1) := by rw [cc_227]; decide +kernel
theorem D227_178 : decode (cod 227) 178 = .ok (.iaload, 1) := by rw [cc_227]; decide +kernel
theorem D227_179 : decode (cod 227) 179 = .ok (.iastore, 1) := by rw [cc_227]; decide +kernel
theorem D227_180 : decode (cod 227) 180 = .ok (.iinc 3 1, 3) := by rw [cc_227]; decide +kernel
theorem D227_183 : decode (cod 227) 183 = .ok (.goto (-28), 3) := by rw [cc_227]; decide +kernel
theorem D227_186 : decode (cod 227) 186 = .ok (.aload_n 0, 1) := by rw [cc_227]; decide +kernel
theorem D227_187 : decode (cod 227) 187 = .ok (.aload_n 0, 1) := by rw [cc_227]; decide +kernel
theorem D227_188 : decode (cod 227) 188 = .ok (.getfield 76, 3) := by rw [cc_227]; decide +kernel
theorem D227_191 : decode (cod 227) 191 = .ok (.iload_n 2, 1) := by rw [cc_227]; decide +kernel
theorem D227_192 : decode (cod 227) 192 = .ok (.baload, 1) := by rw [cc_227]; decide +kernel
theorem D227_193 : decode (cod 227) 193 = .ok (.ifCond .eq 7, 3) := by rw [cc_227]; decide +kernel
theorem D227_196 : decode (cod 227) 196 = .ok (.iconst 1, 1) := by rw [cc_227]; decide +kernel
theorem D227_197 : decode (cod 227) 197 = .ok (.goto 4, 3) := by rw [cc_227]; decide +kernel
theorem D227_200 : decode (cod 227) 200 = .ok (.iconst 0, 1) := by rw [cc_227]; decide +kernel
theorem D227_201 : decode (cod 227) 201 = .ok (.aload_n 0, 1) := by rw [cc_227]; decide +kernel
theorem D227_202 : decode (cod 227) 202 = .ok (.getfield 83, 3) := by rw [cc_227]; decide +kernel
theorem D227_205 : decode (cod 227) 205 = .ok (.iload_n 2, 1) := by rw [cc_227]; decide +kernel
theorem D227_206 : decode (cod 227) 206 = .ok (.iaload, 1) := by rw [cc_227]; decide +kernel
theorem D227_207 : decode (cod 227) 207 = .ok (.iconst (-1), 1) := by rw [cc_227]; decide +kernel
theorem D227_208 : decode (cod 227) 208 = .ok (.if_icmp .ne 7, 3) := by rw [cc_227]; decide +kernel
theorem D227_211 : decode (cod 227) 211 = .ok (.iconst (-1), 1) := by rw [cc_227]; decide +kernel
theorem D227_212 : decode (cod 227) 212 = .ok (.goto 9, 3) := by rw [cc_227]; decide +kernel
theorem D227_215 : decode (cod 227) 215 = .ok (.aload_n 0, 1) := by rw [cc_227]; decide +kernel
theorem D227_216 : decode (cod 227) 216 = .ok (.getfield 213, 3) := by rw [cc_227]; decide +kernel
theorem D227_219 : decode (cod 227) 219 = .ok (.iload_n 1, 1) := by rw [cc_227]; decide +kernel
theorem D227_220 : decode (cod 227) 220 = .ok (.iaload, 1) := by rw [cc_227]; decide +kernel
theorem D227_221 : decode (cod 227) 221 = .ok (.aload_n 0, 1) := by rw [cc_227]; decide +kernel
theorem D227_222 : decode (cod 227) 222 = .ok (.getfield 83, 3) := by rw [cc_227]; decide +kernel
theorem D227_225 : decode (cod 227) 225 = .ok (.iload_n 2, 1) := by rw [cc_227]; decide +kernel
theorem D227_226 : decode (cod 227) 226 = .ok (.iaload, 1) := by rw [cc_227]; decide +kernel
theorem D227_227 : decode (cod 227) 227 = .ok (.iconst (-1), 1) := by rw [cc_227]; decide +kernel
theorem D227_228 : decode (cod 227) 228 = .ok (.if_icmp .ne 7, 3) := by rw [cc_227]; decide +kernel
theorem D227_231 : decode (cod 227) 231 = .ok (.iconst 0, 1) := by rw [cc_227]; decide +kernel
theorem D227_232 : decode (cod 227) 232 = .ok (.goto 9, 3) := by rw [cc_227]; decide +kernel
theorem D227_235 : decode (cod 227) 235 = .ok (.aload_n 0, 1) := by rw [cc_227]; decide +kernel
theorem D227_236 : decode (cod 227) 236 = .ok (.getfield 83, 3) := by rw [cc_227]; decide +kernel
theorem D227_239 : decode (cod 227) 239 = .ok (.iload_n 2, 1) := by rw [cc_227]; decide +kernel
theorem D227_240 : decode (cod 227) 240 = .ok (.iaload, 1) := by rw [cc_227]; decide +kernel
theorem D227_241 : decode (cod 227) 241 = .ok (.invokevirtual 478, 3) := by rw [cc_227]; decide +kernel
theorem D227_244 : decode (cod 227) 244 = .ok (.return_, 1) := by rw [cc_227]; decide +kernel
theorem b227_0 {d : Nat} {i0 : Nat} {x1 x2 : Int} {I L : Nat → Nat → Nat → Int} {t : Nat → Nat} (g1 : 0 ≤ x1 ∧ x1 < 40) : Res (d + 1) 227 0 [vr 12 i0, vi x1, vi x2, vx] [] (mk I L t) = (Cal d 191 [vr 12 i0, vi (I 105 i0 x1.toNat), vi (I 106 i0 x1.toNat), vi (I 107 i0 x1.toNat), vi (I 108 i0 x1.toNat), vi (I 109 i0 x1.toNat), vi (I 110 i0 x1.toNat), vi 0] (mk I L t)).bind fun v => Res (d + 1) 227 41 [vr 12 i0, vi x1, vi x2, vx] (psh 191 v.1 []) v.2 :=
  Eq.trans (e_aload_n D227_0 rfl rfl) <| Eq.trans (e_aload_n D227_1 rfl rfl) <| Eq.trans (e_getP (p := (105, i0)) D227_2 rfl o_227 f_12_186 (sh_12 _) (by decide) (pp_12_84 _ _)) <| Eq.trans (e_iload_n D227_5 rfl rfl) <| Eq.trans (e_iald D227_6 rfl (al_105 _) g1) <| Eq.trans (e_aload_n D227_7 rfl rfl) <| Eq.trans (e_getP (p := (106, i0)) D227_8 rfl o_227 f_12_189 (sh_12 _) (by decide) (pp_12_85 _ _)) <| Eq.trans (e_iload_n D227_11 rfl rfl) <| Eq.trans (e_iald D227_12 rfl (al_106 _) g1) <| Eq.trans (e_aload_n D227_13 rfl rfl) <| Eq.trans (e_getP (p := (107, i0)) D227_14 rfl o_227 f_12_192 (sh_12 _) (by decide) (pp_12_86 _ _)) <| Eq.trans (e_iload_n D227_17 rfl rfl) <| Eq.trans (e_iald D227_18 rfl (al_107 _) g1) <| Eq.trans (e_aload_n D227_19 rfl rfl) <| Eq.trans (e_getP (p := (108, i0)) D227_20 rfl o_227 f_12_195 (sh_12 _) (by decide) (pp_12_87 _ _)) <| Eq.trans (e_iload_n D227_23 rfl rfl) <| Eq.trans (e_iald D227_24 rfl (al_108 _) g1) <| Eq.trans (e_aload_n D227_25 rfl rfl) <| Eq.trans (e_getP (p := (109, i0)) D227_26 rfl o_227 f_12_198 (sh_12 _) (by decide) (pp_12_88 _ _)) <| Eq.trans (e_iload_n D227_29 rfl rfl) <| Eq.trans (e_iald D227_30 rfl (al_109 _) g1) <| Eq.trans (e_aload_n D227_31 rfl rfl) <| Eq.trans (e_getP (p := (110, i0)) D227_32 rfl o_227 f_12_201 (sh_12 _) (by decide) (pp_12_89 _ _)) <| Eq.trans (e_iload_n D227_35 rfl rfl) <| Eq.trans (e_iald D227_36 rfl (al_110 _) g1) <| Eq.trans (e_iconst (x := 0) D227_37 rfl rfl) <| e_callV D227_38 rfl o_227 m_12_452 (by decide) rfl rfl
theorem b227_41 {d : Nat} {i0 : Nat} {x1 x2 : Int} {I L : Nat → Nat → Nat → Int} {t : Nat → Nat} : Res d 227 41 [vr 12 i0, vi x1, vi x2, vx] [] (mk I L t) = Res d 227 43 [vr 12 i0, vi x1, vi x2, vi 0] [] (mk I L t) :=
  Eq.trans (e_iconst (x := 0) D227_41 rfl rfl) <| e_istore_n (ls1 := [vr 12 i0, vi x1, vi x2, vi 0]) D227_42 rfl (show 3 < 4 by decide) rfl
theorem b227_43 {d : Nat} {i0 : Nat} {x1 x2 x3 : Int} {I L : Nat → Nat → Nat → Int} {t : Nat → Nat} : Res d 227 43 [vr 12 i0, vi x1, vi x2, vi x3] [] (mk I L t) = if 16 ≤ x3 then Res d 227 82 [vr 12 i0, vi x1, vi x2, vi x3] [] (mk I L t) else Res d 227 49 [vr 12 i0, vi x1, vi x2, vi x3] [] (mk I L t) :=
  Eq.trans (e_iload_n D227_43 rfl rfl) <| Eq.trans (e_bipush (x := 16) D227_44 rfl rfl) <| e_icge D227_46 rfl rfl
theorem b227_49 {d : Nat} {i0 : Nat} {x1 x2 x3 : Int} {I L : Nat → Nat → Nat → Int} {t : Nat → Nat} (g1 : 0 ≤ x1 ∧ x1 < 40) (g2 : 0 ≤ I 107 i0 x1.toNat ∧ I 107 i0 x1.toNat < 132) (g3 : 0 ≤ w32 ((w32 (16 * (I 49 i0 (I 107 i0 x1.toNat).toNat))) + x3) ∧ w32 ((w32 (16 * (I 49 i0 (I 107 i0 x1.toNat).toNat))) + x3) < 96) (g4 : 0 ≤ x3 ∧ x3 < 16) : Res d 227 49 [vr 12 i0, vi x1, vi x2, vi x3] [] (mk I L t) = Res d 227 43 [vr 12 i0, vi x1, vi x2, vi (w32 (x3 + 1))] [] (mk (up3 I 77 i0 x3.toNat (I 51 i0 (w32 ((w32 (16 * (I 49 i0 (I 107 i0 x1.toNat).toNat))) + x3)).toNat)) L t) :=
  Eq.trans (e_aload_n D227_49 rfl rfl) <| Eq.trans (e_getP (p := (77, i0)) D227_50 rfl o_227 f_12_102 (sh_12 _) (by decide) (pp_12_53 _ _)) <| Eq.trans (e_iload_n D227_53 rfl rfl) <| Eq.trans (e_aload_n D227_54 rfl rfl) <| Eq.trans (e_getP (p := (51, i0)) D227_55 rfl o_227 f_12_19 (sh_12 _) (by decide) (pp_12_8 _ _)) <| Eq.trans (e_bipush (x := 16) D227_58 rfl rfl) <| Eq.trans (e_aload_n D227_60 rfl rfl) <| Eq.trans (e_getP (p := (49, i0)) D227_61 rfl o_227 f_12_13 (sh_12 _) (by decide) (pp_12_6 _ _)) <| Eq.trans (e_aload_n D227_64 rfl rfl) <| Eq.trans (e_getP (p := (107, i0)) D227_65 rfl o_227 f_12_192 (sh_12 _) (by decide) (pp_12_86 _ _)) <| Eq.trans (e_iload_n D227_68 rfl rfl) <| Eq.trans (e_iald D227_69 rfl (al_107 _) g1) <| Eq.trans (e_iald D227_70 rfl (al_49 _) g2) <| Eq.trans (e_imul D227_71 rfl) <| Eq.trans (e_iload_n D227_72 rfl rfl) <| Eq.trans (e_iadd D227_73 rfl) <| Eq.trans (e_iald D227_74 rfl (al_51 _) g3) <| Eq.trans (e_iast D227_75 rfl (al_77 _) rfl g4) <| Eq.trans (e_iinc (ls1 := [vr 12 i0, vi x1, vi x2, vi (w32 (x3 + 1))]) D227_76 rfl rfl rfl) <| e_goto (q1 := 43) D227_79 rfl
theorem b227_82 {d : Nat} {i0 : Nat} {x1 x2 x3 : Int} {I L : Nat → Nat → Nat → Int} {t : Nat → Nat} (g1 : 0 ≤ x2 ∧ x2 < 4) : Res d 227 82 [vr 12 i0, vi x1, vi x2, vi x3] [] (mk I L t) = if I 73 i0 x2.toNat = -1 then Res d 227 117 [vr 12 i0, vi x1, vi x2, vi x3] [] (mk I L t) else Res d 227 92 [vr 12 i0, vi x1, vi x2, vi x3] [] (mk I L t) :=
  Eq.trans (e_aload_n D227_82 rfl rfl) <| Eq.trans (e_getP (p := (73, i0)) D227_83 rfl o_227 f_12_86 (sh_12 _) (by decide) (pp_12_31 _ _)) <| Eq.trans (e_iload_n D227_86 rfl rfl) <| Eq.trans (e_iald D227_87 rfl (al_73 _) g1) <| Eq.trans (e_iconst (x := -1) D227_88 rfl rfl) <| e_iceq D227_89 rfl rfl
theorem b227_92 {d : Nat} {i0 : Nat} {x1 x2 x3 : Int} {I L : Nat → Nat → Nat → Int} {t : Nat → Nat} (g1 : 0 ≤ x2 ∧ x2 < 4) : Res (d + 1) 227 92 [vr 12 i0, vi x1, vi x2, vi x3] [] (mk I L t) = (Cal d 156 [vr 12 i0, vi (I 73 i0 x2.toNat)] (mk I L t)).bind fun v => Res (d + 1) 227 102 [vr 12 i0, vi x1, vi x2, vi x3] (psh 156 v.1 []) v.2 :=
  Eq.trans (e_aload_n D227_92 rfl rfl) <| Eq.trans (e_aload_n D227_93 rfl rfl) <| Eq.trans (e_getP (p := (73, i0)) D227_94 rfl o_227 f_12_86 (sh_12 _) (by decide) (pp_12_31 _ _)) <| Eq.trans (e_iload_n D227_97 rfl rfl) <| Eq.trans (e_iald D227_98 rfl (al_73 _) g1) <| e_callV D227_99 rfl o_227 m_12_472 (by decide) rfl rfl
theorem b227_102 {d : Nat} {i0 : Nat} {x1 x2 x3 : Int} {I L : Nat → Nat → Nat → Int} {t : Nat → Nat} : Res (d + 1) 227 102 [vr 12 i0, vi x1, vi x2, vi x3] [] (mk I L t) = (Cal d 158 [vr 12 i0] (mk I L t)).bind fun v => Res (d + 1) 227 106 [vr 12 i0, vi x1, vi x2, vi x3] (psh 158 v.1 []) v.2 :=
  Eq.trans (e_aload_n D227_102 rfl rfl) <| e_callV D227_103 rfl o_227 m_12_499 (by decide) rfl rfl
theorem b227_106 {d : Nat} {i0 : Nat} {x1 x2 x3 xs0 : Int} {I L : Nat → Nat → Nat → Int} {t : Nat → Nat} : Res d 227 106 [vr 12 i0, vi x1, vi x2, vi x3] [vi xs0] (mk I L t) = if xs0 ≤ 0 then Res d 227 117 [vr 12 i0, vi x1, vi x2, vi x3] [] (mk I L t) else Res d 227 109 [vr 12 i0, vi x1, vi x2, vi x3] [] (mk I L t) :=
  e_ifle D227_106 rfl rfl
theorem b227_109 {d : Nat} {i0 : Nat} {x1 x2 x3 : Int} {I L : Nat → Nat → Nat → Int} {t : Nat → Nat} : Res (d + 1) 227 109 [vr 12 i0, vi x1, vi x2, vi x3] [] (mk I L t) = (Cal d 212 [vr 12 i0] (mk I L t)).bind fun v => Res (d + 1) 227 113 [vr 12 i0, vi x1, vi x2, vi x3] (psh 212 v.1 []) v.2 :=
  Eq.trans (e_aload_n D227_109 rfl rfl) <| e_callV D227_110 rfl o_227 m_12_502 (by decide) rfl rfl
theorem b227_113 {d : Nat} {i0 : Nat} {x1 x2 x3 : Int} {I L : Nat → Nat → Nat → Int} {t : Nat → Nat} : Res (d + 1) 227 113 [vr 12 i0, vi x1, vi x2, vi x3] [] (mk I L t) = (Cal d 213 [vr 12 i0] (mk I L t)).bind fun v => Res (d + 1) 227 117 [vr 12 i0, vi x1, vi x2, vi x3] (psh 213 v.1 []) v.2 :=
  Eq.trans (e_aload_n D227_113 rfl rfl) <| e_callV D227_114 rfl o_227 m_12_505 (by decide) rfl rfl
theorem b227_117 {d : Nat} {i0 : Nat} {x1 x2 x3 : Int} {I L : Nat → Nat → Nat → Int} {t : Nat → Nat} : Res d 227 117 [vr 12 i0, vi x1, vi x2, vi x3] [] (mk I L t) = Res d 227 119 [vr 12 i0, vi x1, vi x2, vi 0] [] (mk I L t) :=
  Eq.trans (e_iconst (x := 0) D227_117 rfl rfl) <| e_istore_n (ls1 := [vr 12 i0, vi x1, vi x2, vi 0]) D227_118 rfl (show 3 < 4 by decide) rfl
theorem b227_119 {d : Nat} {i0 : Nat} {x1 x2 x3 : Int} {I L : Nat → Nat → Nat → Int} {t : Nat → Nat} (g1 : 0 ≤ x1 ∧ x1 < 40) : Res d 227 119 [vr 12 i0, vi x1, vi x2, vi x3] [] (mk I L t) = if I 111 i0 x1.toNat ≤ x3 then Res d 227 143 [vr 12 i0, vi x1, vi x2, vi x3] [] (mk I L t) else Res d 227 129 [vr 12 i0, vi x1, vi x2, vi x3] [] (mk I L t) :=
  Eq.trans (e_iload_n D227_119 rfl rfl) <| Eq.trans (e_aload_n D227_120 rfl rfl) <| Eq.trans (e_getP (p := (111, i0)) D227_121 rfl o_227 f_12_204 (sh_12 _) (by decide) (pp_12_90 _ _)) <| Eq.trans (e_iload_n D227_124 rfl rfl) <| Eq.trans (e_iald D227_125 rfl (al_111 _) g1) <| e_icge D227_126 rfl rfl
theorem b227_129 {d : Nat} {i0 : Nat} {x1 x2 x3 : Int} {I L : Nat → Nat → Nat → Int} {t : Nat → Nat} : Res (d + 1) 227 129 [vr 12 i0, vi x1, vi x2, vi x3] [] (mk I L t) = (Cal d 185 [vr 12 i0] (mk I L t)).bind fun v => Res (d + 1) 227 133 [vr 12 i0, vi x1, vi x2, vi x3] (psh 185 v.1 []) v.2 :=
  Eq.trans (e_aload_n D227_129 rfl rfl) <| e_callV D227_130 rfl o_227 m_12_419 (by decide) rfl rfl
theorem b227_133 {d : Nat} {i0 : Nat} {x1 x2 x3 : Int} {I L : Nat → Nat → Nat → Int} {t : Nat → Nat} : Res (d + 1) 227 133 [vr 12 i0, vi x1, vi x2, vi x3] [] (mk I L t) = (Cal d 192 [vr 12 i0] (mk I L t)).bind fun v => Res (d + 1) 227 137 [vr 12 i0, vi x1, vi x2, vi x3] (psh 192 v.1 []) v.2 :=
  Eq.trans (e_aload_n D227_133 rfl rfl) <| e_callV D227_134 rfl o_227 m_12_462 (by decide) rfl rfl
theorem b227_137 {d : Nat} {i0 : Nat} {x1 x2 x3 : Int} {I L : Nat → Nat → Nat → Int} {t : Nat → Nat} : Res d 227 137 [vr 12 i0, vi x1, vi x2, vi x3] [] (mk I L t) = Res d 227 119 [vr 12 i0, vi x1, vi x2, vi (w32 (x3 + 1))] [] (mk I L t) :=
  Eq.trans (e_iinc (ls1 := [vr 12 i0, vi x1, vi x2, vi (w32 (x3 + 1))]) D227_137 rfl rfl rfl) <| e_goto (q1 := 119) D227_140 rfl
theorem b227_143 {d : Nat} {i0 : Nat} {x1 x2 x3 : Int} {I L : Nat → Nat → Nat → Int} {t : Nat → Nat} (g1 : 0 ≤ x1 ∧ x1 < 40) : Res d 227 143 [vr 12 i0, vi x1, vi x2, vi x3] [] (mk I L t) = Res d 227 155 [vr 12 i0, vi x1, vi x2, vi 0] [] (mk (up3 I 12 i0 12 (I 113 i0 x1.toNat)) L t) :=
  Eq.trans (e_aload_n D227_143 rfl rfl) <| Eq.trans (e_aload_n D227_144 rfl rfl) <| Eq.trans (e_getP (p := (113, i0)) D227_145 rfl o_227 f_12_210 (sh_12 _) (by decide) (pp_12_92 _ _)) <| Eq.trans (e_iload_n D227_148 rfl rfl) <| Eq.trans (e_iald D227_149 rfl (al_113 _) g1) <| Eq.trans (e_putI D227_150 rfl o_227 f_12_236 (sh_12 _) rfl (by decide) (Or.inl (by decide))) <| Eq.trans (e_iconst (x := 0) D227_153 rfl rfl) <| e_istore_n (ls1 := [vr 12 i0, vi x1, vi x2, vi 0]) D227_154 rfl (show 3 < 4 by decide) rfl
theorem b227_155 {d : Nat} {i0 : Nat} {x1 x2 x3 : Int} {I L : Nat → Nat → Nat → Int} {t : Nat → Nat} : Res d 227 155 [vr 12 i0, vi x1, vi x2, vi x3] [] (mk I L t) = if I 12 i0 12 ≤ x3 then Res d 227 186 [vr 12 i0, vi x1, vi x2, vi x3] [] (mk I L t) else Res d 227 163 [vr 12 i0, vi x1, vi x2, vi x3] [] (mk I L t) :=
  Eq.trans (e_iload_n D227_155 rfl rfl) <| Eq.trans (e_aload_n D227_156 rfl rfl) <| Eq.trans (e_getI D227_157 rfl o_227 f_12_236 (sh_12 _) (by decide)) <| e_icge D227_160 rfl rfl
theorem b227_163 {d : Nat} {i0 : Nat} {x1 x2 x3 : Int} {I L : Nat → Nat → Nat → Int} {t : Nat → Nat} (g1 : 0 ≤ w32 ((w32 (9 * x1)) + x3) ∧ w32 ((w32 (9 * x1)) + x3) < 360) (g2 : 0 ≤ x3 ∧ x3 < 9) : Res d 227 163 [vr 12 i0, vi x1, vi x2, vi x3] [] (mk I L t) = Res d 227 155 [vr 12 i0, vi x1, vi x2, vi (w32 (x3 + 1))] [] (mk (up3 I 54 i0 x3.toNat (I 112 i0 (w32 ((w32 (9 * x1)) + x3)).toNat)) L t) :=
  Eq.trans (e_aload_n D227_163 rfl rfl) <| Eq.trans (e_getP (p := (54, i0)) D227_164 rfl o_227 f_12_28 (sh_12 _) (by decide) (pp_12_11 _ _)) <| Eq.trans (e_iload_n D227_167 rfl rfl) <| Eq.trans (e_aload_n D227_168 rfl rfl) <| Eq.trans (e_getP (p := (112, i0)) D227_169 rfl o_227 f_12_207 (sh_12 _) (by decide) (pp_12_91 _ _)) <| Eq.trans (e_bipush (x := 9) D227_172 rfl rfl) <| Eq.trans (e_iload_n D227_174 rfl rfl) <| Eq.trans (e_imul D227_175 rfl) <| Eq.trans (e_iload_n D227_176 rfl rfl) <| Eq.trans (e_iadd D227_177 rfl) <| Eq.trans (e_iald D227_178 rfl (al_112 _) g1) <| Eq.trans (e_iast D227_179 rfl (al_54 _) rfl g2) <| Eq.trans (e_iinc (ls1 := [vr 12 i0, vi x1, vi x2, vi (w32 (x3 + 1))]) D227_180 rfl rfl rfl) <| e_goto (q1 := 155) D227_183 rfl
theorem b227_186 {d : Nat} {i0 : Nat} {x1 x2 x3 : Int} {I L : Nat → Nat → Nat → Int} {t : Nat → Nat} (g1 : 0 ≤ x2 ∧ x2 < 4) : Res d 227 186 [vr 12 i0, vi x1, vi x2, vi x3] [] (mk I L t) = if I 70 i0 x2.toNat = 0 then Res d 227 200 [vr 12 i0, vi x1, vi x2, vi x3] [vr 12 i0] (mk I L t) else Res d 227 196 [vr 12 i0, vi x1, vi x2, vi x3] [vr 12 i0] (mk I L t) :=
  Eq.trans (e_aload_n D227_186 rfl rfl) <| Eq.trans (e_aload_n D227_187 rfl rfl) <| Eq.trans (e_getP (p := (70, i0)) D227_188 rfl o_227 f_12_76 (sh_12 _) (by decide) (pp_12_28 _ _)) <| Eq.trans (e_iload_n D227_191 rfl rfl) <| Eq.trans (e_bald D227_192 rfl (al_70 _) g1) <| e_ifeq D227_193 rfl rfl
theorem b227_196 {d : Nat} {i0 is0 : Nat} {x1 x2 x3 : Int} {I L : Nat → Nat → Nat → Int} {t : Nat → Nat} : Res d 227 196 [vr 12 i0, vi x1, vi x2, vi x3] [vr 12 is0] (mk I L t) = Res d 227 201 [vr 12 i0, vi x1, vi x2, vi x3] [vi 1, vr 12 is0] (mk I L t) :=
  Eq.trans (e_iconst (x := 1) D227_196 rfl rfl) <| e_goto (q1 := 201) D227_197 rfl
theorem b227_200 {d : Nat} {i0 is0 : Nat} {x1 x2 x3 : Int} {I L : Nat → Nat → Nat → Int} {t : Nat → Nat} : Res d 227 200 [vr 12 i0, vi x1, vi x2, vi x3] [vr 12 is0] (mk I L t) = Res d 227 201 [vr 12 i0, vi x1, vi x2, vi x3] [vi 0, vr 12 is0] (mk I L t) :=
  e_iconst (x := 0) D227_200 rfl rfl
theorem b227_201 {d : Nat} {i0 is0 : Nat} {x1 x2 x3 xs1 : Int} {I L : Nat → Nat → Nat → Int} {t : Nat → Nat} (g1 : 0 ≤ x2 ∧ x2 < 4) : Res d 227 201 [vr 12 i0, vi x1, vi x2, vi x3] [vi xs1, vr 12 is0] (mk I L t) = if ¬ I 72 i0 x2.toNat = -1 then Res d 227 215 [vr 12 i0, vi x1, vi x2, vi x3] [vi xs1, vr 12 is0] (mk I L t) else Res d 227 211 [vr 12 i0, vi x1, vi x2, vi x3] [vi xs1, vr 12 is0] (mk I L t) :=
  Eq.trans (e_aload_n D227_201 rfl rfl) <| Eq.trans (e_getP (p := (72, i0)) D227_202 rfl o_227 f_12_83 (sh_12 _) (by decide) (pp_12_30 _ _)) <| Eq.trans (e_iload_n D227_205 rfl rfl) <| Eq.trans (e_iald D227_206 rfl (al_72 _) g1) <| Eq.trans (e_iconst (x := -1) D227_207 rfl rfl) <| e_icne D227_208 rfl rfl
theorem b227_211 {d : Nat} {i0 is0 : Nat} {x1 x2 x3 xs1 : Int} {I L : Nat → Nat → Nat → Int} {t : Nat → Nat} : Res d 227 211 [vr 12 i0, vi x1, vi x2, vi x3] [vi xs1, vr 12 is0] (mk I L t) = Res d 227 221 [vr 12 i0, vi x1, vi x2, vi x3] [vi (-1), vi xs1, vr 12 is0] (mk I L t) :=
  Eq.trans (e_iconst (x := -1) D227_211 rfl rfl) <| e_goto (q1 := 221) D227_212 rfl
theorem b227_215 {d : Nat} {i0 is0 : Nat} {x1 x2 x3 xs1 : Int} {I L : Nat → Nat → Nat → Int} {t : Nat → Nat} (g1 : 0 ≤ x1 ∧ x1 < 40) : Res d 227 215 [vr 12 i0, vi x1, vi x2, vi x3] [vi xs1, vr 12 is0] (mk I L t) = Res d 227 221 [vr 12 i0, vi x1, vi x2, vi x3] [vi (I 114 i0 x1.toNat), vi xs1, vr 12 is0] (mk I L t) :=
  Eq.trans (e_aload_n D227_215 rfl rfl) <| Eq.trans (e_getP (p := (114, i0)) D227_216 rfl o_227 f_12_213 (sh_12 _) (by decide) (pp_12_93 _ _)) <| Eq.trans (e_iload_n D227_219 rfl rfl) <| e_iald D227_220 rfl (al_114 _) g1
theorem b227_221 {d : Nat} {i0 is0 : Nat} {x1 x2 x3 xs2 xs1 : Int} {I L : Nat → Nat → Nat → Int} {t : Nat → Nat} (g1 : 0 ≤ x2 ∧ x2 < 4) : Res d 227 221 [vr 12 i0, vi x1, vi x2, vi x3] [vi xs2, vi xs1, vr 12 is0] (mk I L t) = if ¬ I 72 i0 x2.toNat = -1 then Res d 227 235 [vr 12 i0, vi x1, vi x2, vi x3] [vi xs2, vi xs1, vr 12 is0] (mk I L t) else Res d 227 231 [vr 12 i0, vi x1, vi x2, vi x3] [vi xs2, vi xs1, vr 12 is0] (mk I L t) :=
  Eq.trans (e_aload_n D227_221 rfl rfl) <| Eq.trans (e_getP (p := (72, i0)) D227_222 rfl o_227 f_12_83 (sh_12 _) (by decide) (pp_12_30 _ _)) <| Eq.trans (e_iload_n D227_225 rfl rfl) <| Eq.trans (e_iald D227_226 rfl (al_72 _) g1) <| Eq.trans (e_iconst (x := -1) D227_227 rfl rfl) <| e_icne D227_228 rfl rfl
theorem b227_231 {d : Nat} {i0 is0 : Nat} {x1 x2 x3 xs2 xs1 : Int} {I L : Nat → Nat → Nat → Int} {t : Nat → Nat} : Res d 227 231 [vr 12 i0, vi x1, vi x2, vi x3] [vi xs2, vi xs1, vr 12 is0] (mk I L t) = Res d 227 241 [vr 12 i0, vi x1, vi x2, vi x3] [vi 0, vi xs2, vi xs1, vr 12 is0] (mk I L t) :=
  Eq.trans (e_iconst (x := 0) D227_231 rfl rfl) <| e_goto (q1 := 241) D227_232 rfl
theorem b227_235 {d : Nat} {i0 is0 : Nat} {x1 x2 x3 xs2 xs1 : Int} {I L : Nat → Nat → Nat → Int} {t : Nat → Nat} (g1 : 0 ≤ x2 ∧ x2 < 4) : Res d 227 235 [vr 12 i0, vi x1, vi x2, vi x3] [vi xs2, vi xs1, vr 12 is0] (mk I L t) = Res d 227 241 [vr 12 i0, vi x1, vi x2, vi x3] [vi (I 72 i0 x2.toNat), vi xs2, vi xs1, vr 12 is0] (mk I L t) :=
  Eq.trans (e_aload_n D227_235 rfl rfl) <| Eq.trans (e_getP (p := (72, i0)) D227_236 rfl o_227 f_12_83 (sh_12 _) (by decide) (pp_12_30 _ _)) <| Eq.trans (e_iload_n D227_239 rfl rfl) <| e_iald D227_240 rfl (al_72 _) g1
theorem b227_241 {d : Nat} {i0 is0 : Nat} {x1 x2 x3 xs3 xs2 xs1 : Int} {I L : Nat → Nat → Nat → Int} {t : Nat → Nat} : Res (d + 1) 227 241 [vr 12 i0, vi x1, vi x2, vi x3] [vi xs3, vi xs2, vi xs1, vr 12 is0] (mk I L t) = (Cal d 193 [vr 12 is0, vi xs1, vi xs2, vi xs3] (mk I L t)).bind fun v => Res (d + 1) 227 244 [vr 12 i0, vi x1, vi x2, vi x3] (psh 193 v.1 []) v.2 :=
  e_callV D227_241 rfl o_227 m_12_478 (by decide) rfl rfl
theorem b227_244 {d : Nat} {i0 : Nat} {x1 x2 x3 : Int} {I L : Nat → Nat → Nat → Int} {t : Nat → Nat} : Res d 227 244 [vr 12 i0, vi x1, vi x2, vi x3] [] (mk I L t) = some (vx, (mk I L t)) :=
  e_vret D227_244 rfl
/-! m_comes -/
theorem cc_228 : cod 228 = cX12_comes := rfl
theorem D228_0 : decode (cod 228) 0 = .ok (.iload_n 2, 1) := by rw [cc_228]; decide +kernel
theorem D228_1 : decode (cod 228) 1 = .ok (.iconst 3, 1) := by rw [cc_228]; decide +kernel
theorem D228_2 : decode (cod 228) 2 = .ok (.if_icmp .ne 11, 3) := by rw [cc_228]; decide +kernel
theorem D228_5 : decode (cod 228) 5 = .ok (.aload_n 0, 1) := by rw [cc_228]; decide +kernel
theorem D228_6 : decode (cod 228) 6 = .ok (.getfield 105, 3) := by rw [cc_228]; decide +kernel
theorem D228_9 : decode (cod 228) 9 = .ok (.bipush 9, 2) := by rw [cc_228]; decide +kernel
theorem D228_11 : decode (cod 228) 11 = .ok (.iaload, 1) := by rw [cc_228]; decide +kernel
theorem D228_12 : decode (cod 228) 12 = .ok (.ireturn, 1) := by rw [cc_228]; decide +kernel
theorem D228_13 : decode (cod 228) 13 = .ok (.iconst 0, 1) := by rw [cc_228]; decide +kernel
theorem D228_14 : decode (cod 228) 14 = .ok (.istore_n 3, 1) := by rw [cc_228]; decide +kernel
theorem D228_15 : decode (cod 228) 15 = .ok (.iconst 0, 1) := by rw [cc_228]; decide +kernel
theorem D228_16 : decode (cod 228) 16 = .ok (.istore 4, 2) := by rw [cc_228]; decide +kernel
theorem D228_18 : decode (cod 228) 18 = .ok (.iload 4, 2) := by rw [cc_228]; decide +kernel
theorem D228_20 : decode (cod 228) 20 = .ok (.aload_n 0, 1) := by rw [cc_228]; decide +kernel
theorem D228_21 : decode (cod 228) 21 = .ok (.getfield 236, 3) := by rw [cc_228]; decide +kernel
theorem D228_24 : decode (cod 228) 24 = .ok (.if_icmp .ge 81, 3) := by rw [cc_228]; decide +kernel
theorem D228_27 : decode (cod 228) 27 = .ok (.aload_n 0, 1) := by rw [cc_228]; decide +kernel
theorem D228_28 : decode (cod 228) 28 = .ok (.getfield 28, 3) := by rw [cc_228]; decide +kernel
theorem D228_31 : decode (cod 228) 31 = .ok (.iload 4, 2) := by rw [cc_228]; decide +kernel
theorem D228_33 : decode (cod 228) 33 = .ok (.iaload, 1) := by rw [cc_228]; decide +kernel
theorem D228_34 : decode (cod 228) 34 = .ok (.iconst (-1), 1) := by rw [cc_228]; decide +kernel
theorem D228_35 : decode (cod 228) 35 = .ok (.if_icmp .ne 6, 3) := by rw [cc_228]; decide +kernel
theorem D228_38 : decode (cod 228) 38 = .ok (.goto 61, 3) := by rw [cc_228]; decide +kernel
theorem D228_41 : decode (cod 228) 41 = .ok (.aload_n 0, 1) := by rw [cc_228]; decide +kernel
theorem D228_42 : decode (cod 228) 42 = .ok (.getfield 28, 3) := by rw [cc_228]; decide +kernel
theorem D228_45 : decode (cod 228) 45 = .ok (.iload 4, 2) := by rw [cc_228]; decide +kernel
theorem D228_47 : decode (cod 228) 47 = .ok (.iaload, 1) := by rw [cc_228]; decide +kernel
theorem D228_48 : decode (cod 228) 48 = .ok (.aload_n 0, 1) := by rw [cc_228]; decide +kernel
theorem D228_49 : decode (cod 228) 49 = .ok (.getfield 192, 3) := by rw [cc_228]; decide +kernel
theorem D228_52 : decode (cod 228) 52 = .ok (.iload_n 1, 1) := by rw [cc_228]; decide +kernel
theorem D228_53 : decode (cod 228) 53 = .ok (.iaload, 1) := by rw [cc_228]; decide +kernel
theorem D228_54 : decode (cod 228) 54 = .ok (.if_icmp .ne 7, 3) := by rw [cc_228]; decide +kernel
theorem D228_57 : decode (cod 228) 57 = .ok (.iconst 0, 1) := by rw [cc_228]; decide +kernel
theorem D228_58 : decode (cod 228) 58 = .ok (.goto 19, 3) := by rw [cc_228]; decide +kernel
theorem D228_61 : decode (cod 228) 61 = .ok (.iload 4, 2) := by rw [cc_228]; decide +kernel
theorem D228_63 : decode (cod 228) 63 = .ok (.aload_n 0, 1) := by rw [cc_228]; decide +kernel
theorem D228_64 : decode (cod 228) 64 = .ok (.getfield 213, 3) := by rw [cc_228]; decide +kernel
theorem D228_67 : decode (cod 228) 67 = .ok (.iload_n 1, 1) := by rw [cc_228]; decide +kernel
theorem D228_68 : decode (cod 228) 68 = .ok (.iaload, 1) := by rw [cc_228]; decide +kernel
theorem D228_69 : decode (cod 228) 69 = .ok (.if_icmp .ne 7, 3) := by rw [cc_228]; decide +kernel
theorem D228_72 : decode (cod 228) 72 = .ok (.iconst 1, 1) := by rw [cc_228]; decide +kernel
theorem D228_73 : decode (cod 228) 73 = .ok (.goto 4, 3) := by rw [cc_228]; decide +kernel
theorem D228_76 : decode (cod 228) 76 = .ok (.iconst 2, 1) := by rw [cc_228]; decide +kernel
theorem D228_77 : decode (cod 228) 77 = .ok (.istore 5, 2) := by rw [cc_228]; decide +kernel
theorem D228_79 : decode (cod 228) 79 = .ok (.iload_n 3, 1) := by rw [cc_228]; decide +kernel
theorem D228_80 : decode (cod 228) 80 = .ok (.iload 5, 2) := by rw [cc_228]; decide +kernel
theorem D228_82 : decode (cod 228) 82 = .ok (.iload_n 2, 1) := by rw [cc_228]; decide +kernel
theorem D228_83 : decode (cod 228) 83 = .ok (.if_icmp .ne 13, 3) := by rw [cc_228]; decide +kernel
theorem D228_86 : decode (cod 228) 86 = .ok (.aload_n 0, 1) := by rw [cc_228]; decide +kernel
theorem D228_87 : decode (cod 228) 87 = .ok (.getfield 105, 3) := by rw [cc_228]; decide +kernel
theorem D228_90 : decode (cod 228) 90 = .ok (.iload 4, 2) := by rw [cc_228]; decide +kernel
theorem D228_92 : decode (cod 228) 92 = .ok (.iaload, 1) := by rw [cc_228]; decide +kernel
theorem D228_93 : decode (cod 228) 93 = .ok (.goto 4, 3) := by rw [cc_228]; decide +kernel
theorem D228_96 : decode (cod 228) 96 = .ok (.iconst 0, 1) := by rw [cc_228]; decide +kernel
theorem D228_97 : decode (cod 228) 97 = .ok (.iadd, 1) := by rw [cc_228]; decide +kernel
theorem D228_98 : decode (cod 228) 98 = .ok (.istore_n 3, 1) := by rw [cc_228]; decide +kernel
theorem D228_99 : decode (cod 228) 99 = .ok (.iinc 4 1, 3) := by rw [cc_228]; decide +kernel
theorem D228_102 : decode (cod 228) 102 = .ok (.goto (-84), 3) := by rw [cc_228]; decide +kernel
theorem D228_105 : decode (cod 228) 105 = .ok (.iload_n 3, 1) := by rw [cc_228]; decide +kernel
theorem D228_106 : decode (cod 228) 106 = .ok (.ireturn, 1) := by rw [cc_228]; decide +kernel
theorem b228_0 {d : Nat} {i0 : Nat} {x1 x2 : Int} {I L : Nat → Nat → Nat → Int} {t : Nat → Nat} : Res d 228 0 [vr 12 i0, vi x1, vi x2, vx, vx, vx] [] (mk I L t) = if ¬ x2 = 3 then Res d 228 13 [vr 12 i0, vi x1, vi x2, vx, vx, vx] [] (mk I L t) else Res d 228 5 [vr 12 i0, vi x1, vi x2, vx, vx, vx] [] (mk I L t) :=
  Eq.trans (e_iload_n D228_0 rfl rfl) <| Eq.trans (e_iconst (x := 3) D228_1 rfl rfl) <| e_icne D228_2 rfl rfl
theorem b228_5 {d : Nat} {i0 : Nat} {x1 x2 : Int} {I L : Nat → Nat → Nat → Int} {t : Nat → Nat} : Res d 228 5 [vr 12 i0, vi x1, vi x2, vx, vx, vx] [] (mk I L t) = some (vi (I 78 i0 9), (mk I L t)) :=
  Eq.trans (e_aload_n D228_5 rfl rfl) <| Eq.trans (e_getP (p := (78, i0)) D228_6 rfl o_228 f_12_105 (sh_12 _) (by decide) (pp_12_56 _ _)) <| Eq.trans (e_bipush (x := 9) D228_9 rfl rfl) <| Eq.trans (e_iald D228_11 rfl (al_78 _) (by decide)) <| e_iret D228_12 rfl
theorem b228_13 {d : Nat} {i0 : Nat} {x1 x2 : Int} {I L : Nat → Nat → Nat → Int} {t : Nat → Nat} : Res d 228 13 [vr 12 i0, vi x1, vi x2, vx, vx, vx] [] (mk I L t) = Res d 228 18 [vr 12 i0, vi x1, vi x2, vi 0, vi 0, vx] [] (mk I L t) :=
  Eq.trans (e_iconst (x := 0) D228_13 rfl rfl) <| Eq.trans (e_istore_n (ls1 := [vr 12 i0, vi x1, vi x2, vi 0, vx, vx]) D228_14 rfl (show 3 < 6 by decide) rfl) <| Eq.trans (e_iconst (x := 0) D228_15 rfl rfl) <| e_istore (ls1 := [vr 12 i0, vi x1, vi x2, vi 0, vi 0, vx]) D228_16 rfl (show 4 < 6 by decide) rfl
theorem b228_18 {d : Nat} {i0 : Nat} {x1 x2 x3 x4 : Int} {u5 : MV} {I L : Nat → Nat → Nat → Int} {t : Nat → Nat} : Res d 228 18 [vr 12 i0, vi x1, vi x2, vi x3, vi x4, u5] [] (mk I L t) = if I 12 i0 12 ≤ x4 then Res d 228 105 [vr 12 i0, vi x1, vi x2, vi x3, vi x4, u5] [] (mk I L t) else Res d 228 27 [vr 12 i0, vi x1, vi x2, vi x3, vi x4, u5] [] (mk I L t) :=
  Eq.trans (e_iload D228_18 rfl rfl) <| Eq.trans (e_aload_n D228_20 rfl rfl) <| Eq.trans (e_getI D228_21 rfl o_228 f_12_236 (sh_12 _) (by decide)) <| e_icge D228_24 rfl rfl
theorem b228_27 {d : Nat} {i0 : Nat} {x1 x2 x3 x4 : Int} {u5 : MV} {I L : Nat → Nat → Nat → Int} {t : Nat → Nat} (g1 : 0 ≤ x4 ∧ x4 < 9) : Res d 228 27 [vr 12 i0, vi x1, vi x2, vi x3, vi x4, u5] [] (mk I L t) = if ¬ I 54 i0 x4.toNat = -1 then Res d 228 41 [vr 12 i0, vi x1, vi x2, vi x3, vi x4, u5] [] (mk I L t) else Res d 228 38 [vr 12 i0, vi x1, vi x2, vi x3, vi x4, u5] [] (mk I L t) :=
  Eq.trans (e_aload_n D228_27 rfl rfl) <| Eq.trans (e_getP (p := (54, i0)) D228_28 rfl o_228 f_12_28 (sh_12 _) (by decide) (pp_12_11 _ _)) <| Eq.trans (e_iload D228_31 rfl rfl) <| Eq.trans (e_iald D228_33 rfl (al_54 _) g1) <| Eq.trans (e_iconst (x := -1) D228_34 rfl rfl) <| e_icne D228_35 rfl rfl
theorem b228_38 {d : Nat} {i0 : Nat} {x1 x2 x3 x4 : Int} {u5 : MV} {I L : Nat → Nat → Nat → Int} {t : Nat → Nat} : Res d 228 38 [vr 12 i0, vi x1, vi x2, vi x3, vi x4, u5] [] (mk I L t) = Res d 228 99 [vr 12 i0, vi x1, vi x2, vi x3, vi x4, u5] [] (mk I L t) :=
  e_goto (q1 := 99) D228_38 rfl
theorem b228_41 {d : Nat} {i0 : Nat} {x1 x2 x3 x4 : Int} {u5 : MV} {I L : Nat → Nat → Nat → Int} {t : Nat → Nat} (g1 : 0 ≤ x4 ∧ x4 < 9) (g2 : 0 ≤ x1 ∧ x1 < 40) : Res d 228 41 [vr 12 i0, vi x1, vi x2, vi x3, vi x4, u5] [] (mk I L t) = if ¬ I 54 i0 x4.toNat = I 107 i0 x1.toNat then Res d 228 61 [vr 12 i0, vi x1, vi x2, vi x3, vi x4, u5] [] (mk I L t) else Res d 228 57 [vr 12 i0, vi x1, vi x2, vi x3, vi x4, u5] [] (mk I L t) :=
  Eq.trans (e_aload_n D228_41 rfl rfl) <| Eq.trans (e_getP (p := (54, i0)) D228_42 rfl o_228 f_12_28 (sh_12 _) (by decide) (pp_12_11 _ _)) <| Eq.trans (e_iload D228_45 rfl rfl) <| Eq.trans (e_iald D228_47 rfl (al_54 _) g1) <| Eq.trans (e_aload_n D228_48 rfl rfl) <| Eq.trans (e_getP (p := (107, i0)) D228_49 rfl o_228 f_12_192 (sh_12 _) (by decide) (pp_12_86 _ _)) <| Eq.trans (e_iload_n D228_52 rfl rfl) <| Eq.trans (e_iald D228_53 rfl (al_107 _) g2) <| e_icne D228_54 rfl rfl
theorem b228_57 {d : Nat} {i0 : Nat} {x1 x2 x3 x4 : Int} {u5 : MV} {I L : Nat → Nat → Nat → Int} {t : Nat → Nat} : Res d 228 57 [vr 12 i0, vi x1, vi x2, vi x3, vi x4, u5] [] (mk I L t) = Res d 228 77 [vr 12 i0, vi x1, vi x2, vi x3, vi x4, u5] [vi 0] (mk I L t) :=
  Eq.trans (e_iconst (x := 0) D228_57 rfl rfl) <| e_goto (q1 := 77) D228_58 rfl
theorem b228_61 {d : Nat} {i0 : Nat} {x1 x2 x3 x4 : Int} {u5 : MV} {I L : Nat → Nat → Nat → Int} {t : Nat → Nat} (g1 : 0 ≤ x1 ∧ x1 < 40) : Res d 228 61 [vr 12 i0, vi x1, vi x2, vi x3, vi x4, u5] [] (mk I L t) = if ¬ x4 = I 114 i0 x1.toNat then Res d 228 76 [vr 12 i0, vi x1, vi x2, vi x3, vi x4, u5] [] (mk I L t) else Res d 228 72 [vr 12 i0, vi x1, vi x2, vi x3, vi x4, u5] [] (mk I L t) :=
  Eq.trans (e_iload D228_61 rfl rfl) <| Eq.trans (e_aload_n D228_63 rfl rfl) <| Eq.trans (e_getP (p := (114, i0)) D228_64 rfl o_228 f_12_213 (sh_12 _) (by decide) (pp_12_93 _ _)) <| Eq.trans (e_iload_n D228_67 rfl rfl) <| Eq.trans (e_iald D228_68 rfl (al_114 _) g1) <| e_icne D228_69 rfl rfl
theorem b228_72 {d : Nat} {i0 : Nat} {x1 x2 x3 x4 : Int} {u5 : MV} {I L : Nat → Nat → Nat → Int} {t : Nat → Nat} : Res d 228 72 [vr 12 i0, vi x1, vi x2, vi x3, vi x4, u5] [] (mk I L t) = Res d 228 77 [vr 12 i0, vi x1, vi x2, vi x3, vi x4, u5] [vi 1] (mk I L t) :=
  Eq.trans (e_iconst (x := 1) D228_72 rfl rfl) <| e_goto (q1 := 77) D228_73 rfl
theorem b228_76 {d : Nat} {i0 : Nat} {x1 x2 x3 x4 : Int} {u5 : MV} {I L : Nat → Nat → Nat → Int} {t : Nat → Nat} : Res d 228 76 [vr 12 i0, vi x1, vi x2, vi x3, vi x4, u5] [] (mk I L t) = Res d 228 77 [vr 12 i0, vi x1, vi x2, vi x3, vi x4, u5] [vi 2] (mk I L t) :=
  e_iconst (x := 2) D228_76 rfl rfl
theorem b228_77 {d : Nat} {i0 : Nat} {x1 x2 x3 x4 xs0 : Int} {u5 : MV} {I L : Nat → Nat → Nat → Int} {t : Nat → Nat} : Res d 228 77 [vr 12 i0, vi x1, vi x2, vi x3, vi x4, u5] [vi xs0] (mk I L t) = if ¬ xs0 = x2 then Res d 228 96 [vr 12 i0, vi x1, vi x2, vi x3, vi x4, vi xs0] [vi x3] (mk I L t) else Res d 228 86 [vr 12 i0, vi x1, vi x2, vi x3, vi x4, vi xs0] [vi x3] (mk I L t) :=
  Eq.trans (e_istore (ls1 := [vr 12 i0, vi x1, vi x2, vi x3, vi x4, vi xs0]) D228_77 rfl (show 5 < 6 by decide) rfl) <| Eq.trans (e_iload_n D228_79 rfl rfl) <| Eq.trans (e_iload D228_80 rfl rfl) <| Eq.trans (e_iload_n D228_82 rfl rfl) <| e_icne D228_83 rfl rfl
theorem b228_86 {d : Nat} {i0 : Nat} {x1 x2 x3 x4 x5 xs0 : Int} {I L : Nat → Nat → Nat → Int} {t : Nat → Nat} (g1 : 0 ≤ x4 ∧ x4 < 10) : Res d 228 86 [vr 12 i0, vi x1, vi x2, vi x3, vi x4, vi x5] [vi xs0] (mk I L t) = Res d 228 97 [vr 12 i0, vi x1, vi x2, vi x3, vi x4, vi x5] [vi (I 78 i0 x4.toNat), vi xs0] (mk I L t) :=
  Eq.trans (e_aload_n D228_86 rfl rfl) <| Eq.trans (e_getP (p := (78, i0)) D228_87 rfl o_228 f_12_105 (sh_12 _) (by decide) (pp_12_56 _ _)) <| Eq.trans (e_iload D228_90 rfl rfl) <| Eq.trans (e_iald D228_92 rfl (al_78 _) g1) <| e_goto (q1 := 97) D228_93 rfl
theorem b228_96 {d : Nat} {i0 : Nat} {x1 x2 x3 x4 x5 xs0 : Int} {I L : Nat → Nat → Nat → Int} {t : Nat → Nat} : Res d 228 96 [vr 12 i0, vi x1, vi x2, vi x3, vi x4, vi x5] [vi xs0] (mk I L t) = Res d 228 97 [vr 12 i0, vi x1, vi x2, vi x3, vi x4, vi x5] [vi 0, vi xs0] (mk I L t) :=
  e_iconst (x := 0) D228_96 rfl rfl
theorem b228_97 {d : Nat} {i0 : Nat} {x1 x2 x3 x4 x5 xs1 xs0 : Int} {I L : Nat → Nat → Nat → Int} {t : Nat → Nat} : Res d 228 97 [vr 12 i0, vi x1, vi x2, vi x3, vi x4, vi x5] [vi xs1, vi xs0] (mk I L t) = Res d 228 99 [vr 12 i0, vi x1, vi x2, vi (w32 (xs0 + xs1)), vi x4, vi x5] [] (mk I L t) :=
  Eq.trans (e_iadd D228_97 rfl) <| e_istore_n (ls1 := [vr 12 i0, vi x1, vi x2, vi (w32 (xs0 + xs1)), vi x4, vi x5]) D228_98 rfl (show 3 < 6 by decide) rfl
theorem b228_99 {d : Nat} {i0 : Nat} {x1 x2 x3 x4 : Int} {u5 : MV} {I L : Nat → Nat → Nat → Int} {t : Nat → Nat} : Res d 228 99 [vr 12 i0, vi x1, vi x2, vi x3, vi x4, u5] [] (mk I L t) = Res d 228 18 [vr 12 i0, vi x1, vi x2, vi x3, vi (w32 (x4 + 1)), u5] [] (mk I L t) :=
  Eq.trans (e_iinc (ls1 := [vr 12 i0, vi x1, vi x2, vi x3, vi (w32 (x4 + 1)), u5]) D228_99 rfl rfl rfl) <| e_goto (q1 := 18) D228_102 rfl
theorem b228_105 {d : Nat} {i0 : Nat} {x1 x2 x3 x4 : Int} {u5 : MV} {I L : Nat → Nat → Nat → Int} {t : Nat → Nat} : Res d 228 105 [vr 12 i0, vi x1, vi x2, vi x3, vi x4, u5] [] (mk I L t) = some (vi x3, (mk I L t)) :=
  Eq.trans (e_iload_n D228_105 rfl rfl) <| e_iret D228_106 rfl
/-! m_isWay -/
theorem cc_229 : cod 229 = cX12_isWay := rfl
theorem D229_0 : decode (cod 229) 0 = .ok (.iload_n 0, 1) := by rw [cc_229]; decide +kernel
theorem D229_1 : decode (cod 229) 1 = .ok (.iconst 0, 1) := by rw [cc_229]; decide +kernel
theorem D229_2 : decode (cod 229) 2 = .ok (.iconst 3, 1) := by rw [cc_229]; decide +kernel
theorem D229_3 : decode (cod 229) 3 = .ok (.invokestatic 219, 3) := by rw [cc_229]; decide +kernel
theorem D229_6 : decode (cod 229) 6 = .ok (.ireturn, 1) := by rw [cc_229]; decide +kernel
theorem b229_0 {d : Nat} {x0 : Int} {I L : Nat → Nat → Nat → Int} {t : Nat → Nat} : Res (d + 1) 229 0 [vi x0] [] (mk I L t) = (Cal d 146 [vi x0, vi 0, vi 3] (mk I L t)).bind fun v => Res (d + 1) 229 6 [vi x0] (psh 146 v.1 []) v.2 :=
  Eq.trans (e_iload_n D229_0 rfl rfl) <| Eq.trans (e_iconst (x := 0) D229_1 rfl rfl) <| Eq.trans (e_iconst (x := 3) D229_2 rfl rfl) <| e_callS D229_3 rfl o_229 m_12_219 (by decide) rfl rfl
theorem b229_6 {d : Nat} {x0 xs0 : Int} {I L : Nat → Nat → Nat → Int} {t : Nat → Nat} (g1 : xs0 = 0 ∨ xs0 = 1) : Res d 229 6 [vi x0] [vi xs0] (mk I L t) = some (vi xs0, (mk I L t)) :=
  e_iret D229_6 (nrz rfl g1)
/-! m_tried -/
theorem cc_230 : cod 230 = cX12_tried := rfl
theorem D230_0 : decode (cod 230) 0 = .ok (.iload_n 1, 1) := by rw [cc_230]; decide +kernel
theorem D230_1 : decode (cod 230) 1 = .ok (.iconst 0, 1) := by rw [cc_230]; decide +kernel
theorem D230_2 : decode (cod 230) 2 = .ok (.aload_n 0, 1) := by rw [cc_230]; decide +kernel
theorem D230_3 : decode (cod 230) 3 = .ok (.getfield 527, 3) := by rw [cc_230]; decide +kernel
theorem D230_6 : decode (cod 230) 6 = .ok (.iconst 1, 1) := by rw [cc_230]; decide +kernel
theorem D230_7 : decode (cod 230) 7 = .ok (.isub, 1) := by rw [cc_230]; decide +kernel
theorem D230_8 : decode (cod 230) 8 = .ok (.invokestatic 219, 3) := by rw [cc_230]; decide +kernel
theorem D230_11 : decode (cod 230) 11 = .ok (.ifCond .eq 19, 3) := by rw [cc_230]; decide +kernel
theorem D230_14 : decode (cod 230) 14 = .ok (.iload_n 2, 1) := by rw [cc_230]; decide +kernel
theorem D230_15 : decode (cod 230) 15 = .ok (.invokestatic 530, 3) := by rw [cc_230]; decide +kernel
theorem D230_18 : decode (cod 230) 18 = .ok (.ifCond .eq 12, 3) := by rw [cc_230]; decide +kernel
theorem D230_21 : decode (cod 230) 21 = .ok (.iload_n 3, 1) := by rw [cc_230]; decide +kernel
theorem D230_22 : decode (cod 230) 22 = .ok (.iconst 0, 1) := by rw [cc_230]; decide +kernel
theorem D230_23 : decode (cod 230) 23 = .ok (.iconst 3, 1) := by rw [cc_230]; decide +kernel
theorem D230_24 : decode (cod 230) 24 = .ok (.invokestatic 219, 3) := by rw [cc_230]; decide +kernel
theorem D230_27 : decode (cod 230) 27 = .ok (.ifCond .ne 5, 3) := by rw [cc_230]; decide +kernel
theorem D230_30 : decode (cod 230) 30 = .ok (.iconst (-1), 1) := by rw [cc_230]; decide +kernel
theorem D230_31 : decode (cod 230) 31 = .ok (.ireturn, 1) := by rw [cc_230]; decide +kernel
theorem D230_32 : decode (cod 230) 32 = .ok (.aload_n 0, 1) := by rw [cc_230]; decide +kernel
theorem D230_33 : decode (cod 230) 33 = .ok (.iload_n 1, 1) := by rw [cc_230]; decide +kernel
theorem D230_34 : decode (cod 230) 34 = .ok (.iload_n 2, 1) := by rw [cc_230]; decide +kernel
theorem D230_35 : decode (cod 230) 35 = .ok (.invokevirtual 533, 3) := by rw [cc_230]; decide +kernel
theorem D230_38 : decode (cod 230) 38 = .ok (.aload_n 0, 1) := by rw [cc_230]; decide +kernel
theorem D230_39 : decode (cod 230) 39 = .ok (.iload_n 1, 1) := by rw [cc_230]; decide +kernel
theorem D230_40 : decode (cod 230) 40 = .ok (.iload_n 3, 1) := by rw [cc_230]; decide +kernel
theorem D230_41 : decode (cod 230) 41 = .ok (.invokevirtual 536, 3) := by rw [cc_230]; decide +kernel
theorem D230_44 : decode (cod 230) 44 = .ok (.ireturn, 1) := by rw [cc_230]; decide +kernel
theorem b230_0 {d : Nat} {i0 : Nat} {x1 x2 x3 : Int} {I L : Nat → Nat → Nat → Int} {t : Nat → Nat} : Res (d + 1) 230 0 [vr 12 i0, vi x1, vi x2, vi x3] [] (mk I L t) = (Cal d 146 [vi x1, vi 0, vi (w32 ((I 12 i0 4) - 1))] (mk I L t)).bind fun v => Res (d + 1) 230 11 [vr 12 i0, vi x1, vi x2, vi x3] (psh 146 v.1 []) v.2 :=
  Eq.trans (e_iload_n D230_0 rfl rfl) <| Eq.trans (e_iconst (x := 0) D230_1 rfl rfl) <| Eq.trans (e_aload_n D230_2 rfl rfl) <| Eq.trans (e_getI D230_3 rfl o_230 f_12_527 (sh_12 _) (by decide)) <| Eq.trans (e_iconst (x := 1) D230_6 rfl rfl) <| Eq.trans (e_isub D230_7 rfl) <| e_callS D230_8 rfl o_230 m_12_219 (by decide) rfl rfl
theorem b230_11 {d : Nat} {i0 : Nat} {x1 x2 x3 xs0 : Int} {I L : Nat → Nat → Nat → Int} {t : Nat → Nat} : Res d 230 11 [vr 12 i0, vi x1, vi x2, vi x3] [vi xs0] (mk I L t) = if xs0 = 0 then Res d 230 30 [vr 12 i0, vi x1, vi x2, vi x3] [] (mk I L t) else Res d 230 14 [vr 12 i0, vi x1, vi x2, vi x3] [] (mk I L t) :=
  e_ifeq D230_11 rfl rfl
theorem b230_14 {d : Nat} {i0 : Nat} {x1 x2 x3 : Int} {I L : Nat → Nat → Nat → Int} {t : Nat → Nat} : Res (d + 1) 230 14 [vr 12 i0, vi x1, vi x2, vi x3] [] (mk I L t) = (Cal d 229 [vi x2] (mk I L t)).bind fun v => Res (d + 1) 230 18 [vr 12 i0, vi x1, vi x2, vi x3] (psh 229 v.1 []) v.2 :=
  Eq.trans (e_iload_n D230_14 rfl rfl) <| e_callS D230_15 rfl o_230 m_12_530 (by decide) rfl rfl
theorem b230_18 {d : Nat} {i0 : Nat} {x1 x2 x3 xs0 : Int} {I L : Nat → Nat → Nat → Int} {t : Nat → Nat} : Res d 230 18 [vr 12 i0, vi x1, vi x2, vi x3] [vi xs0] (mk I L t) = if xs0 = 0 then Res d 230 30 [vr 12 i0, vi x1, vi x2, vi x3] [] (mk I L t) else Res d 230 21 [vr 12 i0, vi x1, vi x2, vi x3] [] (mk I L t) :=
  e_ifeq D230_18 rfl rfl
theorem b230_21 {d : Nat} {i0 : Nat} {x1 x2 x3 : Int} {I L : Nat → Nat → Nat → Int} {t : Nat → Nat} : Res (d + 1) 230 21 [vr 12 i0, vi x1, vi x2, vi x3] [] (mk I L t) = (Cal d 146 [vi x3, vi 0, vi 3] (mk I L t)).bind fun v => Res (d + 1) 230 27 [vr 12 i0, vi x1, vi x2, vi x3] (psh 146 v.1 []) v.2 :=
  Eq.trans (e_iload_n D230_21 rfl rfl) <| Eq.trans (e_iconst (x := 0) D230_22 rfl rfl) <| Eq.trans (e_iconst (x := 3) D230_23 rfl rfl) <| e_callS D230_24 rfl o_230 m_12_219 (by decide) rfl rfl
theorem b230_27 {d : Nat} {i0 : Nat} {x1 x2 x3 xs0 : Int} {I L : Nat → Nat → Nat → Int} {t : Nat → Nat} : Res d 230 27 [vr 12 i0, vi x1, vi x2, vi x3] [vi xs0] (mk I L t) = if ¬ xs0 = 0 then Res d 230 32 [vr 12 i0, vi x1, vi x2, vi x3] [] (mk I L t) else Res d 230 30 [vr 12 i0, vi x1, vi x2, vi x3] [] (mk I L t) :=
  e_ifne D230_27 rfl rfl
theorem b230_30 {d : Nat} {i0 : Nat} {x1 x2 x3 : Int} {I L : Nat → Nat → Nat → Int} {t : Nat → Nat} : Res d 230 30 [vr 12 i0, vi x1, vi x2, vi x3] [] (mk I L t) = some (vi (-1), (mk I L t)) :=
  Eq.trans (e_iconst (x := -1) D230_30 rfl rfl) <| e_iret D230_31 rfl
theorem b230_32 {d : Nat} {i0 : Nat} {x1 x2 x3 : Int} {I L : Nat → Nat → Nat → Int} {t : Nat → Nat} : Res (d + 1) 230 32 [vr 12 i0, vi x1, vi x2, vi x3] [] (mk I L t) = (Cal d 227 [vr 12 i0, vi x1, vi x2] (mk I L t)).bind fun v => Res (d + 1) 230 38 [vr 12 i0, vi x1, vi x2, vi x3] (psh 227 v.1 []) v.2 :=
  Eq.trans (e_aload_n D230_32 rfl rfl) <| Eq.trans (e_iload_n D230_33 rfl rfl) <| Eq.trans (e_iload_n D230_34 rfl rfl) <| e_callV D230_35 rfl o_230 m_12_533 (by decide) rfl rfl
theorem b230_38 {d : Nat} {i0 : Nat} {x1 x2 x3 : Int} {I L : Nat → Nat → Nat → Int} {t : Nat → Nat} : Res (d + 1) 230 38 [vr 12 i0, vi x1, vi x2, vi x3] [] (mk I L t) = (Cal d 228 [vr 12 i0, vi x1, vi x3] (mk I L t)).bind fun v => Res (d + 1) 230 44 [vr 12 i0, vi x1, vi x2, vi x3] (psh 228 v.1 []) v.2 :=
  Eq.trans (e_aload_n D230_38 rfl rfl) <| Eq.trans (e_iload_n D230_39 rfl rfl) <| Eq.trans (e_iload_n D230_40 rfl rfl) <| e_callV D230_41 rfl o_230 m_12_536 (by decide) rfl rfl
theorem b230_44 {d : Nat} {i0 : Nat} {x1 x2 x3 xs0 : Int} {I L : Nat → Nat → Nat → Int} {t : Nat → Nat} : Res d 230 44 [vr 12 i0, vi x1, vi x2, vi x3] [vi xs0] (mk I L t) = some (vi xs0, (mk I L t)) :=
  e_iret D230_44 rfl
/-! m_inAll -/
theorem cc_231 : cod 231 = cX12_inAll := rfl
theorem D231_0 : decode (cod 231) 0 = .ok (.lconst 0, 1) := by rw [cc_231]; decide +kernel
theorem D231_1 : decode (cod 231) 1 = .ok (.lstore_n 3, 1) := by rw [cc_231]; decide +kernel
theorem D231_2 : decode (cod 231) 2 = .ok (.iconst 0, 1) := by rw [cc_231]; decide +kernel
theorem D231_3 : decode (cod 231) 3 = .ok (.istore 5, 2) := by rw [cc_231]; decide +kernel
theorem D231_5 : decode (cod 231) 5 = .ok (.iload 5, 2) := by rw [cc_231]; decide +kernel
theorem D231_7 : decode (cod 231) 7 = .ok (.aload_n 0, 1) := by rw [cc_231]; decide +kernel
theorem D231_8 : decode (cod 231) 8 = .ok (.getfield 527, 3) := by rw [cc_231]; decide +kernel
theorem D231_11 : decode (cod 231) 11 = .ok (.if_icmp .ge 27, 3) := by rw [cc_231]; decide +kernel
theorem D231_14 : decode (cod 231) 14 = .ok (.aload_n 0, 1) := by rw [cc_231]; decide +kernel
theorem D231_15 : decode (cod 231) 15 = .ok (.iload 5, 2) := by rw [cc_231]; decide +kernel
theorem D231_17 : decode (cod 231) 17 = .ok (.iload_n 1, 1) := by rw [cc_231]; decide +kernel
theorem D231_18 : decode (cod 231) 18 = .ok (.invokevirtual 533, 3) := by rw [cc_231]; decide +kernel
theorem D231_21 : decode (cod 231) 21 = .ok (.lload_n 3, 1) := by rw [cc_231]; decide +kernel
theorem D231_22 : decode (cod 231) 22 = .ok (.aload_n 0, 1) := by rw [cc_231]; decide +kernel
theorem D231_23 : decode (cod 231) 23 = .ok (.iload 5, 2) := by rw [cc_231]; decide +kernel
theorem D231_25 : decode (cod 231) 25 = .ok (.iload_n 2, 1) := by rw [cc_231]; decide +kernel
theorem D231_26 : decode (cod 231) 26 = .ok (.invokevirtual 536, 3) := by rw [cc_231]; decide +kernel
theorem D231_29 : decode (cod 231) 29 = .ok (.i2l, 1) := by rw [cc_231]; decide +kernel
theorem D231_30 : decode (cod 231) 30 = .ok (.ladd, 1) := by rw [cc_231]; decide +kernel
theorem D231_31 : decode (cod 231) 31 = .ok (.lstore_n 3, 1) := by rw [cc_231]; decide +kernel
theorem D231_32 : decode (cod 231) 32 = .ok (.iinc 5 1, 3) := by rw [cc_231]; decide +kernel
theorem D231_35 : decode (cod 231) 35 = .ok (.goto (-30), 3) := by rw [cc_231]; decide +kernel
theorem D231_38 : decode (cod 231) 38 = .ok (.lload_n 3, 1) := by rw [cc_231]; decide +kernel
theorem D231_39 : decode (cod 231) 39 = .ok (.lreturn, 1) := by rw [cc_231]; decide +kernel
theorem b231_0 {d : Nat} {i0 : Nat} {x1 x2 : Int} {I L : Nat → Nat → Nat → Int} {t : Nat → Nat} : Res d 231 0 [vr 12 i0, vi x1, vi x2, vx, vx, vx] [] (mk I L t) = Res d 231 5 [vr 12 i0, vi x1, vi x2, vl 0, vx, vi 0] [] (mk I L t) :=
  Eq.trans (e_lconst (x := 0) D231_0 rfl rfl) <| Eq.trans (e_lstore_n (ls1 := [vr 12 i0, vi x1, vi x2, vl 0, vx, vx]) D231_1 rfl (show 4 < 6 by decide) rfl) <| Eq.trans (e_iconst (x := 0) D231_2 rfl rfl) <| e_istore (ls1 := [vr 12 i0, vi x1, vi x2, vl 0, vx, vi 0]) D231_3 rfl (show 5 < 6 by decide) rfl
theorem b231_5 {d : Nat} {i0 : Nat} {x1 x2 x3 x5 : Int} {I L : Nat → Nat → Nat → Int} {t : Nat → Nat} : Res d 231 5 [vr 12 i0, vi x1, vi x2, vl x3, vx, vi x5] [] (mk I L t) = if I 12 i0 4 ≤ x5 then Res d 231 38 [vr 12 i0, vi x1, vi x2, vl x3, vx, vi x5] [] (mk I L t) else Res d 231 14 [vr 12 i0, vi x1, vi x2, vl x3, vx, vi x5] [] (mk I L t) :=
  Eq.trans (e_iload D231_5 rfl rfl) <| Eq.trans (e_aload_n D231_7 rfl rfl) <| Eq.trans (e_getI D231_8 rfl o_231 f_12_527 (sh_12 _) (by decide)) <| e_icge D231_11 rfl rfl
theorem b231_14 {d : Nat} {i0 : Nat} {x1 x2 x3 x5 : Int} {I L : Nat → Nat → Nat → Int} {t : Nat → Nat} : Res (d + 1) 231 14 [vr 12 i0, vi x1, vi x2, vl x3, vx, vi x5] [] (mk I L t) = (Cal d 227 [vr 12 i0, vi x5, vi x1] (mk I L t)).bind fun v => Res (d + 1) 231 21 [vr 12 i0, vi x1, vi x2, vl x3, vx, vi x5] (psh 227 v.1 []) v.2 :=
  Eq.trans (e_aload_n D231_14 rfl rfl) <| Eq.trans (e_iload D231_15 rfl rfl) <| Eq.trans (e_iload_n D231_17 rfl rfl) <| e_callV D231_18 rfl o_231 m_12_533 (by decide) rfl rfl
theorem b231_21 {d : Nat} {i0 : Nat} {x1 x2 x3 x5 : Int} {I L : Nat → Nat → Nat → Int} {t : Nat → Nat} : Res (d + 1) 231 21 [vr 12 i0, vi x1, vi x2, vl x3, vx, vi x5] [] (mk I L t) = (Cal d 228 [vr 12 i0, vi x5, vi x2] (mk I L t)).bind fun v => Res (d + 1) 231 29 [vr 12 i0, vi x1, vi x2, vl x3, vx, vi x5] (psh 228 v.1 [vl x3]) v.2 :=
  Eq.trans (e_lload_n D231_21 rfl rfl) <| Eq.trans (e_aload_n D231_22 rfl rfl) <| Eq.trans (e_iload D231_23 rfl rfl) <| Eq.trans (e_iload_n D231_25 rfl rfl) <| e_callV D231_26 rfl o_231 m_12_536 (by decide) rfl rfl
theorem b231_29 {d : Nat} {i0 : Nat} {x1 x2 x3 x5 xs1 xs0 : Int} {I L : Nat → Nat → Nat → Int} {t : Nat → Nat} : Res d 231 29 [vr 12 i0, vi x1, vi x2, vl x3, vx, vi x5] [vi xs1, vl xs0] (mk I L t) = Res d 231 5 [vr 12 i0, vi x1, vi x2, vl (w64 (xs0 + xs1)), vx, vi (w32 (x5 + 1))] [] (mk I L t) :=
  Eq.trans (e_i2l D231_29 rfl) <| Eq.trans (e_ladd D231_30 rfl) <| Eq.trans (e_lstore_n (ls1 := [vr 12 i0, vi x1, vi x2, vl (w64 (xs0 + xs1)), vx, vi x5]) D231_31 rfl (show 4 < 6 by decide) rfl) <| Eq.trans (e_iinc (ls1 := [vr 12 i0, vi x1, vi x2, vl (w64 (xs0 + xs1)), vx, vi (w32 (x5 + 1))]) D231_32 rfl rfl rfl) <| e_goto (q1 := 5) D231_35 rfl
theorem b231_38 {d : Nat} {i0 : Nat} {x1 x2 x3 x5 : Int} {I L : Nat → Nat → Nat → Int} {t : Nat → Nat} : Res d 231 38 [vr 12 i0, vi x1, vi x2, vl x3, vx, vi x5] [] (mk I L t) = some (vl x3, (mk I L t)) :=
  Eq.trans (e_lload_n D231_38 rfl rfl) <| e_lret D231_39 rfl
/-! m_isBettered -/
theorem cc_232 : cod 232 = cX12_isBettered := rfl
theorem D232_0 : decode (cod 232) 0 = .ok (.iconst 0, 1) := by rw [cc_232]; decide +kernel
theorem D232_1 : decode (cod 232) 1 = .ok (.istore_n 2, 1) := by rw [cc_232]; decide +kernel
theorem D232_2 : decode (cod 232) 2 = .ok (.aload_n 0, 1) := by rw [cc_232]; decide +kernel
theorem D232_3 : decode (cod 232) 3 = .ok (.iload_n 1, 1) := by rw [cc_232]; decide +kernel
theorem D232_4 : decode (cod 232) 4 = .ok (.iconst 0, 1) := by rw [cc_232]; decide +kernel
theorem D232_5 : decode (cod 232) 5 = .ok (.invokevirtual 539, 3) := by rw [cc_232]; decide +kernel
theorem D232_8 : decode (cod 232) 8 = .ok (.lstore_n 3, 1) := by rw [cc_232]; decide +kernel
theorem D232_9 : decode (cod 232) 9 = .ok (.aload_n 0, 1) := by rw [cc_232]; decide +kernel
theorem D232_10 : decode (cod 232) 10 = .ok (.iload_n 1, 1) := by rw [cc_232]; decide +kernel
theorem D232_11 : decode (cod 232) 11 = .ok (.iconst 1, 1) := by rw [cc_232]; decide +kernel
theorem D232_12 : decode (cod 232) 12 = .ok (.invokevirtual 539, 3) := by rw [cc_232]; decide +kernel
theorem D232_15 : decode (cod 232) 15 = .ok (.lstore 5, 2) := by rw [cc_232]; decide +kernel
theorem D232_17 : decode (cod 232) 17 = .ok (.iconst 0, 1) := by rw [cc_232]; decide +kernel
theorem D232_18 : decode (cod 232) 18 = .ok (.istore 7, 2) := by rw [cc_232]; decide +kernel
theorem D232_20 : decode (cod 232) 20 = .ok (.iload 7, 2) := by rw [cc_232]; decide +kernel
theorem D232_22 : decode (cod 232) 22 = .ok (.iconst 4, 1) := by rw [cc_232]; decide +kernel
theorem D232_23 : decode (cod 232) 23 = .ok (.if_icmp .ge 73, 3) := by rw [cc_232]; decide +kernel
theorem D232_26 : decode (cod 232) 26 = .ok (.aload_n 0, 1) := by rw [cc_232]; decide +kernel
theorem D232_27 : decode (cod 232) 27 = .ok (.iload 7, 2) := by rw [cc_232]; decide +kernel
theorem D232_29 : decode (cod 232) 29 = .ok (.iconst 0, 1) := by rw [cc_232]; decide +kernel
theorem D232_30 : decode (cod 232) 30 = .ok (.invokevirtual 539, 3) := by rw [cc_232]; decide +kernel
theorem D232_33 : decode (cod 232) 33 = .ok (.lstore 8, 2) := by rw [cc_232]; decide +kernel
theorem D232_35 : decode (cod 232) 35 = .ok (.aload_n 0, 1) := by rw [cc_232]; decide +kernel
theorem D232_36 : decode (cod 232) 36 = .ok (.iload 7, 2) := by rw [cc_232]; decide +kernel
theorem D232_38 : decode (cod 232) 38 = .ok (.iconst 1, 1) := by rw [cc_232]; decide +kernel
theorem D232_39 : decode (cod 232) 39 = .ok (.invokevirtual 539, 3) := by rw [cc_232]; decide +kernel
theorem D232_42 : decode (cod 232) 42 = .ok (.lstore 10, 2) := by rw [cc_232]; decide +kernel
theorem D232_44 : decode (cod 232) 44 = .ok (.iload_n 2, 1) := by rw [cc_232]; decide +kernel
theorem D232_45 : decode (cod 232) 45 = .ok (.ifCond .ne 39, 3) := by rw [cc_232]; decide +kernel
theorem D232_48 : decode (cod 232) 48 = .ok (.iload 7, 2) := by rw [cc_232]; decide +kernel
theorem D232_50 : decode (cod 232) 50 = .ok (.iload_n 1, 1) := by rw [cc_232]; decide +kernel
theorem D232_51 : decode (cod 232) 51 = .ok (.if_icmp .eq 37, 3) := by rw [cc_232]; decide +kernel
theorem D232_54 : decode (cod 232) 54 = .ok (.lload 8, 2) := by rw [cc_232]; decide +kernel
theorem D232_56 : decode (cod 232) 56 = .ok (.lload_n 3, 1) := by rw [cc_232]; decide +kernel
theorem D232_57 : decode (cod 232) 57 = .ok (.lcmp, 1) := by rw [cc_232]; decide +kernel
theorem D232_58 : decode (cod 232) 58 = .ok (.ifCond .lt 30, 3) := by rw [cc_232]; decide +kernel
theorem D232_61 : decode (cod 232) 61 = .ok (.lload 10, 2) := by rw [cc_232]; decide +kernel
theorem D232_63 : decode (cod 232) 63 = .ok (.lload 5, 2) := by rw [cc_232]; decide +kernel
theorem D232_65 : decode (cod 232) 65 = .ok (.lcmp, 1) := by rw [cc_232]; decide +kernel
theorem D232_66 : decode (cod 232) 66 = .ok (.ifCond .gt 22, 3) := by rw [cc_232]; decide +kernel
theorem D232_69 : decode (cod 232) 69 = .ok (.lload 8, 2) := by rw [cc_232]; decide +kernel
theorem D232_71 : decode (cod 232) 71 = .ok (.lload_n 3, 1) := by rw [cc_232]; decide +kernel
theorem D232_72 : decode (cod 232) 72 = .ok (.lcmp, 1) := by rw [cc_232]; decide +kernel
theorem D232_73 : decode (cod 232) 73 = .ok (.ifCond .ne 11, 3) := by rw [cc_232]; decide +kernel
theorem D232_76 : decode (cod 232) 76 = .ok (.lload 10, 2) := by rw [cc_232]; decide +kernel
theorem D232_78 : decode (cod 232) 78 = .ok (.lload 5, 2) := by rw [cc_232]; decide +kernel
theorem D232_80 : decode (cod 232) 80 = .ok (.lcmp, 1) := by rw [cc_232]; decide +kernel
theorem D232_81 : decode (cod 232) 81 = .ok (.ifCond .eq 7, 3) := by rw [cc_232]; decide +kernel
theorem D232_84 : decode (cod 232) 84 = .ok (.iconst 1, 1) := by rw [cc_232]; decide +kernel
theorem D232_85 : decode (cod 232) 85 = .ok (.goto 4, 3) := by rw [cc_232]; decide +kernel
theorem D232_88 : decode (cod 232) 88 = .ok (.iconst 0, 1) := by rw [cc_232]; decide +kernel
theorem D232_89 : decode (cod 232) 89 = .ok (.istore_n 2, 1) := by rw [cc_232]; decide +kernel
theorem D232_90 : decode (cod 232) 90 = .ok (.iinc 7 1, 3) := by rw [cc_232]; decide +kernel
theorem D232_93 : decode (cod 232) 93 = .ok (.goto (-73), 3) := by rw [cc_232]; decide +kernel
theorem D232_96 : decode (cod 232) 96 = .ok (.iload_n 2, 1) := by rw [cc_232]; decide +kernel
theorem D232_97 : decode (cod 232) 97 = .ok (.ireturn, 1) := by rw [cc_232]; decide +kernel
theorem b232_0 {d : Nat} {i0 : Nat} {x1 : Int} {I L : Nat → Nat → Nat → Int} {t : Nat → Nat} : Res (d + 1) 232 0 [vr 12 i0, vi x1, vx, vx, vx, vx, vx, vx, vx, vx, vx, vx] [] (mk I L t) = (Cal d 231 [vr 12 i0, vi x1, vi 0] (mk I L t)).bind fun v => Res (d + 1) 232 8 [vr 12 i0, vi x1, vi 0, vx, vx, vx, vx, vx, vx, vx, vx, vx] (psh 231 v.1 []) v.2 :=
  Eq.trans (e_iconst (x := 0) D232_0 rfl rfl) <| Eq.trans (e_istore_n (ls1 := [vr 12 i0, vi x1, vi 0, vx, vx, vx, vx, vx, vx, vx, vx, vx]) D232_1 rfl (show 2 < 12 by decide) rfl) <| Eq.trans (e_aload_n D232_2 rfl rfl) <| Eq.trans (e_iload_n D232_3 rfl rfl) <| Eq.trans (e_iconst (x := 0) D232_4 rfl rfl) <| e_callV D232_5 rfl o_232 m_12_539 (by decide) rfl rfl
theorem b232_8 {d : Nat} {i0 : Nat} {x1 x2 xs0 : Int} {I L : Nat → Nat → Nat → Int} {t : Nat → Nat} : Res (d + 1) 232 8 [vr 12 i0, vi x1, vi x2, vx, vx, vx, vx, vx, vx, vx, vx, vx] [vl xs0] (mk I L t) = (Cal d 231 [vr 12 i0, vi x1, vi 1] (mk I L t)).bind fun v => Res (d + 1) 232 15 [vr 12 i0, vi x1, vi x2, vl xs0, vx, vx, vx, vx, vx, vx, vx, vx] (psh 231 v.1 []) v.2 :=
  Eq.trans (e_lstore_n (ls1 := [vr 12 i0, vi x1, vi x2, vl xs0, vx, vx, vx, vx, vx, vx, vx, vx]) D232_8 rfl (show 4 < 12 by decide) rfl) <| Eq.trans (e_aload_n D232_9 rfl rfl) <| Eq.trans (e_iload_n D232_10 rfl rfl) <| Eq.trans (e_iconst (x := 1) D232_11 rfl rfl) <| e_callV D232_12 rfl o_232 m_12_539 (by decide) rfl rfl
theorem b232_15 {d : Nat} {i0 : Nat} {x1 x2 x3 xs0 : Int} {I L : Nat → Nat → Nat → Int} {t : Nat → Nat} : Res d 232 15 [vr 12 i0, vi x1, vi x2, vl x3, vx, vx, vx, vx, vx, vx, vx, vx] [vl xs0] (mk I L t) = Res d 232 20 [vr 12 i0, vi x1, vi x2, vl x3, vx, vl xs0, vx, vi 0, vx, vx, vx, vx] [] (mk I L t) :=
  Eq.trans (e_lstore (ls1 := [vr 12 i0, vi x1, vi x2, vl x3, vx, vl xs0, vx, vx, vx, vx, vx, vx]) D232_15 rfl (show 6 < 12 by decide) rfl) <| Eq.trans (e_iconst (x := 0) D232_17 rfl rfl) <| e_istore (ls1 := [vr 12 i0, vi x1, vi x2, vl x3, vx, vl xs0, vx, vi 0, vx, vx, vx, vx]) D232_18 rfl (show 7 < 12 by decide) rfl
theorem b232_20 {d : Nat} {i0 : Nat} {x1 x2 x3 x5 x7 : Int} {u8 u10 : MV} {I L : Nat → Nat → Nat → Int} {t : Nat → Nat} : Res d 232 20 [vr 12 i0, vi x1, vi x2, vl x3, vx, vl x5, vx, vi x7, u8, vx, u10, vx] [] (mk I L t) = if 4 ≤ x7 then Res d 232 96 [vr 12 i0, vi x1, vi x2, vl x3, vx, vl x5, vx, vi x7, u8, vx, u10, vx] [] (mk I L t) else Res d 232 26 [vr 12 i0, vi x1, vi x2, vl x3, vx, vl x5, vx, vi x7, u8, vx, u10, vx] [] (mk I L t) :=
  Eq.trans (e_iload D232_20 rfl rfl) <| Eq.trans (e_iconst (x := 4) D232_22 rfl rfl) <| e_icge D232_23 rfl rfl
theorem b232_26 {d : Nat} {i0 : Nat} {x1 x2 x3 x5 x7 : Int} {u8 u10 : MV} {I L : Nat → Nat → Nat → Int} {t : Nat → Nat} : Res (d + 1) 232 26 [vr 12 i0, vi x1, vi x2, vl x3, vx, vl x5, vx, vi x7, u8, vx, u10, vx] [] (mk I L t) = (Cal d 231 [vr 12 i0, vi x7, vi 0] (mk I L t)).bind fun v => Res (d + 1) 232 33 [vr 12 i0, vi x1, vi x2, vl x3, vx, vl x5, vx, vi x7, u8, vx, u10, vx] (psh 231 v.1 []) v.2 :=
  Eq.trans (e_aload_n D232_26 rfl rfl) <| Eq.trans (e_iload D232_27 rfl rfl) <| Eq.trans (e_iconst (x := 0) D232_29 rfl rfl) <| e_callV D232_30 rfl o_232 m_12_539 (by decide) rfl rfl
theorem b232_33 {d : Nat} {i0 : Nat} {x1 x2 x3 x5 x7 xs0 : Int} {u8 u10 : MV} {I L : Nat → Nat → Nat → Int} {t : Nat → Nat} : Res (d + 1) 232 33 [vr 12 i0, vi x1, vi x2, vl x3, vx, vl x5, vx, vi x7, u8, vx, u10, vx] [vl xs0] (mk I L t) = (Cal d 231 [vr 12 i0, vi x7, vi 1] (mk I L t)).bind fun v => Res (d + 1) 232 42 [vr 12 i0, vi x1, vi x2, vl x3, vx, vl x5, vx, vi x7, vl xs0, vx, u10, vx] (psh 231 v.1 []) v.2 :=
  Eq.trans (e_lstore (ls1 := [vr 12 i0, vi x1, vi x2, vl x3, vx, vl x5, vx, vi x7, vl xs0, vx, u10, vx]) D232_33 rfl (show 9 < 12 by decide) (by rcases u8 with _ | _ | _ | _ <;> rfl)) <| Eq.trans (e_aload_n D232_35 rfl rfl) <| Eq.trans (e_iload D232_36 rfl rfl) <| Eq.trans (e_iconst (x := 1) D232_38 rfl rfl) <| e_callV D232_39 rfl o_232 m_12_539 (by decide) rfl rfl
theorem b232_42 {d : Nat} {i0 : Nat} {x1 x2 x3 x5 x7 x8 xs0 : Int} {u10 : MV} {I L : Nat → Nat → Nat → Int} {t : Nat → Nat} : Res d 232 42 [vr 12 i0, vi x1, vi x2, vl x3, vx, vl x5, vx, vi x7, vl x8, vx, u10, vx] [vl xs0] (mk I L t) = if ¬ x2 = 0 then Res d 232 84 [vr 12 i0, vi x1, vi x2, vl x3, vx, vl x5, vx, vi x7, vl x8, vx, vl xs0, vx] [] (mk I L t) else Res d 232 48 [vr 12 i0, vi x1, vi x2, vl x3, vx, vl x5, vx, vi x7, vl x8, vx, vl xs0, vx] [] (mk I L t) :=
  Eq.trans (e_lstore (ls1 := [vr 12 i0, vi x1, vi x2, vl x3, vx, vl x5, vx, vi x7, vl x8, vx, vl xs0, vx]) D232_42 rfl (show 11 < 12 by decide) (by rcases u10 with _ | _ | _ | _ <;> rfl)) <| Eq.trans (e_iload_n D232_44 rfl rfl) <| e_ifne D232_45 rfl rfl
theorem b232_48 {d : Nat} {i0 : Nat} {x1 x2 x3 x5 x7 x8 x10 : Int} {I L : Nat → Nat → Nat → Int} {t : Nat → Nat} : Res d 232 48 [vr 12 i0, vi x1, vi x2, vl x3, vx, vl x5, vx, vi x7, vl x8, vx, vl x10, vx] [] (mk I L t) = if x7 = x1 then Res d 232 88 [vr 12 i0, vi x1, vi x2, vl x3, vx, vl x5, vx, vi x7, vl x8, vx, vl x10, vx] [] (mk I L t) else Res d 232 54 [vr 12 i0, vi x1, vi x2, vl x3, vx, vl x5, vx, vi x7, vl x8, vx, vl x10, vx] [] (mk I L t) :=
  Eq.trans (e_iload D232_48 rfl rfl) <| Eq.trans (e_iload_n D232_50 rfl rfl) <| e_iceq D232_51 rfl rfl
theorem b232_54 {d : Nat} {i0 : Nat} {x1 x2 x3 x5 x7 x8 x10 : Int} {I L : Nat → Nat → Nat → Int} {t : Nat → Nat} : Res d 232 54 [vr 12 i0, vi x1, vi x2, vl x3, vx, vl x5, vx, vi x7, vl x8, vx, vl x10, vx] [] (mk I L t) = if vLcmp x8 x3 < 0 then Res d 232 88 [vr 12 i0, vi x1, vi x2, vl x3, vx, vl x5, vx, vi x7, vl x8, vx, vl x10, vx] [] (mk I L t) else Res d 232 61 [vr 12 i0, vi x1, vi x2, vl x3, vx, vl x5, vx, vi x7, vl x8, vx, vl x10, vx] [] (mk I L t) :=
  Eq.trans (e_lload D232_54 rfl rfl) <| Eq.trans (e_lload_n D232_56 rfl rfl) <| Eq.trans (e_lcmp D232_57 rfl) <| e_iflt D232_58 rfl rfl
theorem b232_61 {d : Nat} {i0 : Nat} {x1 x2 x3 x5 x7 x8 x10 : Int} {I L : Nat → Nat → Nat → Int} {t : Nat → Nat} : Res d 232 61 [vr 12 i0, vi x1, vi x2, vl x3, vx, vl x5, vx, vi x7, vl x8, vx, vl x10, vx] [] (mk I L t) = if 0 < vLcmp x10 x5 then Res d 232 88 [vr 12 i0, vi x1, vi x2, vl x3, vx, vl x5, vx, vi x7, vl x8, vx, vl x10, vx] [] (mk I L t) else Res d 232 69 [vr 12 i0, vi x1, vi x2, vl x3, vx, vl x5, vx, vi x7, vl x8, vx, vl x10, vx] [] (mk I L t) :=
  Eq.trans (e_lload D232_61 rfl rfl) <| Eq.trans (e_lload D232_63 rfl rfl) <| Eq.trans (e_lcmp D232_65 rfl) <| e_ifgt D232_66 rfl rfl
theorem b232_69 {d : Nat} {i0 : Nat} {x1 x2 x3 x5 x7 x8 x10 : Int} {I L : Nat → Nat → Nat → Int} {t : Nat → Nat} : Res d 232 69 [vr 12 i0, vi x1, vi x2, vl x3, vx, vl x5, vx, vi x7, vl x8, vx, vl x10, vx] [] (mk I L t) = if ¬ vLcmp x8 x3 = 0 then Res d 232 84 [vr 12 i0, vi x1, vi x2, vl x3, vx, vl x5, vx, vi x7, vl x8, vx, vl x10, vx] [] (mk I L t) else Res d 232 76 [vr 12 i0, vi x1, vi x2, vl x3, vx, vl x5, vx, vi x7, vl x8, vx, vl x10, vx] [] (mk I L t) :=
  Eq.trans (e_lload D232_69 rfl rfl) <| Eq.trans (e_lload_n D232_71 rfl rfl) <| Eq.trans (e_lcmp D232_72 rfl) <| e_ifne D232_73 rfl rfl
theorem b232_76 {d : Nat} {i0 : Nat} {x1 x2 x3 x5 x7 x8 x10 : Int} {I L : Nat → Nat → Nat → Int} {t : Nat → Nat} : Res d 232 76 [vr 12 i0, vi x1, vi x2, vl x3, vx, vl x5, vx, vi x7, vl x8, vx, vl x10, vx] [] (mk I L t) = if vLcmp x10 x5 = 0 then Res d 232 88 [vr 12 i0, vi x1, vi x2, vl x3, vx, vl x5, vx, vi x7, vl x8, vx, vl x10, vx] [] (mk I L t) else Res d 232 84 [vr 12 i0, vi x1, vi x2, vl x3, vx, vl x5, vx, vi x7, vl x8, vx, vl x10, vx] [] (mk I L t) :=
  Eq.trans (e_lload D232_76 rfl rfl) <| Eq.trans (e_lload D232_78 rfl rfl) <| Eq.trans (e_lcmp D232_80 rfl) <| e_ifeq D232_81 rfl rfl
theorem b232_84 {d : Nat} {i0 : Nat} {x1 x2 x3 x5 x7 x8 x10 : Int} {I L : Nat → Nat → Nat → Int} {t : Nat → Nat} : Res d 232 84 [vr 12 i0, vi x1, vi x2, vl x3, vx, vl x5, vx, vi x7, vl x8, vx, vl x10, vx] [] (mk I L t) = Res d 232 89 [vr 12 i0, vi x1, vi x2, vl x3, vx, vl x5, vx, vi x7, vl x8, vx, vl x10, vx] [vi 1] (mk I L t) :=
  Eq.trans (e_iconst (x := 1) D232_84 rfl rfl) <| e_goto (q1 := 89) D232_85 rfl
theorem b232_88 {d : Nat} {i0 : Nat} {x1 x2 x3 x5 x7 x8 x10 : Int} {I L : Nat → Nat → Nat → Int} {t : Nat → Nat} : Res d 232 88 [vr 12 i0, vi x1, vi x2, vl x3, vx, vl x5, vx, vi x7, vl x8, vx, vl x10, vx] [] (mk I L t) = Res d 232 89 [vr 12 i0, vi x1, vi x2, vl x3, vx, vl x5, vx, vi x7, vl x8, vx, vl x10, vx] [vi 0] (mk I L t) :=
  e_iconst (x := 0) D232_88 rfl rfl
theorem b232_89 {d : Nat} {i0 : Nat} {x1 x2 x3 x5 x7 x8 x10 xs0 : Int} {I L : Nat → Nat → Nat → Int} {t : Nat → Nat} : Res d 232 89 [vr 12 i0, vi x1, vi x2, vl x3, vx, vl x5, vx, vi x7, vl x8, vx, vl x10, vx] [vi xs0] (mk I L t) = Res d 232 20 [vr 12 i0, vi x1, vi xs0, vl x3, vx, vl x5, vx, vi (w32 (x7 + 1)), vl x8, vx, vl x10, vx] [] (mk I L t) :=
  Eq.trans (e_istore_n (ls1 := [vr 12 i0, vi x1, vi xs0, vl x3, vx, vl x5, vx, vi x7, vl x8, vx, vl x10, vx]) D232_89 rfl (show 2 < 12 by decide) rfl) <| Eq.trans (e_iinc (ls1 := [vr 12 i0, vi x1, vi xs0, vl x3, vx, vl x5, vx, vi (w32 (x7 + 1)), vl x8, vx, vl x10, vx]) D232_90 rfl rfl rfl) <| e_goto (q1 := 20) D232_93 rfl
theorem b232_96 {d : Nat} {i0 : Nat} {x1 x2 x3 x5 x7 : Int} {u8 u10 : MV} {I L : Nat → Nat → Nat → Int} {t : Nat → Nat} (g1 : x2 = 0 ∨ x2 = 1) : Res d 232 96 [vr 12 i0, vi x1, vi x2, vl x3, vx, vl x5, vx, vi x7, u8, vx, u10, vx] [] (mk I L t) = some (vi x2, (mk I L t)) :=
  Eq.trans (e_iload_n D232_96 rfl rfl) <| e_iret D232_97 (nrz rfl g1)
/-! m_worth -/
theorem cc_233 : cod 233 = cX12_worth := rfl
theorem D233_0 : decode (cod 233) 0 = .ok (.lconst 0, 1) := by rw [cc_233]; decide +kernel
theorem D233_1 : decode (cod 233) 1 = .ok (.lstore 4, 2) := by rw [cc_233]; decide +kernel
theorem D233_3 : decode (cod 233) 3 = .ok (.iconst 0, 1) := by rw [cc_233]; decide +kernel
theorem D233_4 : decode (cod 233) 4 = .ok (.istore 6, 2) := by rw [cc_233]; decide +kernel
theorem D233_6 : decode (cod 233) 6 = .ok (.iload 6, 2) := by rw [cc_233]; decide +kernel
theorem D233_8 : decode (cod 233) 8 = .ok (.aload_n 0, 1) := by rw [cc_233]; decide +kernel
theorem D233_9 : decode (cod 233) 9 = .ok (.getfield 527, 3) := by rw [cc_233]; decide +kernel
theorem D233_12 : decode (cod 233) 12 = .ok (.if_icmp .ge 139, 3) := by rw [cc_233]; decide +kernel
theorem D233_15 : decode (cod 233) 15 = .ok (.aload_n 0, 1) := by rw [cc_233]; decide +kernel
theorem D233_16 : decode (cod 233) 16 = .ok (.iload 6, 2) := by rw [cc_233]; decide +kernel
theorem D233_18 : decode (cod 233) 18 = .ok (.iload_n 1, 1) := by rw [cc_233]; decide +kernel
theorem D233_19 : decode (cod 233) 19 = .ok (.invokevirtual 533, 3) := by rw [cc_233]; decide +kernel
theorem D233_22 : decode (cod 233) 22 = .ok (.aload_n 0, 1) := by rw [cc_233]; decide +kernel
theorem D233_23 : decode (cod 233) 23 = .ok (.getfield 96, 3) := by rw [cc_233]; decide +kernel
theorem D233_26 : decode (cod 233) 26 = .ok (.bipush 10, 2) := by rw [cc_233]; decide +kernel
theorem D233_28 : decode (cod 233) 28 = .ok (.aload_n 0, 1) := by rw [cc_233]; decide +kernel
theorem D233_29 : decode (cod 233) 29 = .ok (.getfield 80, 3) := by rw [cc_233]; decide +kernel
theorem D233_32 : decode (cod 233) 32 = .ok (.iload_n 1, 1) := by rw [cc_233]; decide +kernel
theorem D233_33 : decode (cod 233) 33 = .ok (.baload, 1) := by rw [cc_233]; decide +kernel
theorem D233_34 : decode (cod 233) 34 = .ok (.ifCond .eq 7, 3) := by rw [cc_233]; decide +kernel
theorem D233_37 : decode (cod 233) 37 = .ok (.iconst 1, 1) := by rw [cc_233]; decide +kernel
theorem D233_38 : decode (cod 233) 38 = .ok (.goto 4, 3) := by rw [cc_233]; decide +kernel
theorem D233_41 : decode (cod 233) 41 = .ok (.iconst 0, 1) := by rw [cc_233]; decide +kernel
theorem D233_42 : decode (cod 233) 42 = .ok (.iastore, 1) := by rw [cc_233]; decide +kernel
theorem D233_43 : decode (cod 233) 43 = .ok (.iconst 0, 1) := by rw [cc_233]; decide +kernel
theorem D233_44 : decode (cod 233) 44 = .ok (.istore 7, 2) := by rw [cc_233]; decide +kernel
theorem D233_46 : decode (cod 233) 46 = .ok (.iload 7, 2) := by rw [cc_233]; decide +kernel
theorem D233_48 : decode (cod 233) 48 = .ok (.aload_n 0, 1) := by rw [cc_233]; decide +kernel
theorem D233_49 : decode (cod 233) 49 = .ok (.getfield 236, 3) := by rw [cc_233]; decide +kernel
theorem D233_52 : decode (cod 233) 52 = .ok (.if_icmp .ge 93, 3) := by rw [cc_233]; decide +kernel
theorem D233_55 : decode (cod 233) 55 = .ok (.aload_n 0, 1) := by rw [cc_233]; decide +kernel
theorem D233_56 : decode (cod 233) 56 = .ok (.getfield 28, 3) := by rw [cc_233]; decide +kernel
theorem D233_59 : decode (cod 233) 59 = .ok (.iload 7, 2) := by rw [cc_233]; decide +kernel
theorem D233_61 : decode (cod 233) 61 = .ok (.iaload, 1) := by rw [cc_233]; decide +kernel
theorem D233_62 : decode (cod 233) 62 = .ok (.iconst (-1), 1) := by rw [cc_233]; decide +kernel
theorem D233_63 : decode (cod 233) 63 = .ok (.if_icmp .eq 76, 3) := by rw [cc_233]; decide +kernel
theorem D233_66 : decode (cod 233) 66 = .ok (.aload_n 0, 1) := by rw [cc_233]; decide +kernel
theorem D233_67 : decode (cod 233) 67 = .ok (.getfield 28, 3) := by rw [cc_233]; decide +kernel
theorem D233_70 : decode (cod 233) 70 = .ok (.iload 7, 2) := by rw [cc_233]; decide +kernel
theorem D233_72 : decode (cod 233) 72 = .ok (.iaload, 1) := by rw [cc_233]; decide +kernel
theorem D233_73 : decode (cod 233) 73 = .ok (.aload_n 0, 1) := by rw [cc_233]; decide +kernel
theorem D233_74 : decode (cod 233) 74 = .ok (.getfield 192, 3) := by rw [cc_233]; decide +kernel
theorem D233_77 : decode (cod 233) 77 = .ok (.iload 6, 2) := by rw [cc_233]; decide +kernel
theorem D233_79 : decode (cod 233) 79 = .ok (.iaload, 1) := by rw [cc_233]; decide +kernel
theorem D233_80 : decode (cod 233) 80 = .ok (.if_icmp .ne 7, 3) := by rw [cc_233]; decide +kernel
theorem D233_83 : decode (cod 233) 83 = .ok (.iconst 1, 1) := by rw [cc_233]; decide +kernel
theorem D233_84 : decode (cod 233) 84 = .ok (.goto 4, 3) := by rw [cc_233]; decide +kernel
theorem D233_87 : decode (cod 233) 87 = .ok (.iconst 0, 1) := by rw [cc_233]; decide +kernel
theorem D233_88 : decode (cod 233) 88 = .ok (.iload_n 3, 1) := by rw [cc_233]; decide +kernel
theorem D233_89 : decode (cod 233) 89 = .ok (.if_icmp .eq 6, 3) := by rw [cc_233]; decide +kernel
theorem D233_92 : decode (cod 233) 92 = .ok (.goto 47, 3) := by rw [cc_233]; decide +kernel
theorem D233_95 : decode (cod 233) 95 = .ok (.aload_n 0, 1) := by rw [cc_233]; decide +kernel
theorem D233_96 : decode (cod 233) 96 = .ok (.iload 7, 2) := by rw [cc_233]; decide +kernel
theorem D233_98 : decode (cod 233) 98 = .ok (.invokevirtual 487, 3) := by rw [cc_233]; decide +kernel
theorem D233_101 : decode (cod 233) 101 = .ok (.bipush 20, 2) := by rw [cc_233]; decide +kernel
theorem D233_103 : decode (cod 233) 103 = .ok (.idiv, 1) := by rw [cc_233]; decide +kernel
theorem D233_104 : decode (cod 233) 104 = .ok (.istore 8, 2) := by rw [cc_233]; decide +kernel
theorem D233_106 : decode (cod 233) 106 = .ok (.lload 4, 2) := by rw [cc_233]; decide +kernel
theorem D233_108 : decode (cod 233) 108 = .ok (.iload 8, 2) := by rw [cc_233]; decide +kernel
theorem D233_110 : decode (cod 233) 110 = .ok (.iconst 4, 1) := by rw [cc_233]; decide +kernel
theorem D233_111 : decode (cod 233) 111 = .ok (.if_icmp .le 7, 3) := by rw [cc_233]; decide +kernel
theorem D233_114 : decode (cod 233) 114 = .ok (.iconst 4, 1) := by rw [cc_233]; decide +kernel
theorem D233_115 : decode (cod 233) 115 = .ok (.goto 5, 3) := by rw [cc_233]; decide +kernel
theorem D233_118 : decode (cod 233) 118 = .ok (.iload 8, 2) := by rw [cc_233]; decide +kernel
theorem D233_120 : decode (cod 233) 120 = .ok (.iload_n 2, 1) := by rw [cc_233]; decide +kernel
theorem D233_121 : decode (cod 233) 121 = .ok (.if_icmp .ne 14, 3) := by rw [cc_233]; decide +kernel
theorem D233_124 : decode (cod 233) 124 = .ok (.aload_n 0, 1) := by rw [cc_233]; decide +kernel
theorem D233_125 : decode (cod 233) 125 = .ok (.getfield 105, 3) := by rw [cc_233]; decide +kernel
theorem D233_128 : decode (cod 233) 128 = .ok (.iload 7, 2) := by rw [cc_233]; decide +kernel
theorem D233_130 : decode (cod 233) 130 = .ok (.iaload, 1) := by rw [cc_233]; decide +kernel
theorem D233_131 : decode (cod 233) 131 = .ok (.i2l, 1) := by rw [cc_233]; decide +kernel
theorem D233_132 : decode (cod 233) 132 = .ok (.goto 4, 3) := by rw [cc_233]; decide +kernel
theorem D233_135 : decode (cod 233) 135 = .ok (.lconst 0, 1) := by rw [cc_233]; decide +kernel
theorem D233_136 : decode (cod 233) 136 = .ok (.ladd, 1) := by rw [cc_233]; decide +kernel
theorem D233_137 : decode (cod 233) 137 = .ok (.lstore 4, 2) := by rw [cc_233]; decide +kernel
theorem D233_139 : decode (cod 233) 139 = .ok (.iinc 7 1, 3) := by rw [cc_233]; decide +kernel
theorem D233_142 : decode (cod 233) 142 = .ok (.goto (-96), 3) := by rw [cc_233]; decide +kernel
theorem D233_145 : decode (cod 233) 145 = .ok (.iinc 6 1, 3) := by rw [cc_233]; decide +kernel
theorem D233_148 : decode (cod 233) 148 = .ok (.goto (-142), 3) := by rw [cc_233]; decide +kernel
theorem D233_151 : decode (cod 233) 151 = .ok (.lload 4, 2) := by rw [cc_233]; decide +kernel
theorem D233_153 : decode (cod 233) 153 = .ok (.lreturn, 1) := by rw [cc_233]; decide +kernel
theorem b233_0 {d : Nat} {i0 : Nat} {x1 x2 x3 : Int} {I L : Nat → Nat → Nat → Int} {t : Nat → Nat} : Res d 233 0 [vr 12 i0, vi x1, vi x2, vi x3, vx, vx, vx, vx, vx] [] (mk I L t) = Res d 233 6 [vr 12 i0, vi x1, vi x2, vi x3, vl 0, vx, vi 0, vx, vx] [] (mk I L t) :=
  Eq.trans (e_lconst (x := 0) D233_0 rfl rfl) <| Eq.trans (e_lstore (ls1 := [vr 12 i0, vi x1, vi x2, vi x3, vl 0, vx, vx, vx, vx]) D233_1 rfl (show 5 < 9 by decide) rfl) <| Eq.trans (e_iconst (x := 0) D233_3 rfl rfl) <| e_istore (ls1 := [vr 12 i0, vi x1, vi x2, vi x3, vl 0, vx, vi 0, vx, vx]) D233_4 rfl (show 6 < 9 by decide) rfl
theorem b233_6 {d : Nat} {i0 : Nat} {x1 x2 x3 x4 x6 : Int} {u7 u8 : MV} {I L : Nat → Nat → Nat → Int} {t : Nat → Nat} : Res d 233 6 [vr 12 i0, vi x1, vi x2, vi x3, vl x4, vx, vi x6, u7, u8] [] (mk I L t) = if I 12 i0 4 ≤ x6 then Res d 233 151 [vr 12 i0, vi x1, vi x2, vi x3, vl x4, vx, vi x6, u7, u8] [] (mk I L t) else Res d 233 15 [vr 12 i0, vi x1, vi x2, vi x3, vl x4, vx, vi x6, u7, u8] [] (mk I L t) :=
  Eq.trans (e_iload D233_6 rfl rfl) <| Eq.trans (e_aload_n D233_8 rfl rfl) <| Eq.trans (e_getI D233_9 rfl o_233 f_12_527 (sh_12 _) (by decide)) <| e_icge D233_12 rfl rfl
theorem b233_15 {d : Nat} {i0 : Nat} {x1 x2 x3 x4 x6 : Int} {u7 u8 : MV} {I L : Nat → Nat → Nat → Int} {t : Nat → Nat} : Res (d + 1) 233 15 [vr 12 i0, vi x1, vi x2, vi x3, vl x4, vx, vi x6, u7, u8] [] (mk I L t) = (Cal d 227 [vr 12 i0, vi x6, vi x1] (mk I L t)).bind fun v => Res (d + 1) 233 22 [vr 12 i0, vi x1, vi x2, vi x3, vl x4, vx, vi x6, u7, u8] (psh 227 v.1 []) v.2 :=
  Eq.trans (e_aload_n D233_15 rfl rfl) <| Eq.trans (e_iload D233_16 rfl rfl) <| Eq.trans (e_iload_n D233_18 rfl rfl) <| e_callV D233_19 rfl o_233 m_12_533 (by decide) rfl rfl
theorem b233_22 {d : Nat} {i0 : Nat} {x1 x2 x3 x4 x6 : Int} {u7 u8 : MV} {I L : Nat → Nat → Nat → Int} {t : Nat → Nat} (g1 : 0 ≤ x1 ∧ x1 < 4) : Res d 233 22 [vr 12 i0, vi x1, vi x2, vi x3, vl x4, vx, vi x6, u7, u8] [] (mk I L t) = if I 71 i0 x1.toNat = 0 then Res d 233 41 [vr 12 i0, vi x1, vi x2, vi x3, vl x4, vx, vi x6, u7, u8] [vi 10, vr 75 i0] (mk I L t) else Res d 233 37 [vr 12 i0, vi x1, vi x2, vi x3, vl x4, vx, vi x6, u7, u8] [vi 10, vr 75 i0] (mk I L t) :=
  Eq.trans (e_aload_n D233_22 rfl rfl) <| Eq.trans (e_getP (p := (75, i0)) D233_23 rfl o_233 f_12_96 (sh_12 _) (by decide) (pp_12_51 _ _)) <| Eq.trans (e_bipush (x := 10) D233_26 rfl rfl) <| Eq.trans (e_aload_n D233_28 rfl rfl) <| Eq.trans (e_getP (p := (71, i0)) D233_29 rfl o_233 f_12_80 (sh_12 _) (by decide) (pp_12_29 _ _)) <| Eq.trans (e_iload_n D233_32 rfl rfl) <| Eq.trans (e_bald D233_33 rfl (al_71 _) g1) <| e_ifeq D233_34 rfl rfl
theorem b233_37 {d : Nat} {i0 is0 : Nat} {x1 x2 x3 x4 x6 xs1 : Int} {u7 u8 : MV} {I L : Nat → Nat → Nat → Int} {t : Nat → Nat} : Res d 233 37 [vr 12 i0, vi x1, vi x2, vi x3, vl x4, vx, vi x6, u7, u8] [vi xs1, vr 75 is0] (mk I L t) = Res d 233 42 [vr 12 i0, vi x1, vi x2, vi x3, vl x4, vx, vi x6, u7, u8] [vi 1, vi xs1, vr 75 is0] (mk I L t) :=
  Eq.trans (e_iconst (x := 1) D233_37 rfl rfl) <| e_goto (q1 := 42) D233_38 rfl
theorem b233_41 {d : Nat} {i0 is0 : Nat} {x1 x2 x3 x4 x6 xs1 : Int} {u7 u8 : MV} {I L : Nat → Nat → Nat → Int} {t : Nat → Nat} : Res d 233 41 [vr 12 i0, vi x1, vi x2, vi x3, vl x4, vx, vi x6, u7, u8] [vi xs1, vr 75 is0] (mk I L t) = Res d 233 42 [vr 12 i0, vi x1, vi x2, vi x3, vl x4, vx, vi x6, u7, u8] [vi 0, vi xs1, vr 75 is0] (mk I L t) :=
  e_iconst (x := 0) D233_41 rfl rfl
theorem b233_42 {d : Nat} {i0 is0 : Nat} {x1 x2 x3 x4 x6 xs2 xs1 : Int} {u7 u8 : MV} {I L : Nat → Nat → Nat → Int} {t : Nat → Nat} (g1 : 0 ≤ xs1 ∧ xs1 < 11) : Res d 233 42 [vr 12 i0, vi x1, vi x2, vi x3, vl x4, vx, vi x6, u7, u8] [vi xs2, vi xs1, vr 75 is0] (mk I L t) = Res d 233 46 [vr 12 i0, vi x1, vi x2, vi x3, vl x4, vx, vi x6, vi 0, u8] [] (mk (up3 I 75 is0 xs1.toNat xs2) L t) :=
  Eq.trans (e_iast D233_42 rfl (al_75 _) rfl g1) <| Eq.trans (e_iconst (x := 0) D233_43 rfl rfl) <| e_istore (ls1 := [vr 12 i0, vi x1, vi x2, vi x3, vl x4, vx, vi x6, vi 0, u8]) D233_44 rfl (show 7 < 9 by decide) rfl
theorem b233_46 {d : Nat} {i0 : Nat} {x1 x2 x3 x4 x6 x7 : Int} {u8 : MV} {I L : Nat → Nat → Nat → Int} {t : Nat → Nat} : Res d 233 46 [vr 12 i0, vi x1, vi x2, vi x3, vl x4, vx, vi x6, vi x7, u8] [] (mk I L t) = if I 12 i0 12 ≤ x7 then Res d 233 145 [vr 12 i0, vi x1, vi x2, vi x3, vl x4, vx, vi x6, vi x7, u8] [] (mk I L t) else Res d 233 55 [vr 12 i0, vi x1, vi x2, vi x3, vl x4, vx, vi x6, vi x7, u8] [] (mk I L t) :=
  Eq.trans (e_iload D233_46 rfl rfl) <| Eq.trans (e_aload_n D233_48 rfl rfl) <| Eq.trans (e_getI D233_49 rfl o_233 f_12_236 (sh_12 _) (by decide)) <| e_icge D233_52 rfl rfl
theorem b233_55 {d : Nat} {i0 : Nat} {x1 x2 x3 x4 x6 x7 : Int} {u8 : MV} {I L : Nat → Nat → Nat → Int} {t : Nat → Nat} (g1 : 0 ≤ x7 ∧ x7 < 9) : Res d 233 55 [vr 12 i0, vi x1, vi x2, vi x3, vl x4, vx, vi x6, vi x7, u8] [] (mk I L t) = if I 54 i0 x7.toNat = -1 then Res d 233 139 [vr 12 i0, vi x1, vi x2, vi x3, vl x4, vx, vi x6, vi x7, u8] [] (mk I L t) else Res d 233 66 [vr 12 i0, vi x1, vi x2, vi x3, vl x4, vx, vi x6, vi x7, u8] [] (mk I L t) :=
  Eq.trans (e_aload_n D233_55 rfl rfl) <| Eq.trans (e_getP (p := (54, i0)) D233_56 rfl o_233 f_12_28 (sh_12 _) (by decide) (pp_12_11 _ _)) <| Eq.trans (e_iload D233_59 rfl rfl) <| Eq.trans (e_iald D233_61 rfl (al_54 _) g1) <| Eq.trans (e_iconst (x := -1) D233_62 rfl rfl) <| e_iceq D233_63 rfl rfl
theorem b233_66 {d : Nat} {i0 : Nat} {x1 x2 x3 x4 x6 x7 : Int} {u8 : MV} {I L : Nat → Nat → Nat → Int} {t : Nat → Nat} (g1 : 0 ≤ x7 ∧ x7 < 9) (g2 : 0 ≤ x6 ∧ x6 < 40) : Res d 233 66 [vr 12 i0, vi x1, vi x2, vi x3, vl x4, vx, vi x6, vi x7, u8] [] (mk I L t) = if ¬ I 54 i0 x7.toNat = I 107 i0 x6.toNat then Res d 233 87 [vr 12 i0, vi x1, vi x2, vi x3, vl x4, vx, vi x6, vi x7, u8] [] (mk I L t) else Res d 233 83 [vr 12 i0, vi x1, vi x2, vi x3, vl x4, vx, vi x6, vi x7, u8] [] (mk I L t) :=
  Eq.trans (e_aload_n D233_66 rfl rfl) <| Eq.trans (e_getP (p := (54, i0)) D233_67 rfl o_233 f_12_28 (sh_12 _) (by decide) (pp_12_11 _ _)) <| Eq.trans (e_iload D233_70 rfl rfl) <| Eq.trans (e_iald D233_72 rfl (al_54 _) g1) <| Eq.trans (e_aload_n D233_73 rfl rfl) <| Eq.trans (e_getP (p := (107, i0)) D233_74 rfl o_233 f_12_192 (sh_12 _) (by decide) (pp_12_86 _ _)) <| Eq.trans (e_iload D233_77 rfl rfl) <| Eq.trans (e_iald D233_79 rfl (al_107 _) g2) <| e_icne D233_80 rfl rfl
theorem b233_83 {d : Nat} {i0 : Nat} {x1 x2 x3 x4 x6 x7 : Int} {u8 : MV} {I L : Nat → Nat → Nat → Int} {t : Nat → Nat} : Res d 233 83 [vr 12 i0, vi x1, vi x2, vi x3, vl x4, vx, vi x6, vi x7, u8] [] (mk I L t) = Res d 233 88 [vr 12 i0, vi x1, vi x2, vi x3, vl x4, vx, vi x6, vi x7, u8] [vi 1] (mk I L t) :=
  Eq.trans (e_iconst (x := 1) D233_83 rfl rfl) <| e_goto (q1 := 88) D233_84 rfl
theorem b233_87 {d : Nat} {i0 : Nat} {x1 x2 x3 x4 x6 x7 : Int} {u8 : MV} {I L : Nat → Nat → Nat → Int} {t : Nat → Nat} : Res d 233 87 [vr 12 i0, vi x1, vi x2, vi x3, vl x4, vx, vi x6, vi x7, u8] [] (mk I L t) = Res d 233 88 [vr 12 i0, vi x1, vi x2, vi x3, vl x4, vx, vi x6, vi x7, u8] [vi 0] (mk I L t) :=
  e_iconst (x := 0) D233_87 rfl rfl
theorem b233_88 {d : Nat} {i0 : Nat} {x1 x2 x3 x4 x6 x7 xs0 : Int} {u8 : MV} {I L : Nat → Nat → Nat → Int} {t : Nat → Nat} : Res d 233 88 [vr 12 i0, vi x1, vi x2, vi x3, vl x4, vx, vi x6, vi x7, u8] [vi xs0] (mk I L t) = if xs0 = x3 then Res d 233 95 [vr 12 i0, vi x1, vi x2, vi x3, vl x4, vx, vi x6, vi x7, u8] [] (mk I L t) else Res d 233 92 [vr 12 i0, vi x1, vi x2, vi x3, vl x4, vx, vi x6, vi x7, u8] [] (mk I L t) :=
  Eq.trans (e_iload_n D233_88 rfl rfl) <| e_iceq D233_89 rfl rfl
theorem b233_92 {d : Nat} {i0 : Nat} {x1 x2 x3 x4 x6 x7 : Int} {u8 : MV} {I L : Nat → Nat → Nat → Int} {t : Nat → Nat} : Res d 233 92 [vr 12 i0, vi x1, vi x2, vi x3, vl x4, vx, vi x6, vi x7, u8] [] (mk I L t) = Res d 233 139 [vr 12 i0, vi x1, vi x2, vi x3, vl x4, vx, vi x6, vi x7, u8] [] (mk I L t) :=
  e_goto (q1 := 139) D233_92 rfl
theorem b233_95 {d : Nat} {i0 : Nat} {x1 x2 x3 x4 x6 x7 : Int} {u8 : MV} {I L : Nat → Nat → Nat → Int} {t : Nat → Nat} : Res (d + 1) 233 95 [vr 12 i0, vi x1, vi x2, vi x3, vl x4, vx, vi x6, vi x7, u8] [] (mk I L t) = (Cal d 194 [vr 12 i0, vi x7] (mk I L t)).bind fun v => Res (d + 1) 233 101 [vr 12 i0, vi x1, vi x2, vi x3, vl x4, vx, vi x6, vi x7, u8] (psh 194 v.1 []) v.2 :=
  Eq.trans (e_aload_n D233_95 rfl rfl) <| Eq.trans (e_iload D233_96 rfl rfl) <| e_callV D233_98 rfl o_233 m_12_487 (by decide) rfl rfl
theorem b233_101 {d : Nat} {i0 : Nat} {x1 x2 x3 x4 x6 x7 xs0 : Int} {u8 : MV} {I L : Nat → Nat → Nat → Int} {t : Nat → Nat} : Res d 233 101 [vr 12 i0, vi x1, vi x2, vi x3, vl x4, vx, vi x6, vi x7, u8] [vi xs0] (mk I L t) = if vIdiv xs0 20 ≤ 4 then Res d 233 118 [vr 12 i0, vi x1, vi x2, vi x3, vl x4, vx, vi x6, vi x7, vi (vIdiv xs0 20)] [vl x4] (mk I L t) else Res d 233 114 [vr 12 i0, vi x1, vi x2, vi x3, vl x4, vx, vi x6, vi x7, vi (vIdiv xs0 20)] [vl x4] (mk I L t) :=
  Eq.trans (e_bipush (x := 20) D233_101 rfl rfl) <| Eq.trans (e_idiv D233_103 rfl (by decide)) <| Eq.trans (e_istore (ls1 := [vr 12 i0, vi x1, vi x2, vi x3, vl x4, vx, vi x6, vi x7, vi (vIdiv xs0 20)]) D233_104 rfl (show 8 < 9 by decide) rfl) <| Eq.trans (e_lload D233_106 rfl rfl) <| Eq.trans (e_iload D233_108 rfl rfl) <| Eq.trans (e_iconst (x := 4) D233_110 rfl rfl) <| e_icle D233_111 rfl rfl
theorem b233_114 {d : Nat} {i0 : Nat} {x1 x2 x3 x4 x6 x7 x8 xs0 : Int} {I L : Nat → Nat → Nat → Int} {t : Nat → Nat} : Res d 233 114 [vr 12 i0, vi x1, vi x2, vi x3, vl x4, vx, vi x6, vi x7, vi x8] [vl xs0] (mk I L t) = Res d 233 120 [vr 12 i0, vi x1, vi x2, vi x3, vl x4, vx, vi x6, vi x7, vi x8] [vi 4, vl xs0] (mk I L t) :=
  Eq.trans (e_iconst (x := 4) D233_114 rfl rfl) <| e_goto (q1 := 120) D233_115 rfl
theorem b233_118 {d : Nat} {i0 : Nat} {x1 x2 x3 x4 x6 x7 x8 xs0 : Int} {I L : Nat → Nat → Nat → Int} {t : Nat → Nat} : Res d 233 118 [vr 12 i0, vi x1, vi x2, vi x3, vl x4, vx, vi x6, vi x7, vi x8] [vl xs0] (mk I L t) = Res d 233 120 [vr 12 i0, vi x1, vi x2, vi x3, vl x4, vx, vi x6, vi x7, vi x8] [vi x8, vl xs0] (mk I L t) :=
  e_iload D233_118 rfl rfl
theorem b233_120 {d : Nat} {i0 : Nat} {x1 x2 x3 x4 x6 x7 x8 xs1 xs0 : Int} {I L : Nat → Nat → Nat → Int} {t : Nat → Nat} : Res d 233 120 [vr 12 i0, vi x1, vi x2, vi x3, vl x4, vx, vi x6, vi x7, vi x8] [vi xs1, vl xs0] (mk I L t) = if ¬ xs1 = x2 then Res d 233 135 [vr 12 i0, vi x1, vi x2, vi x3, vl x4, vx, vi x6, vi x7, vi x8] [vl xs0] (mk I L t) else Res d 233 124 [vr 12 i0, vi x1, vi x2, vi x3, vl x4, vx, vi x6, vi x7, vi x8] [vl xs0] (mk I L t) :=
  Eq.trans (e_iload_n D233_120 rfl rfl) <| e_icne D233_121 rfl rfl
theorem b233_124 {d : Nat} {i0 : Nat} {x1 x2 x3 x4 x6 x7 x8 xs0 : Int} {I L : Nat → Nat → Nat → Int} {t : Nat → Nat} (g1 : 0 ≤ x7 ∧ x7 < 10) : Res d 233 124 [vr 12 i0, vi x1, vi x2, vi x3, vl x4, vx, vi x6, vi x7, vi x8] [vl xs0] (mk I L t) = Res d 233 136 [vr 12 i0, vi x1, vi x2, vi x3, vl x4, vx, vi x6, vi x7, vi x8] [vl (I 78 i0 x7.toNat), vl xs0] (mk I L t) :=
  Eq.trans (e_aload_n D233_124 rfl rfl) <| Eq.trans (e_getP (p := (78, i0)) D233_125 rfl o_233 f_12_105 (sh_12 _) (by decide) (pp_12_56 _ _)) <| Eq.trans (e_iload D233_128 rfl rfl) <| Eq.trans (e_iald D233_130 rfl (al_78 _) g1) <| Eq.trans (e_i2l D233_131 rfl) <| e_goto (q1 := 136) D233_132 rfl
theorem b233_135 {d : Nat} {i0 : Nat} {x1 x2 x3 x4 x6 x7 x8 xs0 : Int} {I L : Nat → Nat → Nat → Int} {t : Nat → Nat} : Res d 233 135 [vr 12 i0, vi x1, vi x2, vi x3, vl x4, vx, vi x6, vi x7, vi x8] [vl xs0] (mk I L t) = Res d 233 136 [vr 12 i0, vi x1, vi x2, vi x3, vl x4, vx, vi x6, vi x7, vi x8] [vl 0, vl xs0] (mk I L t) :=
  e_lconst (x := 0) D233_135 rfl rfl
theorem b233_136 {d : Nat} {i0 : Nat} {x1 x2 x3 x4 x6 x7 x8 xs1 xs0 : Int} {I L : Nat → Nat → Nat → Int} {t : Nat → Nat} : Res d 233 136 [vr 12 i0, vi x1, vi x2, vi x3, vl x4, vx, vi x6, vi x7, vi x8] [vl xs1, vl xs0] (mk I L t) = Res d 233 139 [vr 12 i0, vi x1, vi x2, vi x3, vl (w64 (xs0 + xs1)), vx, vi x6, vi x7, vi x8] [] (mk I L t) :=
  Eq.trans (e_ladd D233_136 rfl) <| e_lstore (ls1 := [vr 12 i0, vi x1, vi x2, vi x3, vl (w64 (xs0 + xs1)), vx, vi x6, vi x7, vi x8]) D233_137 rfl (show 5 < 9 by decide) rfl
theorem b233_139 {d : Nat} {i0 : Nat} {x1 x2 x3 x4 x6 x7 : Int} {u8 : MV} {I L : Nat → Nat → Nat → Int} {t : Nat → Nat} : Res d 233 139 [vr 12 i0, vi x1, vi x2, vi x3, vl x4, vx, vi x6, vi x7, u8] [] (mk I L t) = Res d 233 46 [vr 12 i0, vi x1, vi x2, vi x3, vl x4, vx, vi x6, vi (w32 (x7 + 1)), u8] [] (mk I L t) :=
  Eq.trans (e_iinc (ls1 := [vr 12 i0, vi x1, vi x2, vi x3, vl x4, vx, vi x6, vi (w32 (x7 + 1)), u8]) D233_139 rfl rfl rfl) <| e_goto (q1 := 46) D233_142 rfl
theorem b233_145 {d : Nat} {i0 : Nat} {x1 x2 x3 x4 x6 x7 : Int} {u8 : MV} {I L : Nat → Nat → Nat → Int} {t : Nat → Nat} : Res d 233 145 [vr 12 i0, vi x1, vi x2, vi x3, vl x4, vx, vi x6, vi x7, u8] [] (mk I L t) = Res d 233 6 [vr 12 i0, vi x1, vi x2, vi x3, vl x4, vx, vi (w32 (x6 + 1)), vi x7, u8] [] (mk I L t) :=
  Eq.trans (e_iinc (ls1 := [vr 12 i0, vi x1, vi x2, vi x3, vl x4, vx, vi (w32 (x6 + 1)), vi x7, u8]) D233_145 rfl rfl rfl) <| e_goto (q1 := 6) D233_148 rfl
theorem b233_151 {d : Nat} {i0 : Nat} {x1 x2 x3 x4 x6 : Int} {u7 u8 : MV} {I L : Nat → Nat → Nat → Int} {t : Nat → Nat} : Res d 233 151 [vr 12 i0, vi x1, vi x2, vi x3, vl x4, vx, vi x6, u7, u8] [] (mk I L t) = some (vl x4, (mk I L t)) :=
  Eq.trans (e_lload D233_151 rfl rfl) <| e_lret D233_153 rfl
/-! m_kins -/
theorem cc_234 : cod 234 = cX12_kins := rfl
theorem D234_0 : decode (cod 234) 0 = .ok (.lconst 0, 1) := by rw [cc_234]; decide +kernel
theorem D234_1 : decode (cod 234) 1 = .ok (.lstore_n 3, 1) := by rw [cc_234]; decide +kernel
theorem D234_2 : decode (cod 234) 2 = .ok (.iconst 0, 1) := by rw [cc_234]; decide +kernel
theorem D234_3 : decode (cod 234) 3 = .ok (.istore 5, 2) := by rw [cc_234]; decide +kernel
theorem D234_5 : decode (cod 234) 5 = .ok (.iload 5, 2) := by rw [cc_234]; decide +kernel
theorem D234_7 : decode (cod 234) 7 = .ok (.aload_n 0, 1) := by rw [cc_234]; decide +kernel
theorem D234_8 : decode (cod 234) 8 = .ok (.getfield 527, 3) := by rw [cc_234]; decide +kernel
theorem D234_11 : decode (cod 234) 11 = .ok (.if_icmp .ge 69, 3) := by rw [cc_234]; decide +kernel
theorem D234_14 : decode (cod 234) 14 = .ok (.aload_n 0, 1) := by rw [cc_234]; decide +kernel
theorem D234_15 : decode (cod 234) 15 = .ok (.getfield 13, 3) := by rw [cc_234]; decide +kernel
theorem D234_18 : decode (cod 234) 18 = .ok (.aload_n 0, 1) := by rw [cc_234]; decide +kernel
theorem D234_19 : decode (cod 234) 19 = .ok (.getfield 192, 3) := by rw [cc_234]; decide +kernel
theorem D234_22 : decode (cod 234) 22 = .ok (.iload 5, 2) := by rw [cc_234]; decide +kernel
theorem D234_24 : decode (cod 234) 24 = .ok (.iaload, 1) := by rw [cc_234]; decide +kernel
theorem D234_25 : decode (cod 234) 25 = .ok (.iaload, 1) := by rw [cc_234]; decide +kernel
theorem D234_26 : decode (cod 234) 26 = .ok (.aload_n 0, 1) := by rw [cc_234]; decide +kernel
theorem D234_27 : decode (cod 234) 27 = .ok (.getfield 189, 3) := by rw [cc_234]; decide +kernel
theorem D234_30 : decode (cod 234) 30 = .ok (.iload 5, 2) := by rw [cc_234]; decide +kernel
theorem D234_32 : decode (cod 234) 32 = .ok (.iaload, 1) := by rw [cc_234]; decide +kernel
theorem D234_33 : decode (cod 234) 33 = .ok (.if_icmp .ne 7, 3) := by rw [cc_234]; decide +kernel
theorem D234_36 : decode (cod 234) 36 = .ok (.iconst 1, 1) := by rw [cc_234]; decide +kernel
theorem D234_37 : decode (cod 234) 37 = .ok (.goto 4, 3) := by rw [cc_234]; decide +kernel
theorem D234_40 : decode (cod 234) 40 = .ok (.iconst 0, 1) := by rw [cc_234]; decide +kernel
theorem D234_41 : decode (cod 234) 41 = .ok (.iload_n 2, 1) := by rw [cc_234]; decide +kernel
theorem D234_42 : decode (cod 234) 42 = .ok (.if_icmp .eq 6, 3) := by rw [cc_234]; decide +kernel
theorem D234_45 : decode (cod 234) 45 = .ok (.goto 29, 3) := by rw [cc_234]; decide +kernel
theorem D234_48 : decode (cod 234) 48 = .ok (.aload_n 0, 1) := by rw [cc_234]; decide +kernel
theorem D234_49 : decode (cod 234) 49 = .ok (.iload 5, 2) := by rw [cc_234]; decide +kernel
theorem D234_51 : decode (cod 234) 51 = .ok (.iload_n 1, 1) := by rw [cc_234]; decide +kernel
theorem D234_52 : decode (cod 234) 52 = .ok (.invokevirtual 533, 3) := by rw [cc_234]; decide +kernel
theorem D234_55 : decode (cod 234) 55 = .ok (.lload_n 3, 1) := by rw [cc_234]; decide +kernel
theorem D234_56 : decode (cod 234) 56 = .ok (.aload_n 0, 1) := by rw [cc_234]; decide +kernel
theorem D234_57 : decode (cod 234) 57 = .ok (.iload 5, 2) := by rw [cc_234]; decide +kernel
theorem D234_59 : decode (cod 234) 59 = .ok (.iconst 1, 1) := by rw [cc_234]; decide +kernel
theorem D234_60 : decode (cod 234) 60 = .ok (.invokevirtual 536, 3) := by rw [cc_234]; decide +kernel
theorem D234_63 : decode (cod 234) 63 = .ok (.aload_n 0, 1) := by rw [cc_234]; decide +kernel
theorem D234_64 : decode (cod 234) 64 = .ok (.iload 5, 2) := by rw [cc_234]; decide +kernel
theorem D234_66 : decode (cod 234) 66 = .ok (.iconst 2, 1) := by rw [cc_234]; decide +kernel
theorem D234_67 : decode (cod 234) 67 = .ok (.invokevirtual 536, 3) := by rw [cc_234]; decide +kernel
theorem D234_70 : decode (cod 234) 70 = .ok (.iadd, 1) := by rw [cc_234]; decide +kernel
theorem D234_71 : decode (cod 234) 71 = .ok (.i2l, 1) := by rw [cc_234]; decide +kernel
theorem D234_72 : decode (cod 234) 72 = .ok (.ladd, 1) := by rw [cc_234]; decide +kernel
theorem D234_73 : decode (cod 234) 73 = .ok (.lstore_n 3, 1) := by rw [cc_234]; decide +kernel
theorem D234_74 : decode (cod 234) 74 = .ok (.iinc 5 1, 3) := by rw [cc_234]; decide +kernel
theorem D234_77 : decode (cod 234) 77 = .ok (.goto (-72), 3) := by rw [cc_234]; decide +kernel
theorem D234_80 : decode (cod 234) 80 = .ok (.lload_n 3, 1) := by rw [cc_234]; decide +kernel
theorem D234_81 : decode (cod 234) 81 = .ok (.lreturn, 1) := by rw [cc_234]; decide +kernel
theorem b234_0 {d : Nat} {i0 : Nat} {x1 x2 : Int} {I L : Nat → Nat → Nat → Int} {t : Nat → Nat} : Res d 234 0 [vr 12 i0, vi x1, vi x2, vx, vx, vx] [] (mk I L t) = Res d 234 5 [vr 12 i0, vi x1, vi x2, vl 0, vx, vi 0] [] (mk I L t) :=
  Eq.trans (e_lconst (x := 0) D234_0 rfl rfl) <| Eq.trans (e_lstore_n (ls1 := [vr 12 i0, vi x1, vi x2, vl 0, vx, vx]) D234_1 rfl (show 4 < 6 by decide) rfl) <| Eq.trans (e_iconst (x := 0) D234_2 rfl rfl) <| e_istore (ls1 := [vr 12 i0, vi x1, vi x2, vl 0, vx, vi 0]) D234_3 rfl (show 5 < 6 by decide) rfl
theorem b234_5 {d : Nat} {i0 : Nat} {x1 x2 x3 x5 : Int} {I L : Nat → Nat → Nat → Int} {t : Nat → Nat} : Res d 234 5 [vr 12 i0, vi x1, vi x2, vl x3, vx, vi x5] [] (mk I L t) = if I 12 i0 4 ≤ x5 then Res d 234 80 [vr 12 i0, vi x1, vi x2, vl x3, vx, vi x5] [] (mk I L t) else Res d 234 14 [vr 12 i0, vi x1, vi x2, vl x3, vx, vi x5] [] (mk I L t) :=
  Eq.trans (e_iload D234_5 rfl rfl) <| Eq.trans (e_aload_n D234_7 rfl rfl) <| Eq.trans (e_getI D234_8 rfl o_234 f_12_527 (sh_12 _) (by decide)) <| e_icge D234_11 rfl rfl
theorem b234_14 {d : Nat} {i0 : Nat} {x1 x2 x3 x5 : Int} {I L : Nat → Nat → Nat → Int} {t : Nat → Nat} (g1 : 0 ≤ x5 ∧ x5 < 40) (g2 : 0 ≤ I 107 i0 x5.toNat ∧ I 107 i0 x5.toNat < 132) : Res d 234 14 [vr 12 i0, vi x1, vi x2, vl x3, vx, vi x5] [] (mk I L t) = if ¬ I 49 i0 (I 107 i0 x5.toNat).toNat = I 106 i0 x5.toNat then Res d 234 40 [vr 12 i0, vi x1, vi x2, vl x3, vx, vi x5] [] (mk I L t) else Res d 234 36 [vr 12 i0, vi x1, vi x2, vl x3, vx, vi x5] [] (mk I L t) :=
  Eq.trans (e_aload_n D234_14 rfl rfl) <| Eq.trans (e_getP (p := (49, i0)) D234_15 rfl o_234 f_12_13 (sh_12 _) (by decide) (pp_12_6 _ _)) <| Eq.trans (e_aload_n D234_18 rfl rfl) <| Eq.trans (e_getP (p := (107, i0)) D234_19 rfl o_234 f_12_192 (sh_12 _) (by decide) (pp_12_86 _ _)) <| Eq.trans (e_iload D234_22 rfl rfl) <| Eq.trans (e_iald D234_24 rfl (al_107 _) g1) <| Eq.trans (e_iald D234_25 rfl (al_49 _) g2) <| Eq.trans (e_aload_n D234_26 rfl rfl) <| Eq.trans (e_getP (p := (106, i0)) D234_27 rfl o_234 f_12_189 (sh_12 _) (by decide) (pp_12_85 _ _)) <| Eq.trans (e_iload D234_30 rfl rfl) <| Eq.trans (e_iald D234_32 rfl (al_106 _) g1) <| e_icne D234_33 rfl rfl
theorem b234_36 {d : Nat} {i0 : Nat} {x1 x2 x3 x5 : Int} {I L : Nat → Nat → Nat → Int} {t : Nat → Nat} : Res d 234 36 [vr 12 i0, vi x1, vi x2, vl x3, vx, vi x5] [] (mk I L t) = Res d 234 41 [vr 12 i0, vi x1, vi x2, vl x3, vx, vi x5] [vi 1] (mk I L t) :=
  Eq.trans (e_iconst (x := 1) D234_36 rfl rfl) <| e_goto (q1 := 41) D234_37 rfl
theorem b234_40 {d : Nat} {i0 : Nat} {x1 x2 x3 x5 : Int} {I L : Nat → Nat → Nat → Int} {t : Nat → Nat} : Res d 234 40 [vr 12 i0, vi x1, vi x2, vl x3, vx, vi x5] [] (mk I L t) = Res d 234 41 [vr 12 i0, vi x1, vi x2, vl x3, vx, vi x5] [vi 0] (mk I L t) :=
  e_iconst (x := 0) D234_40 rfl rfl
theorem b234_41 {d : Nat} {i0 : Nat} {x1 x2 x3 x5 xs0 : Int} {I L : Nat → Nat → Nat → Int} {t : Nat → Nat} : Res d 234 41 [vr 12 i0, vi x1, vi x2, vl x3, vx, vi x5] [vi xs0] (mk I L t) = if xs0 = x2 then Res d 234 48 [vr 12 i0, vi x1, vi x2, vl x3, vx, vi x5] [] (mk I L t) else Res d 234 45 [vr 12 i0, vi x1, vi x2, vl x3, vx, vi x5] [] (mk I L t) :=
  Eq.trans (e_iload_n D234_41 rfl rfl) <| e_iceq D234_42 rfl rfl
theorem b234_45 {d : Nat} {i0 : Nat} {x1 x2 x3 x5 : Int} {I L : Nat → Nat → Nat → Int} {t : Nat → Nat} : Res d 234 45 [vr 12 i0, vi x1, vi x2, vl x3, vx, vi x5] [] (mk I L t) = Res d 234 74 [vr 12 i0, vi x1, vi x2, vl x3, vx, vi x5] [] (mk I L t) :=
  e_goto (q1 := 74) D234_45 rfl
theorem b234_48 {d : Nat} {i0 : Nat} {x1 x2 x3 x5 : Int} {I L : Nat → Nat → Nat → Int} {t : Nat → Nat} : Res (d + 1) 234 48 [vr 12 i0, vi x1, vi x2, vl x3, vx, vi x5] [] (mk I L t) = (Cal d 227 [vr 12 i0, vi x5, vi x1] (mk I L t)).bind fun v => Res (d + 1) 234 55 [vr 12 i0, vi x1, vi x2, vl x3, vx, vi x5] (psh 227 v.1 []) v.2 :=
  Eq.trans (e_aload_n D234_48 rfl rfl) <| Eq.trans (e_iload D234_49 rfl rfl) <| Eq.trans (e_iload_n D234_51 rfl rfl) <| e_callV D234_52 rfl o_234 m_12_533 (by decide) rfl rfl
theorem b234_55 {d : Nat} {i0 : Nat} {x1 x2 x3 x5 : Int} {I L : Nat → Nat → Nat → Int} {t : Nat → Nat} : Res (d + 1) 234 55 [vr 12 i0, vi x1, vi x2, vl x3, vx, vi x5] [] (mk I L t) = (Cal d 228 [vr 12 i0, vi x5, vi 1] (mk I L t)).bind fun v => Res (d + 1) 234 63 [vr 12 i0, vi x1, vi x2, vl x3, vx, vi x5] (psh 228 v.1 [vl x3]) v.2 :=
  Eq.trans (e_lload_n D234_55 rfl rfl) <| Eq.trans (e_aload_n D234_56 rfl rfl) <| Eq.trans (e_iload D234_57 rfl rfl) <| Eq.trans (e_iconst (x := 1) D234_59 rfl rfl) <| e_callV D234_60 rfl o_234 m_12_536 (by decide) rfl rfl
theorem b234_63 {d : Nat} {i0 : Nat} {x1 x2 x3 x5 xs1 xs0 : Int} {I L : Nat → Nat → Nat → Int} {t : Nat → Nat} : Res (d + 1) 234 63 [vr 12 i0, vi x1, vi x2, vl x3, vx, vi x5] [vi xs1, vl xs0] (mk I L t) = (Cal d 228 [vr 12 i0, vi x5, vi 2] (mk I L t)).bind fun v => Res (d + 1) 234 70 [vr 12 i0, vi x1, vi x2, vl x3, vx, vi x5] (psh 228 v.1 [vi xs1, vl xs0]) v.2 :=
  Eq.trans (e_aload_n D234_63 rfl rfl) <| Eq.trans (e_iload D234_64 rfl rfl) <| Eq.trans (e_iconst (x := 2) D234_66 rfl rfl) <| e_callV D234_67 rfl o_234 m_12_536 (by decide) rfl rfl
theorem b234_70 {d : Nat} {i0 : Nat} {x1 x2 x3 x5 xs2 xs1 xs0 : Int} {I L : Nat → Nat → Nat → Int} {t : Nat → Nat} : Res d 234 70 [vr 12 i0, vi x1, vi x2, vl x3, vx, vi x5] [vi xs2, vi xs1, vl xs0] (mk I L t) = Res d 234 74 [vr 12 i0, vi x1, vi x2, vl (w64 (xs0 + (w32 (xs1 + xs2)))), vx, vi x5] [] (mk I L t) :=
  Eq.trans (e_iadd D234_70 rfl) <| Eq.trans (e_i2l D234_71 rfl) <| Eq.trans (e_ladd D234_72 rfl) <| e_lstore_n (ls1 := [vr 12 i0, vi x1, vi x2, vl (w64 (xs0 + (w32 (xs1 + xs2)))), vx, vi x5]) D234_73 rfl (show 4 < 6 by decide) rfl
theorem b234_74 {d : Nat} {i0 : Nat} {x1 x2 x3 x5 : Int} {I L : Nat → Nat → Nat → Int} {t : Nat → Nat} : Res d 234 74 [vr 12 i0, vi x1, vi x2, vl x3, vx, vi x5] [] (mk I L t) = Res d 234 5 [vr 12 i0, vi x1, vi x2, vl x3, vx, vi (w32 (x5 + 1))] [] (mk I L t) :=
  Eq.trans (e_iinc (ls1 := [vr 12 i0, vi x1, vi x2, vl x3, vx, vi (w32 (x5 + 1))]) D234_74 rfl rfl rfl) <| e_goto (q1 := 5) D234_77 rfl
theorem b234_80 {d : Nat} {i0 : Nat} {x1 x2 x3 x5 : Int} {I L : Nat → Nat → Nat → Int} {t : Nat → Nat} : Res d 234 80 [vr 12 i0, vi x1, vi x2, vl x3, vx, vi x5] [] (mk I L t) = some (vl x3, (mk I L t)) :=
  Eq.trans (e_lload_n D234_80 rfl rfl) <| e_lret D234_81 rfl
/-! m_way -/
theorem cc_235 : cod 235 = cX12_way := rfl
theorem D235_0 : decode (cod 235) 0 = .ok (.iload_n 1, 1) := by rw [cc_235]; decide +kernel
theorem D235_1 : decode (cod 235) 1 = .ok (.invokestatic 530, 3) := by rw [cc_235]; decide +kernel
theorem D235_4 : decode (cod 235) 4 = .ok (.ifCond .ne 7, 3) := by rw [cc_235]; decide +kernel
theorem D235_7 : decode (cod 235) 7 = .ok (.ldc2_w 543, 3) := by rw [cc_235]; decide +kernel
theorem D235_10 : decode (cod 235) 10 = .ok (.lreturn, 1) := by rw [cc_235]; decide +kernel
theorem D235_11 : decode (cod 235) 11 = .ok (.iload_n 2, 1) := by rw [cc_235]; decide +kernel
theorem D235_12 : decode (cod 235) 12 = .ok (.iconst 0, 1) := by rw [cc_235]; decide +kernel
theorem D235_13 : decode (cod 235) 13 = .ok (.iconst 1, 1) := by rw [cc_235]; decide +kernel
theorem D235_14 : decode (cod 235) 14 = .ok (.invokestatic 219, 3) := by rw [cc_235]; decide +kernel
theorem D235_17 : decode (cod 235) 17 = .ok (.ifCond .eq 10, 3) := by rw [cc_235]; decide +kernel
theorem D235_20 : decode (cod 235) 20 = .ok (.aload_n 0, 1) := by rw [cc_235]; decide +kernel
theorem D235_21 : decode (cod 235) 21 = .ok (.iload_n 1, 1) := by rw [cc_235]; decide +kernel
theorem D235_22 : decode (cod 235) 22 = .ok (.iload_n 2, 1) := by rw [cc_235]; decide +kernel
theorem D235_23 : decode (cod 235) 23 = .ok (.invokevirtual 539, 3) := by rw [cc_235]; decide +kernel
theorem D235_26 : decode (cod 235) 26 = .ok (.lreturn, 1) := by rw [cc_235]; decide +kernel
theorem D235_27 : decode (cod 235) 27 = .ok (.iload_n 2, 1) := by rw [cc_235]; decide +kernel
theorem D235_28 : decode (cod 235) 28 = .ok (.iconst 2, 1) := by rw [cc_235]; decide +kernel
theorem D235_29 : decode (cod 235) 29 = .ok (.if_icmp .ne 17, 3) := by rw [cc_235]; decide +kernel
theorem D235_32 : decode (cod 235) 32 = .ok (.aload_n 0, 1) := by rw [cc_235]; decide +kernel
theorem D235_33 : decode (cod 235) 33 = .ok (.iload_n 1, 1) := by rw [cc_235]; decide +kernel
theorem D235_34 : decode (cod 235) 34 = .ok (.invokevirtual 545, 3) := by rw [cc_235]; decide +kernel
theorem D235_37 : decode (cod 235) 37 = .ok (.ifCond .eq 7, 3) := by rw [cc_235]; decide +kernel
theorem D235_40 : decode (cod 235) 40 = .ok (.lconst 1, 1) := by rw [cc_235]; decide +kernel
theorem D235_41 : decode (cod 235) 41 = .ok (.goto 4, 3) := by rw [cc_235]; decide +kernel
theorem D235_44 : decode (cod 235) 44 = .ok (.lconst 0, 1) := by rw [cc_235]; decide +kernel
theorem D235_45 : decode (cod 235) 45 = .ok (.lreturn, 1) := by rw [cc_235]; decide +kernel
theorem D235_46 : decode (cod 235) 46 = .ok (.iload_n 2, 1) := by rw [cc_235]; decide +kernel
theorem D235_47 : decode (cod 235) 47 = .ok (.bipush 10, 2) := by rw [cc_235]; decide +kernel
theorem D235_49 : decode (cod 235) 49 = .ok (.bipush 14, 2) := by rw [cc_235]; decide +kernel
theorem D235_51 : decode (cod 235) 51 = .ok (.invokestatic 219, 3) := by rw [cc_235]; decide +kernel
theorem D235_54 : decode (cod 235) 54 = .ok (.ifCond .eq 14, 3) := by rw [cc_235]; decide +kernel
theorem D235_57 : decode (cod 235) 57 = .ok (.aload_n 0, 1) := by rw [cc_235]; decide +kernel
theorem D235_58 : decode (cod 235) 58 = .ok (.iload_n 1, 1) := by rw [cc_235]; decide +kernel
theorem D235_59 : decode (cod 235) 59 = .ok (.iload_n 2, 1) := by rw [cc_235]; decide +kernel
theorem D235_60 : decode (cod 235) 60 = .ok (.bipush 10, 2) := by rw [cc_235]; decide +kernel
theorem D235_62 : decode (cod 235) 62 = .ok (.isub, 1) := by rw [cc_235]; decide +kernel
theorem D235_63 : decode (cod 235) 63 = .ok (.iconst 1, 1) := by rw [cc_235]; decide +kernel
theorem D235_64 : decode (cod 235) 64 = .ok (.invokevirtual 548, 3) := by rw [cc_235]; decide +kernel
theorem D235_67 : decode (cod 235) 67 = .ok (.lreturn, 1) := by rw [cc_235]; decide +kernel
theorem D235_68 : decode (cod 235) 68 = .ok (.iload_n 2, 1) := by rw [cc_235]; decide +kernel
theorem D235_69 : decode (cod 235) 69 = .ok (.bipush 20, 2) := by rw [cc_235]; decide +kernel
theorem D235_71 : decode (cod 235) 71 = .ok (.bipush 24, 2) := by rw [cc_235]; decide +kernel
theorem D235_73 : decode (cod 235) 73 = .ok (.invokestatic 219, 3) := by rw [cc_235]; decide +kernel
theorem D235_76 : decode (cod 235) 76 = .ok (.ifCond .eq 14, 3) := by rw [cc_235]; decide +kernel
theorem D235_79 : decode (cod 235) 79 = .ok (.aload_n 0, 1) := by rw [cc_235]; decide +kernel
theorem D235_80 : decode (cod 235) 80 = .ok (.iload_n 1, 1) := by rw [cc_235]; decide +kernel
theorem D235_81 : decode (cod 235) 81 = .ok (.iload_n 2, 1) := by rw [cc_235]; decide +kernel
theorem D235_82 : decode (cod 235) 82 = .ok (.bipush 20, 2) := by rw [cc_235]; decide +kernel
theorem D235_84 : decode (cod 235) 84 = .ok (.isub, 1) := by rw [cc_235]; decide +kernel
theorem D235_85 : decode (cod 235) 85 = .ok (.iconst 0, 1) := by rw [cc_235]; decide +kernel
theorem D235_86 : decode (cod 235) 86 = .ok (.invokevirtual 548, 3) := by rw [cc_235]; decide +kernel
theorem D235_89 : decode (cod 235) 89 = .ok (.lreturn, 1) := by rw [cc_235]; decide +kernel
theorem D235_90 : decode (cod 235) 90 = .ok (.iload_n 2, 1) := by rw [cc_235]; decide +kernel
theorem D235_91 : decode (cod 235) 91 = .ok (.bipush 30, 2) := by rw [cc_235]; decide +kernel
theorem D235_93 : decode (cod 235) 93 = .ok (.if_icmp .eq 9, 3) := by rw [cc_235]; decide +kernel
theorem D235_96 : decode (cod 235) 96 = .ok (.iload_n 2, 1) := by rw [cc_235]; decide +kernel
theorem D235_97 : decode (cod 235) 97 = .ok (.bipush 31, 2) := by rw [cc_235]; decide +kernel
theorem D235_99 : decode (cod 235) 99 = .ok (.if_icmp .ne 22, 3) := by rw [cc_235]; decide +kernel
theorem D235_102 : decode (cod 235) 102 = .ok (.aload_n 0, 1) := by rw [cc_235]; decide +kernel
theorem D235_103 : decode (cod 235) 103 = .ok (.iload_n 1, 1) := by rw [cc_235]; decide +kernel
theorem D235_104 : decode (cod 235) 104 = .ok (.iload_n 2, 1) := by rw [cc_235]; decide +kernel
theorem D235_105 : decode (cod 235) 105 = .ok (.bipush 30, 2) := by rw [cc_235]; decide +kernel
theorem D235_107 : decode (cod 235) 107 = .ok (.if_icmp .ne 7, 3) := by rw [cc_235]; decide +kernel
theorem D235_110 : decode (cod 235) 110 = .ok (.iconst 1, 1) := by rw [cc_235]; decide +kernel
theorem D235_111 : decode (cod 235) 111 = .ok (.goto 4, 3) := by rw [cc_235]; decide +kernel
theorem D235_114 : decode (cod 235) 114 = .ok (.iconst 0, 1) := by rw [cc_235]; decide +kernel
theorem D235_115 : decode (cod 235) 115 = .ok (.invokevirtual 552, 3) := by rw [cc_235]; decide +kernel
theorem D235_118 : decode (cod 235) 118 = .ok (.goto 6, 3) := by rw [cc_235]; decide +kernel
theorem D235_121 : decode (cod 235) 121 = .ok (.ldc2_w 543, 3) := by rw [cc_235]; decide +kernel
theorem D235_124 : decode (cod 235) 124 = .ok (.lreturn, 1) := by rw [cc_235]; decide +kernel
theorem b235_0 {d : Nat} {i0 : Nat} {x1 x2 : Int} {I L : Nat → Nat → Nat → Int} {t : Nat → Nat} : Res (d + 1) 235 0 [vr 12 i0, vi x1, vi x2] [] (mk I L t) = (Cal d 229 [vi x1] (mk I L t)).bind fun v => Res (d + 1) 235 4 [vr 12 i0, vi x1, vi x2] (psh 229 v.1 []) v.2 :=
  Eq.trans (e_iload_n D235_0 rfl rfl) <| e_callS D235_1 rfl o_235 m_12_530 (by decide) rfl rfl
theorem b235_4 {d : Nat} {i0 : Nat} {x1 x2 xs0 : Int} {I L : Nat → Nat → Nat → Int} {t : Nat → Nat} : Res d 235 4 [vr 12 i0, vi x1, vi x2] [vi xs0] (mk I L t) = if ¬ xs0 = 0 then Res d 235 11 [vr 12 i0, vi x1, vi x2] [] (mk I L t) else Res d 235 7 [vr 12 i0, vi x1, vi x2] [] (mk I L t) :=
  e_ifne D235_4 rfl rfl
theorem b235_7 {d : Nat} {i0 : Nat} {x1 x2 : Int} {I L : Nat → Nat → Nat → Int} {t : Nat → Nat} : Res d 235 7 [vr 12 i0, vi x1, vi x2] [] (mk I L t) = some (vl (-1), (mk I L t)) :=
  Eq.trans (e_ldc2 (x := -1) D235_7 rfl o_235 l_12_543 rfl) <| e_lret D235_10 rfl
theorem b235_11 {d : Nat} {i0 : Nat} {x1 x2 : Int} {I L : Nat → Nat → Nat → Int} {t : Nat → Nat} : Res (d + 1) 235 11 [vr 12 i0, vi x1, vi x2] [] (mk I L t) = (Cal d 146 [vi x2, vi 0, vi 1] (mk I L t)).bind fun v => Res (d + 1) 235 17 [vr 12 i0, vi x1, vi x2] (psh 146 v.1 []) v.2 :=
  Eq.trans (e_iload_n D235_11 rfl rfl) <| Eq.trans (e_iconst (x := 0) D235_12 rfl rfl) <| Eq.trans (e_iconst (x := 1) D235_13 rfl rfl) <| e_callS D235_14 rfl o_235 m_12_219 (by decide) rfl rfl
theorem b235_17 {d : Nat} {i0 : Nat} {x1 x2 xs0 : Int} {I L : Nat → Nat → Nat → Int} {t : Nat → Nat} : Res d 235 17 [vr 12 i0, vi x1, vi x2] [vi xs0] (mk I L t) = if xs0 = 0 then Res d 235 27 [vr 12 i0, vi x1, vi x2] [] (mk I L t) else Res d 235 20 [vr 12 i0, vi x1, vi x2] [] (mk I L t) :=
  e_ifeq D235_17 rfl rfl
theorem b235_20 {d : Nat} {i0 : Nat} {x1 x2 : Int} {I L : Nat → Nat → Nat → Int} {t : Nat → Nat} : Res (d + 1) 235 20 [vr 12 i0, vi x1, vi x2] [] (mk I L t) = (Cal d 231 [vr 12 i0, vi x1, vi x2] (mk I L t)).bind fun v => Res (d + 1) 235 26 [vr 12 i0, vi x1, vi x2] (psh 231 v.1 []) v.2 :=
  Eq.trans (e_aload_n D235_20 rfl rfl) <| Eq.trans (e_iload_n D235_21 rfl rfl) <| Eq.trans (e_iload_n D235_22 rfl rfl) <| e_callV D235_23 rfl o_235 m_12_539 (by decide) rfl rfl
theorem b235_26 {d : Nat} {i0 : Nat} {x1 x2 xs0 : Int} {I L : Nat → Nat → Nat → Int} {t : Nat → Nat} : Res d 235 26 [vr 12 i0, vi x1, vi x2] [vl xs0] (mk I L t) = some (vl xs0, (mk I L t)) :=
  e_lret D235_26 rfl
theorem b235_27 {d : Nat} {i0 : Nat} {x1 x2 : Int} {I L : Nat → Nat → Nat → Int} {t : Nat → Nat} : Res d 235 27 [vr 12 i0, vi x1, vi x2] [] (mk I L t) = if ¬ x2 = 2 then Res d 235 46 [vr 12 i0, vi x1, vi x2] [] (mk I L t) else Res d 235 32 [vr 12 i0, vi x1, vi x2] [] (mk I L t) :=
  Eq.trans (e_iload_n D235_27 rfl rfl) <| Eq.trans (e_iconst (x := 2) D235_28 rfl rfl) <| e_icne D235_29 rfl rfl
theorem b235_32 {d : Nat} {i0 : Nat} {x1 x2 : Int} {I L : Nat → Nat → Nat → Int} {t : Nat → Nat} : Res (d + 1) 235 32 [vr 12 i0, vi x1, vi x2] [] (mk I L t) = (Cal d 232 [vr 12 i0, vi x1] (mk I L t)).bind fun v => Res (d + 1) 235 37 [vr 12 i0, vi x1, vi x2] (psh 232 v.1 []) v.2 :=
  Eq.trans (e_aload_n D235_32 rfl rfl) <| Eq.trans (e_iload_n D235_33 rfl rfl) <| e_callV D235_34 rfl o_235 m_12_545 (by decide) rfl rfl
theorem b235_37 {d : Nat} {i0 : Nat} {x1 x2 xs0 : Int} {I L : Nat → Nat → Nat → Int} {t : Nat → Nat} : Res d 235 37 [vr 12 i0, vi x1, vi x2] [vi xs0] (mk I L t) = if xs0 = 0 then Res d 235 44 [vr 12 i0, vi x1, vi x2] [] (mk I L t) else Res d 235 40 [vr 12 i0, vi x1, vi x2] [] (mk I L t) :=
  e_ifeq D235_37 rfl rfl
theorem b235_40 {d : Nat} {i0 : Nat} {x1 x2 : Int} {I L : Nat → Nat → Nat → Int} {t : Nat → Nat} : Res d 235 40 [vr 12 i0, vi x1, vi x2] [] (mk I L t) = Res d 235 45 [vr 12 i0, vi x1, vi x2] [vl 1] (mk I L t) :=
  Eq.trans (e_lconst (x := 1) D235_40 rfl rfl) <| e_goto (q1 := 45) D235_41 rfl
theorem b235_44 {d : Nat} {i0 : Nat} {x1 x2 : Int} {I L : Nat → Nat → Nat → Int} {t : Nat → Nat} : Res d 235 44 [vr 12 i0, vi x1, vi x2] [] (mk I L t) = Res d 235 45 [vr 12 i0, vi x1, vi x2] [vl 0] (mk I L t) :=
  e_lconst (x := 0) D235_44 rfl rfl
theorem b235_45 {d : Nat} {i0 : Nat} {x1 x2 xs0 : Int} {I L : Nat → Nat → Nat → Int} {t : Nat → Nat} : Res d 235 45 [vr 12 i0, vi x1, vi x2] [vl xs0] (mk I L t) = some (vl xs0, (mk I L t)) :=
  e_lret D235_45 rfl
theorem b235_46 {d : Nat} {i0 : Nat} {x1 x2 : Int} {I L : Nat → Nat → Nat → Int} {t : Nat → Nat} : Res (d + 1) 235 46 [vr 12 i0, vi x1, vi x2] [] (mk I L t) = (Cal d 146 [vi x2, vi 10, vi 14] (mk I L t)).bind fun v => Res (d + 1) 235 54 [vr 12 i0, vi x1, vi x2] (psh 146 v.1 []) v.2 :=
  Eq.trans (e_iload_n D235_46 rfl rfl) <| Eq.trans (e_bipush (x := 10) D235_47 rfl rfl) <| Eq.trans (e_bipush (x := 14) D235_49 rfl rfl) <| e_callS D235_51 rfl o_235 m_12_219 (by decide) rfl rfl
theorem b235_54 {d : Nat} {i0 : Nat} {x1 x2 xs0 : Int} {I L : Nat → Nat → Nat → Int} {t : Nat → Nat} : Res d 235 54 [vr 12 i0, vi x1, vi x2] [vi xs0] (mk I L t) = if xs0 = 0 then Res d 235 68 [vr 12 i0, vi x1, vi x2] [] (mk I L t) else Res d 235 57 [vr 12 i0, vi x1, vi x2] [] (mk I L t) :=
  e_ifeq D235_54 rfl rfl
theorem b235_57 {d : Nat} {i0 : Nat} {x1 x2 : Int} {I L : Nat → Nat → Nat → Int} {t : Nat → Nat} : Res (d + 1) 235 57 [vr 12 i0, vi x1, vi x2] [] (mk I L t) = (Cal d 233 [vr 12 i0, vi x1, vi (w32 (x2 - 10)), vi 1] (mk I L t)).bind fun v => Res (d + 1) 235 67 [vr 12 i0, vi x1, vi x2] (psh 233 v.1 []) v.2 :=
  Eq.trans (e_aload_n D235_57 rfl rfl) <| Eq.trans (e_iload_n D235_58 rfl rfl) <| Eq.trans (e_iload_n D235_59 rfl rfl) <| Eq.trans (e_bipush (x := 10) D235_60 rfl rfl) <| Eq.trans (e_isub D235_62 rfl) <| Eq.trans (e_iconst (x := 1) D235_63 rfl rfl) <| e_callV D235_64 rfl o_235 m_12_548 (by decide) rfl rfl
theorem b235_67 {d : Nat} {i0 : Nat} {x1 x2 xs0 : Int} {I L : Nat → Nat → Nat → Int} {t : Nat → Nat} : Res d 235 67 [vr 12 i0, vi x1, vi x2] [vl xs0] (mk I L t) = some (vl xs0, (mk I L t)) :=
  e_lret D235_67 rfl
theorem b235_68 {d : Nat} {i0 : Nat} {x1 x2 : Int} {I L : Nat → Nat → Nat → Int} {t : Nat → Nat} : Res (d + 1) 235 68 [vr 12 i0, vi x1, vi x2] [] (mk I L t) = (Cal d 146 [vi x2, vi 20, vi 24] (mk I L t)).bind fun v => Res (d + 1) 235 76 [vr 12 i0, vi x1, vi x2] (psh 146 v.1 []) v.2 :=
  Eq.trans (e_iload_n D235_68 rfl rfl) <| Eq.trans (e_bipush (x := 20) D235_69 rfl rfl) <| Eq.trans (e_bipush (x := 24) D235_71 rfl rfl) <| e_callS D235_73 rfl o_235 m_12_219 (by decide) rfl rfl
theorem b235_76 {d : Nat} {i0 : Nat} {x1 x2 xs0 : Int} {I L : Nat → Nat → Nat → Int} {t : Nat → Nat} : Res d 235 76 [vr 12 i0, vi x1, vi x2] [vi xs0] (mk I L t) = if xs0 = 0 then Res d 235 90 [vr 12 i0, vi x1, vi x2] [] (mk I L t) else Res d 235 79 [vr 12 i0, vi x1, vi x2] [] (mk I L t) :=
  e_ifeq D235_76 rfl rfl
theorem b235_79 {d : Nat} {i0 : Nat} {x1 x2 : Int} {I L : Nat → Nat → Nat → Int} {t : Nat → Nat} : Res (d + 1) 235 79 [vr 12 i0, vi x1, vi x2] [] (mk I L t) = (Cal d 233 [vr 12 i0, vi x1, vi (w32 (x2 - 20)), vi 0] (mk I L t)).bind fun v => Res (d + 1) 235 89 [vr 12 i0, vi x1, vi x2] (psh 233 v.1 []) v.2 :=
  Eq.trans (e_aload_n D235_79 rfl rfl) <| Eq.trans (e_iload_n D235_80 rfl rfl) <| Eq.trans (e_iload_n D235_81 rfl rfl) <| Eq.trans (e_bipush (x := 20) D235_82 rfl rfl) <| Eq.trans (e_isub D235_84 rfl) <| Eq.trans (e_iconst (x := 0) D235_85 rfl rfl) <| e_callV D235_86 rfl o_235 m_12_548 (by decide) rfl rfl
theorem b235_89 {d : Nat} {i0 : Nat} {x1 x2 xs0 : Int} {I L : Nat → Nat → Nat → Int} {t : Nat → Nat} : Res d 235 89 [vr 12 i0, vi x1, vi x2] [vl xs0] (mk I L t) = some (vl xs0, (mk I L t)) :=
  e_lret D235_89 rfl
theorem b235_90 {d : Nat} {i0 : Nat} {x1 x2 : Int} {I L : Nat → Nat → Nat → Int} {t : Nat → Nat} : Res d 235 90 [vr 12 i0, vi x1, vi x2] [] (mk I L t) = if x2 = 30 then Res d 235 102 [vr 12 i0, vi x1, vi x2] [] (mk I L t) else Res d 235 96 [vr 12 i0, vi x1, vi x2] [] (mk I L t) :=
  Eq.trans (e_iload_n D235_90 rfl rfl) <| Eq.trans (e_bipush (x := 30) D235_91 rfl rfl) <| e_iceq D235_93 rfl rfl
theorem b235_96 {d : Nat} {i0 : Nat} {x1 x2 : Int} {I L : Nat → Nat → Nat → Int} {t : Nat → Nat} : Res d 235 96 [vr 12 i0, vi x1, vi x2] [] (mk I L t) = if ¬ x2 = 31 then Res d 235 121 [vr 12 i0, vi x1, vi x2] [] (mk I L t) else Res d 235 102 [vr 12 i0, vi x1, vi x2] [] (mk I L t) :=
  Eq.trans (e_iload_n D235_96 rfl rfl) <| Eq.trans (e_bipush (x := 31) D235_97 rfl rfl) <| e_icne D235_99 rfl rfl
theorem b235_102 {d : Nat} {i0 : Nat} {x1 x2 : Int} {I L : Nat → Nat → Nat → Int} {t : Nat → Nat} : Res d 235 102 [vr 12 i0, vi x1, vi x2] [] (mk I L t) = if ¬ x2 = 30 then Res d 235 114 [vr 12 i0, vi x1, vi x2] [vi x1, vr 12 i0] (mk I L t) else Res d 235 110 [vr 12 i0, vi x1, vi x2] [vi x1, vr 12 i0] (mk I L t) :=
  Eq.trans (e_aload_n D235_102 rfl rfl) <| Eq.trans (e_iload_n D235_103 rfl rfl) <| Eq.trans (e_iload_n D235_104 rfl rfl) <| Eq.trans (e_bipush (x := 30) D235_105 rfl rfl) <| e_icne D235_107 rfl rfl
theorem b235_110 {d : Nat} {i0 is0 : Nat} {x1 x2 xs1 : Int} {I L : Nat → Nat → Nat → Int} {t : Nat → Nat} : Res d 235 110 [vr 12 i0, vi x1, vi x2] [vi xs1, vr 12 is0] (mk I L t) = Res d 235 115 [vr 12 i0, vi x1, vi x2] [vi 1, vi xs1, vr 12 is0] (mk I L t) :=
  Eq.trans (e_iconst (x := 1) D235_110 rfl rfl) <| e_goto (q1 := 115) D235_111 rfl
theorem b235_114 {d : Nat} {i0 is0 : Nat} {x1 x2 xs1 : Int} {I L : Nat → Nat → Nat → Int} {t : Nat → Nat} : Res d 235 114 [vr 12 i0, vi x1, vi x2] [vi xs1, vr 12 is0] (mk I L t) = Res d 235 115 [vr 12 i0, vi x1, vi x2] [vi 0, vi xs1, vr 12 is0] (mk I L t) :=
  e_iconst (x := 0) D235_114 rfl rfl
theorem b235_115 {d : Nat} {i0 is0 : Nat} {x1 x2 xs2 xs1 : Int} {I L : Nat → Nat → Nat → Int} {t : Nat → Nat} : Res (d + 1) 235 115 [vr 12 i0, vi x1, vi x2] [vi xs2, vi xs1, vr 12 is0] (mk I L t) = (Cal d 234 [vr 12 is0, vi xs1, vi xs2] (mk I L t)).bind fun v => Res (d + 1) 235 118 [vr 12 i0, vi x1, vi x2] (psh 234 v.1 []) v.2 :=
  e_callV D235_115 rfl o_235 m_12_552 (by decide) rfl rfl
theorem b235_118 {d : Nat} {i0 : Nat} {x1 x2 xs0 : Int} {I L : Nat → Nat → Nat → Int} {t : Nat → Nat} : Res d 235 118 [vr 12 i0, vi x1, vi x2] [vl xs0] (mk I L t) = Res d 235 124 [vr 12 i0, vi x1, vi x2] [vl xs0] (mk I L t) :=
  e_goto (q1 := 124) D235_118 rfl
theorem b235_121 {d : Nat} {i0 : Nat} {x1 x2 : Int} {I L : Nat → Nat → Nat → Int} {t : Nat → Nat} : Res d 235 121 [vr 12 i0, vi x1, vi x2] [] (mk I L t) = Res d 235 124 [vr 12 i0, vi x1, vi x2] [vl (-1)] (mk I L t) :=
  e_ldc2 (x := -1) D235_121 rfl o_235 l_12_543 rfl
theorem b235_124 {d : Nat} {i0 : Nat} {x1 x2 xs0 : Int} {I L : Nat → Nat → Nat → Int} {t : Nat → Nat} : Res d 235 124 [vr 12 i0, vi x1, vi x2] [vl xs0] (mk I L t) = some (vl xs0, (mk I L t)) :=
  e_lret D235_124 rfl
/-! m_replays -/
theorem cc_236 : cod 236 = cX12_replays := rfl
theorem D236_0 : decode (cod 236) 0 = .ok (.aload_n 0, 1) := by rw [cc_236]; decide +kernel
theorem D236_1 : decode (cod 236) 1 = .ok (.getfield 153, 3) := by rw [cc_236]; decide +kernel
theorem D236_4 : decode (cod 236) 4 = .ok (.iload_n 1, 1) := by rw [cc_236]; decide +kernel
theorem D236_5 : decode (cod 236) 5 = .ok (.iaload, 1) := by rw [cc_236]; decide +kernel
theorem D236_6 : decode (cod 236) 6 = .ok (.istore_n 3, 1) := by rw [cc_236]; decide +kernel
theorem D236_7 : decode (cod 236) 7 = .ok (.aload_n 0, 1) := by rw [cc_236]; decide +kernel
theorem D236_8 : decode (cod 236) 8 = .ok (.aload_n 0, 1) := by rw [cc_236]; decide +kernel
theorem D236_9 : decode (cod 236) 9 = .ok (.getfield 111, 3) := by rw [cc_236]; decide +kernel
theorem D236_12 : decode (cod 236) 12 = .ok (.iload_n 3, 1) := by rw [cc_236]; decide +kernel
theorem D236_13 : decode (cod 236) 13 = .ok (.iaload, 1) := by rw [cc_236]; decide +kernel
theorem D236_14 : decode (cod 236) 14 = .ok (.aload_n 0, 1) := by rw [cc_236]; decide +kernel
theorem D236_15 : decode (cod 236) 15 = .ok (.getfield 114, 3) := by rw [cc_236]; decide +kernel
theorem D236_18 : decode (cod 236) 18 = .ok (.iload_n 3, 1) := by rw [cc_236]; decide +kernel
theorem D236_19 : decode (cod 236) 19 = .ok (.iaload, 1) := by rw [cc_236]; decide +kernel
theorem D236_20 : decode (cod 236) 20 = .ok (.aload_n 0, 1) := by rw [cc_236]; decide +kernel
theorem D236_21 : decode (cod 236) 21 = .ok (.getfield 117, 3) := by rw [cc_236]; decide +kernel
theorem D236_24 : decode (cod 236) 24 = .ok (.iload_n 3, 1) := by rw [cc_236]; decide +kernel
theorem D236_25 : decode (cod 236) 25 = .ok (.iaload, 1) := by rw [cc_236]; decide +kernel
theorem D236_26 : decode (cod 236) 26 = .ok (.aload_n 0, 1) := by rw [cc_236]; decide +kernel
theorem D236_27 : decode (cod 236) 27 = .ok (.getfield 120, 3) := by rw [cc_236]; decide +kernel
theorem D236_30 : decode (cod 236) 30 = .ok (.iload_n 3, 1) := by rw [cc_236]; decide +kernel
theorem D236_31 : decode (cod 236) 31 = .ok (.iaload, 1) := by rw [cc_236]; decide +kernel
theorem D236_32 : decode (cod 236) 32 = .ok (.aload_n 0, 1) := by rw [cc_236]; decide +kernel
theorem D236_33 : decode (cod 236) 33 = .ok (.getfield 123, 3) := by rw [cc_236]; decide +kernel
theorem D236_36 : decode (cod 236) 36 = .ok (.iload_n 3, 1) := by rw [cc_236]; decide +kernel
theorem D236_37 : decode (cod 236) 37 = .ok (.iaload, 1) := by rw [cc_236]; decide +kernel
theorem D236_38 : decode (cod 236) 38 = .ok (.aload_n 0, 1) := by rw [cc_236]; decide +kernel
theorem D236_39 : decode (cod 236) 39 = .ok (.getfield 126, 3) := by rw [cc_236]; decide +kernel
theorem D236_42 : decode (cod 236) 42 = .ok (.iload_n 3, 1) := by rw [cc_236]; decide +kernel
theorem D236_43 : decode (cod 236) 43 = .ok (.iaload, 1) := by rw [cc_236]; decide +kernel
theorem D236_44 : decode (cod 236) 44 = .ok (.aload_n 0, 1) := by rw [cc_236]; decide +kernel
theorem D236_45 : decode (cod 236) 45 = .ok (.getfield 132, 3) := by rw [cc_236]; decide +kernel
theorem D236_48 : decode (cod 236) 48 = .ok (.iload_n 3, 1) := by rw [cc_236]; decide +kernel
theorem D236_49 : decode (cod 236) 49 = .ok (.iaload, 1) := by rw [cc_236]; decide +kernel
theorem D236_50 : decode (cod 236) 50 = .ok (.invokevirtual 452, 3) := by rw [cc_236]; decide +kernel
theorem D236_53 : decode (cod 236) 53 = .ok (.iconst 0, 1) := by rw [cc_236]; decide +kernel
theorem D236_54 : decode (cod 236) 54 = .ok (.istore 4, 2) := by rw [cc_236]; decide +kernel
theorem D236_56 : decode (cod 236) 56 = .ok (.iload 4, 2) := by rw [cc_236]; decide +kernel
theorem D236_58 : decode (cod 236) 58 = .ok (.bipush 16, 2) := by rw [cc_236]; decide +kernel
theorem D236_60 : decode (cod 236) 60 = .ok (.if_icmp .ge 28, 3) := by rw [cc_236]; decide +kernel
theorem D236_63 : decode (cod 236) 63 = .ok (.aload_n 0, 1) := by rw [cc_236]; decide +kernel
theorem D236_64 : decode (cod 236) 64 = .ok (.getfield 102, 3) := by rw [cc_236]; decide +kernel
theorem D236_67 : decode (cod 236) 67 = .ok (.iload 4, 2) := by rw [cc_236]; decide +kernel
theorem D236_69 : decode (cod 236) 69 = .ok (.aload_n 0, 1) := by rw [cc_236]; decide +kernel
theorem D236_70 : decode (cod 236) 70 = .ok (.getfield 138, 3) := by rw [cc_236]; decide +kernel
theorem D236_73 : decode (cod 236) 73 = .ok (.bipush 16, 2) := by rw [cc_236]; decide +kernel
theorem D236_75 : decode (cod 236) 75 = .ok (.iload_n 3, 1) := by rw [cc_236]; decide +kernel
theorem D236_76 : decode (cod 236) 76 = .ok (.imul, 1) := by rw [cc_236]; decide +kernel
theorem D236_77 : decode (cod 236) 77 = .ok (.iload 4, 2) := by rw [cc_236]; decide +kernel
theorem D236_79 : decode (cod 236) 79 = .ok (.iadd, 1) := by rw [cc_236]; decide +kernel
theorem D236_80 : decode (cod 236) 80 = .ok (.iaload, 1) := by rw [cc_236]; decide +kernel
theorem D236_81 : decode (cod 236) 81 = .ok (.iastore, 1) := by rw [cc_236]; decide +kernel
theorem D236_82 : decode (cod 236) 82 = .ok (.iinc 4 1, 3) := by rw [cc_236]; decide +kernel
theorem D236_85 : decode (cod 236) 85 = .ok (.goto (-29), 3) := by rw [cc_236]; decide +kernel
theorem D236_88 : decode (cod 236) 88 = .ok (.aload_n 0, 1) := by rw [cc_236]; decide +kernel
theorem D236_89 : decode (cod 236) 89 = .ok (.getfield 150, 3) := by rw [cc_236]; decide +kernel
theorem D236_92 : decode (cod 236) 92 = .ok (.iload_n 3, 1) := by rw [cc_236]; decide +kernel
theorem D236_93 : decode (cod 236) 93 = .ok (.iaload, 1) := by rw [cc_236]; decide +kernel
theorem D236_94 : decode (cod 236) 94 = .ok (.istore 4, 2) := by rw [cc_236]; decide +kernel
theorem D236_96 : decode (cod 236) 96 = .ok (.aload_n 0, 1) := by rw [cc_236]; decide +kernel
theorem D236_97 : decode (cod 236) 97 = .ok (.getfield 141, 3) := by rw [cc_236]; decide +kernel
theorem D236_100 : decode (cod 236) 100 = .ok (.iload 4, 2) := by rw [cc_236]; decide +kernel
theorem D236_102 : decode (cod 236) 102 = .ok (.iaload, 1) := by rw [cc_236]; decide +kernel
theorem D236_103 : decode (cod 236) 103 = .ok (.iconst 1, 1) := by rw [cc_236]; decide +kernel
theorem D236_104 : decode (cod 236) 104 = .ok (.if_icmp .ne 14, 3) := by rw [cc_236]; decide +kernel
theorem D236_107 : decode (cod 236) 107 = .ok (.aload_n 0, 1) := by rw [cc_236]; decide +kernel
theorem D236_108 : decode (cod 236) 108 = .ok (.getfield 147, 3) := by rw [cc_236]; decide +kernel
theorem D236_111 : decode (cod 236) 111 = .ok (.iload 4, 2) := by rw [cc_236]; decide +kernel
theorem D236_113 : decode (cod 236) 113 = .ok (.iaload, 1) := by rw [cc_236]; decide +kernel
theorem D236_114 : decode (cod 236) 114 = .ok (.iload_n 1, 1) := by rw [cc_236]; decide +kernel
theorem D236_115 : decode (cod 236) 115 = .ok (.if_icmp .eq 131, 3) := by rw [cc_236]; decide +kernel
theorem D236_118 : decode (cod 236) 118 = .ok (.aload_n 0, 1) := by rw [cc_236]; decide +kernel
theorem D236_119 : decode (cod 236) 119 = .ok (.invokevirtual 419, 3) := by rw [cc_236]; decide +kernel
theorem D236_122 : decode (cod 236) 122 = .ok (.aload_n 0, 1) := by rw [cc_236]; decide +kernel
theorem D236_123 : decode (cod 236) 123 = .ok (.getfield 141, 3) := by rw [cc_236]; decide +kernel
theorem D236_126 : decode (cod 236) 126 = .ok (.iload 4, 2) := by rw [cc_236]; decide +kernel
theorem D236_128 : decode (cod 236) 128 = .ok (.iaload, 1) := by rw [cc_236]; decide +kernel
theorem D236_129 : decode (cod 236) 129 = .ok (.ifCond .ne 7, 3) := by rw [cc_236]; decide +kernel
theorem D236_132 : decode (cod 236) 132 = .ok (.aload_n 0, 1) := by rw [cc_236]; decide +kernel
theorem D236_133 : decode (cod 236) 133 = .ok (.invokevirtual 462, 3) := by rw [cc_236]; decide +kernel
theorem D236_136 : decode (cod 236) 136 = .ok (.aload_n 0, 1) := by rw [cc_236]; decide +kernel
theorem D236_137 : decode (cod 236) 137 = .ok (.getfield 144, 3) := by rw [cc_236]; decide +kernel
theorem D236_140 : decode (cod 236) 140 = .ok (.iload 4, 2) := by rw [cc_236]; decide +kernel
theorem D236_142 : decode (cod 236) 142 = .ok (.iaload, 1) := by rw [cc_236]; decide +kernel
theorem D236_143 : decode (cod 236) 143 = .ok (.iload_n 3, 1) := by rw [cc_236]; decide +kernel
theorem D236_144 : decode (cod 236) 144 = .ok (.if_icmp .ne 7, 3) := by rw [cc_236]; decide +kernel
theorem D236_147 : decode (cod 236) 147 = .ok (.iconst 1, 1) := by rw [cc_236]; decide +kernel
theorem D236_148 : decode (cod 236) 148 = .ok (.goto 4, 3) := by rw [cc_236]; decide +kernel
theorem D236_151 : decode (cod 236) 151 = .ok (.iconst 0, 1) := by rw [cc_236]; decide +kernel
theorem D236_152 : decode (cod 236) 152 = .ok (.istore 5, 2) := by rw [cc_236]; decide +kernel
theorem D236_154 : decode (cod 236) 154 = .ok (.iload 5, 2) := by rw [cc_236]; decide +kernel
theorem D236_156 : decode (cod 236) 156 = .ok (.ifCond .eq 52, 3) := by rw [cc_236]; decide +kernel
theorem D236_159 : decode (cod 236) 159 = .ok (.aload_n 0, 1) := by rw [cc_236]; decide +kernel
theorem D236_160 : decode (cod 236) 160 = .ok (.getfield 141, 3) := by rw [cc_236]; decide +kernel
theorem D236_163 : decode (cod 236) 163 = .ok (.iload 4, 2) := by rw [cc_236]; decide +kernel
theorem D236_165 : decode (cod 236) 165 = .ok (.iaload, 1) := by rw [cc_236]; decide +kernel
theorem D236_166 : decode (cod 236) 166 = .ok (.iconst 1, 1) := by rw [cc_236]; decide +kernel
theorem D236_167 : decode (cod 236) 167 = .ok (.if_icmp .ne 41, 3) := by rw [cc_236]; decide +kernel
theorem D236_170 : decode (cod 236) 170 = .ok (.aload_n 0, 1) := by rw [cc_236]; decide +kernel
theorem D236_171 : decode (cod 236) 171 = .ok (.getfield 147, 3) := by rw [cc_236]; decide +kernel
theorem D236_174 : decode (cod 236) 174 = .ok (.iload 4, 2) := by rw [cc_236]; decide +kernel
theorem D236_176 : decode (cod 236) 176 = .ok (.iaload, 1) := by rw [cc_236]; decide +kernel
theorem D236_177 : decode (cod 236) 177 = .ok (.iload_n 2, 1) := by rw [cc_236]; decide +kernel
theorem D236_178 : decode (cod 236) 178 = .ok (.if_icmp .eq 30, 3) := by rw [cc_236]; decide +kernel
theorem D236_181 : decode (cod 236) 181 = .ok (.aload_n 0, 1) := by rw [cc_236]; decide +kernel
theorem D236_182 : decode (cod 236) 182 = .ok (.aload_n 0, 1) := by rw [cc_236]; decide +kernel
theorem D236_183 : decode (cod 236) 183 = .ok (.getfield 147, 3) := by rw [cc_236]; decide +kernel
theorem D236_186 : decode (cod 236) 186 = .ok (.iload 4, 2) := by rw [cc_236]; decide +kernel
theorem D236_188 : decode (cod 236) 188 = .ok (.iaload, 1) := by rw [cc_236]; decide +kernel
theorem D236_189 : decode (cod 236) 189 = .ok (.invokevirtual 556, 3) := by rw [cc_236]; decide +kernel
theorem D236_192 : decode (cod 236) 192 = .ok (.aload_n 0, 1) := by rw [cc_236]; decide +kernel
theorem D236_193 : decode (cod 236) 193 = .ok (.aload_n 0, 1) := by rw [cc_236]; decide +kernel
theorem D236_194 : decode (cod 236) 194 = .ok (.getfield 162, 3) := by rw [cc_236]; decide +kernel
theorem D236_197 : decode (cod 236) 197 = .ok (.aload_n 0, 1) := by rw [cc_236]; decide +kernel
theorem D236_198 : decode (cod 236) 198 = .ok (.getfield 147, 3) := by rw [cc_236]; decide +kernel
theorem D236_201 : decode (cod 236) 201 = .ok (.iload 4, 2) := by rw [cc_236]; decide +kernel
theorem D236_203 : decode (cod 236) 203 = .ok (.iaload, 1) := by rw [cc_236]; decide +kernel
theorem D236_204 : decode (cod 236) 204 = .ok (.iaload, 1) := by rw [cc_236]; decide +kernel
theorem D236_205 : decode (cod 236) 205 = .ok (.invokevirtual 490, 3) := by rw [cc_236]; decide +kernel
theorem D236_208 : decode (cod 236) 208 = .ok (.iload 5, 2) := by rw [cc_236]; decide +kernel
theorem D236_210 : decode (cod 236) 210 = .ok (.ifCond .eq 30, 3) := by rw [cc_236]; decide +kernel
theorem D236_213 : decode (cod 236) 213 = .ok (.aload_n 0, 1) := by rw [cc_236]; decide +kernel
theorem D236_214 : decode (cod 236) 214 = .ok (.getfield 141, 3) := by rw [cc_236]; decide +kernel
theorem D236_217 : decode (cod 236) 217 = .ok (.iload 4, 2) := by rw [cc_236]; decide +kernel
theorem D236_219 : decode (cod 236) 219 = .ok (.iaload, 1) := by rw [cc_236]; decide +kernel
theorem D236_220 : decode (cod 236) 220 = .ok (.iconst 2, 1) := by rw [cc_236]; decide +kernel
theorem D236_221 : decode (cod 236) 221 = .ok (.if_icmp .ne 19, 3) := by rw [cc_236]; decide +kernel
theorem D236_224 : decode (cod 236) 224 = .ok (.aload_n 0, 1) := by rw [cc_236]; decide +kernel
theorem D236_225 : decode (cod 236) 225 = .ok (.aload_n 0, 1) := by rw [cc_236]; decide +kernel
theorem D236_226 : decode (cod 236) 226 = .ok (.iconst 3, 1) := by rw [cc_236]; decide +kernel
theorem D236_227 : decode (cod 236) 227 = .ok (.invokevirtual 432, 3) := by rw [cc_236]; decide +kernel
theorem D236_230 : decode (cod 236) 230 = .ok (.aload_n 0, 1) := by rw [cc_236]; decide +kernel
theorem D236_231 : decode (cod 236) 231 = .ok (.getfield 147, 3) := by rw [cc_236]; decide +kernel
theorem D236_234 : decode (cod 236) 234 = .ok (.iload 4, 2) := by rw [cc_236]; decide +kernel
theorem D236_236 : decode (cod 236) 236 = .ok (.iaload, 1) := by rw [cc_236]; decide +kernel
theorem D236_237 : decode (cod 236) 237 = .ok (.invokevirtual 481, 3) := by rw [cc_236]; decide +kernel
theorem D236_240 : decode (cod 236) 240 = .ok (.iinc 4 1, 3) := by rw [cc_236]; decide +kernel
theorem D236_243 : decode (cod 236) 243 = .ok (.goto (-147), 3) := by rw [cc_236]; decide +kernel
theorem D236_246 : decode (cod 236) 246 = .ok (.aload_n 0, 1) := by rw [cc_236]; decide +kernel
theorem D236_247 : decode (cod 236) 247 = .ok (.iload_n 1, 1) := by rw [cc_236]; decide +kernel
theorem D236_248 : decode (cod 236) 248 = .ok (.invokevirtual 556, 3) := by rw [cc_236]; decide +kernel
theorem D236_251 : decode (cod 236) 251 = .ok (.aload_n 0, 1) := by rw [cc_236]; decide +kernel
theorem D236_252 : decode (cod 236) 252 = .ok (.aload_n 0, 1) := by rw [cc_236]; decide +kernel
theorem D236_253 : decode (cod 236) 253 = .ok (.getfield 156, 3) := by rw [cc_236]; decide +kernel
theorem D236_256 : decode (cod 236) 256 = .ok (.iload_n 1, 1) := by rw [cc_236]; decide +kernel
theorem D236_257 : decode (cod 236) 257 = .ok (.iaload, 1) := by rw [cc_236]; decide +kernel
theorem D236_258 : decode (cod 236) 258 = .ok (.aload_n 0, 1) := by rw [cc_236]; decide +kernel
theorem D236_259 : decode (cod 236) 259 = .ok (.getfield 165, 3) := by rw [cc_236]; decide +kernel
theorem D236_262 : decode (cod 236) 262 = .ok (.iload_n 1, 1) := by rw [cc_236]; decide +kernel
theorem D236_263 : decode (cod 236) 263 = .ok (.iaload, 1) := by rw [cc_236]; decide +kernel
theorem D236_264 : decode (cod 236) 264 = .ok (.aload_n 0, 1) := by rw [cc_236]; decide +kernel
theorem D236_265 : decode (cod 236) 265 = .ok (.getfield 168, 3) := by rw [cc_236]; decide +kernel
theorem D236_268 : decode (cod 236) 268 = .ok (.iload_n 1, 1) := by rw [cc_236]; decide +kernel
theorem D236_269 : decode (cod 236) 269 = .ok (.iaload, 1) := by rw [cc_236]; decide +kernel
theorem D236_270 : decode (cod 236) 270 = .ok (.invokevirtual 478, 3) := by rw [cc_236]; decide +kernel
theorem D236_273 : decode (cod 236) 273 = .ok (.aload_n 0, 1) := by rw [cc_236]; decide +kernel
theorem D236_274 : decode (cod 236) 274 = .ok (.getfield 105, 3) := by rw [cc_236]; decide +kernel
theorem D236_277 : decode (cod 236) 277 = .ok (.aload_n 0, 1) := by rw [cc_236]; decide +kernel
theorem D236_278 : decode (cod 236) 278 = .ok (.getfield 162, 3) := by rw [cc_236]; decide +kernel
theorem D236_281 : decode (cod 236) 281 = .ok (.iload_n 1, 1) := by rw [cc_236]; decide +kernel
theorem D236_282 : decode (cod 236) 282 = .ok (.iaload, 1) := by rw [cc_236]; decide +kernel
theorem D236_283 : decode (cod 236) 283 = .ok (.iconst (-1), 1) := by rw [cc_236]; decide +kernel
theorem D236_284 : decode (cod 236) 284 = .ok (.if_icmp .ne 8, 3) := by rw [cc_236]; decide +kernel
theorem D236_287 : decode (cod 236) 287 = .ok (.bipush 9, 2) := by rw [cc_236]; decide +kernel
theorem D236_289 : decode (cod 236) 289 = .ok (.goto 9, 3) := by rw [cc_236]; decide +kernel
theorem D236_292 : decode (cod 236) 292 = .ok (.aload_n 0, 1) := by rw [cc_236]; decide +kernel
theorem D236_293 : decode (cod 236) 293 = .ok (.getfield 162, 3) := by rw [cc_236]; decide +kernel
theorem D236_296 : decode (cod 236) 296 = .ok (.iload_n 1, 1) := by rw [cc_236]; decide +kernel
theorem D236_297 : decode (cod 236) 297 = .ok (.iaload, 1) := by rw [cc_236]; decide +kernel
theorem D236_298 : decode (cod 236) 298 = .ok (.iaload, 1) := by rw [cc_236]; decide +kernel
theorem D236_299 : decode (cod 236) 299 = .ok (.ireturn, 1) := by rw [cc_236]; decide +kernel
theorem b236_0 {d : Nat} {i0 : Nat} {x1 x2 : Int} {I L : Nat → Nat → Nat → Int} {t : Nat → Nat} (g1 : 0 ≤ x1 ∧ x1 < 100) (g2 : 0 ≤ I 94 i0 x1.toNat ∧ I 94 i0 x1.toNat < 20) : Res (d + 1) 236 0 [vr 12 i0, vi x1, vi x2, vx, vx, vx] [] (mk I L t) = (Cal d 191 [vr 12 i0, vi (I 80 i0 (I 94 i0 x1.toNat).toNat), vi (I 81 i0 (I 94 i0 x1.toNat).toNat), vi (I 82 i0 (I 94 i0 x1.toNat).toNat), vi (I 83 i0 (I 94 i0 x1.toNat).toNat), vi (I 84 i0 (I 94 i0 x1.toNat).toNat), vi (I 85 i0 (I 94 i0 x1.toNat).toNat), vi (I 87 i0 (I 94 i0 x1.toNat).toNat)] (mk I L t)).bind fun v => Res (d + 1) 236 53 [vr 12 i0, vi x1, vi x2, vi (I 94 i0 x1.toNat), vx, vx] (psh 191 v.1 []) v.2 :=
  Eq.trans (e_aload_n D236_0 rfl rfl) <| Eq.trans (e_getP (p := (94, i0)) D236_1 rfl o_236 f_12_153 (sh_12 _) (by decide) (pp_12_73 _ _)) <| Eq.trans (e_iload_n D236_4 rfl rfl) <| Eq.trans (e_iald D236_5 rfl (al_94 _) g1) <| Eq.trans (e_istore_n (ls1 := [vr 12 i0, vi x1, vi x2, vi (I 94 i0 x1.toNat), vx, vx]) D236_6 rfl (show 3 < 6 by decide) rfl) <| Eq.trans (e_aload_n D236_7 rfl rfl) <| Eq.trans (e_aload_n D236_8 rfl rfl) <| Eq.trans (e_getP (p := (80, i0)) D236_9 rfl o_236 f_12_111 (sh_12 _) (by decide) (pp_12_58 _ _)) <| Eq.trans (e_iload_n D236_12 rfl rfl) <| Eq.trans (e_iald D236_13 rfl (al_80 _) g2) <| Eq.trans (e_aload_n D236_14 rfl rfl) <| Eq.trans (e_getP (p := (81, i0)) D236_15 rfl o_236 f_12_114 (sh_12 _) (by decide) (pp_12_59 _ _)) <| Eq.trans (e_iload_n D236_18 rfl rfl) <| Eq.trans (e_iald D236_19 rfl (al_81 _) g2) <| Eq.trans (e_aload_n D236_20 rfl rfl) <| Eq.trans (e_getP (p := (82, i0)) D236_21 rfl o_236 f_12_117 (sh_12 _) (by decide) (pp_12_60 _ _)) <| Eq.trans (e_iload_n D236_24 rfl rfl) <| Eq.trans (e_iald D236_25 rfl (al_82 _) g2) <| Eq.trans (e_aload_n D236_26 rfl rfl) <| Eq.trans (e_getP (p := (83, i0)) D236_27 rfl o_236 f_12_120 (sh_12 _) (by decide) (pp_12_61 _ _)) <| Eq.trans (e_iload_n D236_30 rfl rfl) <| Eq.trans (e_iald D236_31 rfl (al_83 _) g2) <| Eq.trans (e_aload_n D236_32 rfl rfl) <| Eq.trans (e_getP (p := (84, i0)) D236_33 rfl o_236 f_12_123 (sh_12 _) (by decide) (pp_12_62 _ _)) <| Eq.trans (e_iload_n D236_36 rfl rfl) <| Eq.trans (e_iald D236_37 rfl (al_84 _) g2) <| Eq.trans (e_aload_n D236_38 rfl rfl) <| Eq.trans (e_getP (p := (85, i0)) D236_39 rfl o_236 f_12_126 (sh_12 _) (by decide) (pp_12_63 _ _)) <| Eq.trans (e_iload_n D236_42 rfl rfl) <| Eq.trans (e_iald D236_43 rfl (al_85 _) g2) <| Eq.trans (e_aload_n D236_44 rfl rfl) <| Eq.trans (e_getP (p := (87, i0)) D236_45 rfl o_236 f_12_132 (sh_12 _) (by decide) (pp_12_65 _ _)) <| Eq.trans (e_iload_n D236_48 rfl rfl) <| Eq.trans (e_iald D236_49 rfl (al_87 _) g2) <| e_callV D236_50 rfl o_236 m_12_452 (by decide) rfl rfl
theorem b236_53 {d : Nat} {i0 : Nat} {x1 x2 x3 : Int} {I L : Nat → Nat → Nat → Int} {t : Nat → Nat} : Res d 236 53 [vr 12 i0, vi x1, vi x2, vi x3, vx, vx] [] (mk I L t) = Res d 236 56 [vr 12 i0, vi x1, vi x2, vi x3, vi 0, vx] [] (mk I L t) :=
  Eq.trans (e_iconst (x := 0) D236_53 rfl rfl) <| e_istore (ls1 := [vr 12 i0, vi x1, vi x2, vi x3, vi 0, vx]) D236_54 rfl (show 4 < 6 by decide) rfl
theorem b236_56 {d : Nat} {i0 : Nat} {x1 x2 x3 x4 : Int} {I L : Nat → Nat → Nat → Int} {t : Nat → Nat} : Res d 236 56 [vr 12 i0, vi x1, vi x2, vi x3, vi x4, vx] [] (mk I L t) = if 16 ≤ x4 then Res d 236 88 [vr 12 i0, vi x1, vi x2, vi x3, vi x4, vx] [] (mk I L t) else Res d 236 63 [vr 12 i0, vi x1, vi x2, vi x3, vi x4, vx] [] (mk I L t) :=
  Eq.trans (e_iload D236_56 rfl rfl) <| Eq.trans (e_bipush (x := 16) D236_58 rfl rfl) <| e_icge D236_60 rfl rfl
theorem b236_63 {d : Nat} {i0 : Nat} {x1 x2 x3 x4 : Int} {I L : Nat → Nat → Nat → Int} {t : Nat → Nat} (g1 : 0 ≤ w32 ((w32 (16 * x3)) + x4) ∧ w32 ((w32 (16 * x3)) + x4) < 320) (g2 : 0 ≤ x4 ∧ x4 < 16) : Res d 236 63 [vr 12 i0, vi x1, vi x2, vi x3, vi x4, vx] [] (mk I L t) = Res d 236 56 [vr 12 i0, vi x1, vi x2, vi x3, vi (w32 (x4 + 1)), vx] [] (mk (up3 I 77 i0 x4.toNat (I 89 i0 (w32 ((w32 (16 * x3)) + x4)).toNat)) L t) :=
  Eq.trans (e_aload_n D236_63 rfl rfl) <| Eq.trans (e_getP (p := (77, i0)) D236_64 rfl o_236 f_12_102 (sh_12 _) (by decide) (pp_12_53 _ _)) <| Eq.trans (e_iload D236_67 rfl rfl) <| Eq.trans (e_aload_n D236_69 rfl rfl) <| Eq.trans (e_getP (p := (89, i0)) D236_70 rfl o_236 f_12_138 (sh_12 _) (by decide) (pp_12_67 _ _)) <| Eq.trans (e_bipush (x := 16) D236_73 rfl rfl) <| Eq.trans (e_iload_n D236_75 rfl rfl) <| Eq.trans (e_imul D236_76 rfl) <| Eq.trans (e_iload D236_77 rfl rfl) <| Eq.trans (e_iadd D236_79 rfl) <| Eq.trans (e_iald D236_80 rfl (al_89 _) g1) <| Eq.trans (e_iast D236_81 rfl (al_77 _) rfl g2) <| Eq.trans (e_iinc (ls1 := [vr 12 i0, vi x1, vi x2, vi x3, vi (w32 (x4 + 1)), vx]) D236_82 rfl rfl rfl) <| e_goto (q1 := 56) D236_85 rfl
theorem b236_88 {d : Nat} {i0 : Nat} {x1 x2 x3 x4 : Int} {I L : Nat → Nat → Nat → Int} {t : Nat → Nat} (g1 : 0 ≤ x3 ∧ x3 < 20) : Res d 236 88 [vr 12 i0, vi x1, vi x2, vi x3, vi x4, vx] [] (mk I L t) = Res d 236 96 [vr 12 i0, vi x1, vi x2, vi x3, vi (I 93 i0 x3.toNat), vx] [] (mk I L t) :=
  Eq.trans (e_aload_n D236_88 rfl rfl) <| Eq.trans (e_getP (p := (93, i0)) D236_89 rfl o_236 f_12_150 (sh_12 _) (by decide) (pp_12_71 _ _)) <| Eq.trans (e_iload_n D236_92 rfl rfl) <| Eq.trans (e_iald D236_93 rfl (al_93 _) g1) <| e_istore (ls1 := [vr 12 i0, vi x1, vi x2, vi x3, vi (I 93 i0 x3.toNat), vx]) D236_94 rfl (show 4 < 6 by decide) rfl
theorem b236_96 {d : Nat} {i0 : Nat} {x1 x2 x3 x4 : Int} {u5 : MV} {I L : Nat → Nat → Nat → Int} {t : Nat → Nat} (g1 : 0 ≤ x4 ∧ x4 < 1900) : Res d 236 96 [vr 12 i0, vi x1, vi x2, vi x3, vi x4, u5] [] (mk I L t) = if ¬ I 90 i0 x4.toNat = 1 then Res d 236 118 [vr 12 i0, vi x1, vi x2, vi x3, vi x4, u5] [] (mk I L t) else Res d 236 107 [vr 12 i0, vi x1, vi x2, vi x3, vi x4, u5] [] (mk I L t) :=
  Eq.trans (e_aload_n D236_96 rfl rfl) <| Eq.trans (e_getP (p := (90, i0)) D236_97 rfl o_236 f_12_141 (sh_12 _) (by decide) (pp_12_68 _ _)) <| Eq.trans (e_iload D236_100 rfl rfl) <| Eq.trans (e_iald D236_102 rfl (al_90 _) g1) <| Eq.trans (e_iconst (x := 1) D236_103 rfl rfl) <| e_icne D236_104 rfl rfl
theorem b236_107 {d : Nat} {i0 : Nat} {x1 x2 x3 x4 : Int} {u5 : MV} {I L : Nat → Nat → Nat → Int} {t : Nat → Nat} (g1 : 0 ≤ x4 ∧ x4 < 1900) : Res d 236 107 [vr 12 i0, vi x1, vi x2, vi x3, vi x4, u5] [] (mk I L t) = if I 92 i0 x4.toNat = x1 then Res d 236 246 [vr 12 i0, vi x1, vi x2, vi x3, vi x4, u5] [] (mk I L t) else Res d 236 118 [vr 12 i0, vi x1, vi x2, vi x3, vi x4, u5] [] (mk I L t) :=
  Eq.trans (e_aload_n D236_107 rfl rfl) <| Eq.trans (e_getP (p := (92, i0)) D236_108 rfl o_236 f_12_147 (sh_12 _) (by decide) (pp_12_70 _ _)) <| Eq.trans (e_iload D236_111 rfl rfl) <| Eq.trans (e_iald D236_113 rfl (al_92 _) g1) <| Eq.trans (e_iload_n D236_114 rfl rfl) <| e_iceq D236_115 rfl rfl
theorem b236_118 {d : Nat} {i0 : Nat} {x1 x2 x3 x4 : Int} {u5 : MV} {I L : Nat → Nat → Nat → Int} {t : Nat → Nat} : Res (d + 1) 236 118 [vr 12 i0, vi x1, vi x2, vi x3, vi x4, u5] [] (mk I L t) = (Cal d 185 [vr 12 i0] (mk I L t)).bind fun v => Res (d + 1) 236 122 [vr 12 i0, vi x1, vi x2, vi x3, vi x4, u5] (psh 185 v.1 []) v.2 :=
  Eq.trans (e_aload_n D236_118 rfl rfl) <| e_callV D236_119 rfl o_236 m_12_419 (by decide) rfl rfl
theorem b236_122 {d : Nat} {i0 : Nat} {x1 x2 x3 x4 : Int} {u5 : MV} {I L : Nat → Nat → Nat → Int} {t : Nat → Nat} (g1 : 0 ≤ x4 ∧ x4 < 1900) : Res d 236 122 [vr 12 i0, vi x1, vi x2, vi x3, vi x4, u5] [] (mk I L t) = if ¬ I 90 i0 x4.toNat = 0 then Res d 236 136 [vr 12 i0, vi x1, vi x2, vi x3, vi x4, u5] [] (mk I L t) else Res d 236 132 [vr 12 i0, vi x1, vi x2, vi x3, vi x4, u5] [] (mk I L t) :=
  Eq.trans (e_aload_n D236_122 rfl rfl) <| Eq.trans (e_getP (p := (90, i0)) D236_123 rfl o_236 f_12_141 (sh_12 _) (by decide) (pp_12_68 _ _)) <| Eq.trans (e_iload D236_126 rfl rfl) <| Eq.trans (e_iald D236_128 rfl (al_90 _) g1) <| e_ifne D236_129 rfl rfl
theorem b236_132 {d : Nat} {i0 : Nat} {x1 x2 x3 x4 : Int} {u5 : MV} {I L : Nat → Nat → Nat → Int} {t : Nat → Nat} : Res (d + 1) 236 132 [vr 12 i0, vi x1, vi x2, vi x3, vi x4, u5] [] (mk I L t) = (Cal d 192 [vr 12 i0] (mk I L t)).bind fun v => Res (d + 1) 236 136 [vr 12 i0, vi x1, vi x2, vi x3, vi x4, u5] (psh 192 v.1 []) v.2 :=
  Eq.trans (e_aload_n D236_132 rfl rfl) <| e_callV D236_133 rfl o_236 m_12_462 (by decide) rfl rfl
theorem b236_136 {d : Nat} {i0 : Nat} {x1 x2 x3 x4 : Int} {u5 : MV} {I L : Nat → Nat → Nat → Int} {t : Nat → Nat} (g1 : 0 ≤ x4 ∧ x4 < 1900) : Res d 236 136 [vr 12 i0, vi x1, vi x2, vi x3, vi x4, u5] [] (mk I L t) = if ¬ I 91 i0 x4.toNat = x3 then Res d 236 151 [vr 12 i0, vi x1, vi x2, vi x3, vi x4, u5] [] (mk I L t) else Res d 236 147 [vr 12 i0, vi x1, vi x2, vi x3, vi x4, u5] [] (mk I L t) :=
  Eq.trans (e_aload_n D236_136 rfl rfl) <| Eq.trans (e_getP (p := (91, i0)) D236_137 rfl o_236 f_12_144 (sh_12 _) (by decide) (pp_12_69 _ _)) <| Eq.trans (e_iload D236_140 rfl rfl) <| Eq.trans (e_iald D236_142 rfl (al_91 _) g1) <| Eq.trans (e_iload_n D236_143 rfl rfl) <| e_icne D236_144 rfl rfl
theorem b236_147 {d : Nat} {i0 : Nat} {x1 x2 x3 x4 : Int} {u5 : MV} {I L : Nat → Nat → Nat → Int} {t : Nat → Nat} : Res d 236 147 [vr 12 i0, vi x1, vi x2, vi x3, vi x4, u5] [] (mk I L t) = Res d 236 152 [vr 12 i0, vi x1, vi x2, vi x3, vi x4, u5] [vi 1] (mk I L t) :=
  Eq.trans (e_iconst (x := 1) D236_147 rfl rfl) <| e_goto (q1 := 152) D236_148 rfl
theorem b236_151 {d : Nat} {i0 : Nat} {x1 x2 x3 x4 : Int} {u5 : MV} {I L : Nat → Nat → Nat → Int} {t : Nat → Nat} : Res d 236 151 [vr 12 i0, vi x1, vi x2, vi x3, vi x4, u5] [] (mk I L t) = Res d 236 152 [vr 12 i0, vi x1, vi x2, vi x3, vi x4, u5] [vi 0] (mk I L t) :=
  e_iconst (x := 0) D236_151 rfl rfl
theorem b236_152 {d : Nat} {i0 : Nat} {x1 x2 x3 x4 xs0 : Int} {u5 : MV} {I L : Nat → Nat → Nat → Int} {t : Nat → Nat} : Res d 236 152 [vr 12 i0, vi x1, vi x2, vi x3, vi x4, u5] [vi xs0] (mk I L t) = if xs0 = 0 then Res d 236 208 [vr 12 i0, vi x1, vi x2, vi x3, vi x4, vi xs0] [] (mk I L t) else Res d 236 159 [vr 12 i0, vi x1, vi x2, vi x3, vi x4, vi xs0] [] (mk I L t) :=
  Eq.trans (e_istore (ls1 := [vr 12 i0, vi x1, vi x2, vi x3, vi x4, vi xs0]) D236_152 rfl (show 5 < 6 by decide) rfl) <| Eq.trans (e_iload D236_154 rfl rfl) <| e_ifeq D236_156 rfl rfl
theorem b236_159 {d : Nat} {i0 : Nat} {x1 x2 x3 x4 x5 : Int} {I L : Nat → Nat → Nat → Int} {t : Nat → Nat} (g1 : 0 ≤ x4 ∧ x4 < 1900) : Res d 236 159 [vr 12 i0, vi x1, vi x2, vi x3, vi x4, vi x5] [] (mk I L t) = if ¬ I 90 i0 x4.toNat = 1 then Res d 236 208 [vr 12 i0, vi x1, vi x2, vi x3, vi x4, vi x5] [] (mk I L t) else Res d 236 170 [vr 12 i0, vi x1, vi x2, vi x3, vi x4, vi x5] [] (mk I L t) :=
  Eq.trans (e_aload_n D236_159 rfl rfl) <| Eq.trans (e_getP (p := (90, i0)) D236_160 rfl o_236 f_12_141 (sh_12 _) (by decide) (pp_12_68 _ _)) <| Eq.trans (e_iload D236_163 rfl rfl) <| Eq.trans (e_iald D236_165 rfl (al_90 _) g1) <| Eq.trans (e_iconst (x := 1) D236_166 rfl rfl) <| e_icne D236_167 rfl rfl
theorem b236_170 {d : Nat} {i0 : Nat} {x1 x2 x3 x4 x5 : Int} {I L : Nat → Nat → Nat → Int} {t : Nat → Nat} (g1 : 0 ≤ x4 ∧ x4 < 1900) : Res d 236 170 [vr 12 i0, vi x1, vi x2, vi x3, vi x4, vi x5] [] (mk I L t) = if I 92 i0 x4.toNat = x2 then Res d 236 208 [vr 12 i0, vi x1, vi x2, vi x3, vi x4, vi x5] [] (mk I L t) else Res d 236 181 [vr 12 i0, vi x1, vi x2, vi x3, vi x4, vi x5] [] (mk I L t) :=
  Eq.trans (e_aload_n D236_170 rfl rfl) <| Eq.trans (e_getP (p := (92, i0)) D236_171 rfl o_236 f_12_147 (sh_12 _) (by decide) (pp_12_70 _ _)) <| Eq.trans (e_iload D236_174 rfl rfl) <| Eq.trans (e_iald D236_176 rfl (al_92 _) g1) <| Eq.trans (e_iload_n D236_177 rfl rfl) <| e_iceq D236_178 rfl rfl
theorem b236_181 {d : Nat} {i0 : Nat} {x1 x2 x3 x4 x5 : Int} {I L : Nat → Nat → Nat → Int} {t : Nat → Nat} (g1 : 0 ≤ x4 ∧ x4 < 1900) : Res (d + 1) 236 181 [vr 12 i0, vi x1, vi x2, vi x3, vi x4, vi x5] [] (mk I L t) = (Cal d 207 [vr 12 i0, vi (I 92 i0 x4.toNat)] (mk I L t)).bind fun v => Res (d + 1) 236 192 [vr 12 i0, vi x1, vi x2, vi x3, vi x4, vi x5] (psh 207 v.1 []) v.2 :=
  Eq.trans (e_aload_n D236_181 rfl rfl) <| Eq.trans (e_aload_n D236_182 rfl rfl) <| Eq.trans (e_getP (p := (92, i0)) D236_183 rfl o_236 f_12_147 (sh_12 _) (by decide) (pp_12_70 _ _)) <| Eq.trans (e_iload D236_186 rfl rfl) <| Eq.trans (e_iald D236_188 rfl (al_92 _) g1) <| e_callV D236_189 rfl o_236 m_12_556 (by decide) rfl rfl
theorem b236_192 {d : Nat} {i0 : Nat} {x1 x2 x3 x4 x5 : Int} {I L : Nat → Nat → Nat → Int} {t : Nat → Nat} (g1 : 0 ≤ x4 ∧ x4 < 1900) (g2 : 0 ≤ I 92 i0 x4.toNat ∧ I 92 i0 x4.toNat < 100) : Res (d + 1) 236 192 [vr 12 i0, vi x1, vi x2, vi x3, vi x4, vi x5] [] (mk I L t) = (Cal d 204 [vr 12 i0, vi (I 97 i0 (I 92 i0 x4.toNat).toNat)] (mk I L t)).bind fun v => Res (d + 1) 236 208 [vr 12 i0, vi x1, vi x2, vi x3, vi x4, vi x5] (psh 204 v.1 []) v.2 :=
  Eq.trans (e_aload_n D236_192 rfl rfl) <| Eq.trans (e_aload_n D236_193 rfl rfl) <| Eq.trans (e_getP (p := (97, i0)) D236_194 rfl o_236 f_12_162 (sh_12 _) (by decide) (pp_12_76 _ _)) <| Eq.trans (e_aload_n D236_197 rfl rfl) <| Eq.trans (e_getP (p := (92, i0)) D236_198 rfl o_236 f_12_147 (sh_12 _) (by decide) (pp_12_70 _ _)) <| Eq.trans (e_iload D236_201 rfl rfl) <| Eq.trans (e_iald D236_203 rfl (al_92 _) g1) <| Eq.trans (e_iald D236_204 rfl (al_97 _) g2) <| e_callV D236_205 rfl o_236 m_12_490 (by decide) rfl rfl
theorem b236_208 {d : Nat} {i0 : Nat} {x1 x2 x3 x4 x5 : Int} {I L : Nat → Nat → Nat → Int} {t : Nat → Nat} : Res d 236 208 [vr 12 i0, vi x1, vi x2, vi x3, vi x4, vi x5] [] (mk I L t) = if x5 = 0 then Res d 236 240 [vr 12 i0, vi x1, vi x2, vi x3, vi x4, vi x5] [] (mk I L t) else Res d 236 213 [vr 12 i0, vi x1, vi x2, vi x3, vi x4, vi x5] [] (mk I L t) :=
  Eq.trans (e_iload D236_208 rfl rfl) <| e_ifeq D236_210 rfl rfl
theorem b236_213 {d : Nat} {i0 : Nat} {x1 x2 x3 x4 x5 : Int} {I L : Nat → Nat → Nat → Int} {t : Nat → Nat} (g1 : 0 ≤ x4 ∧ x4 < 1900) : Res d 236 213 [vr 12 i0, vi x1, vi x2, vi x3, vi x4, vi x5] [] (mk I L t) = if ¬ I 90 i0 x4.toNat = 2 then Res d 236 240 [vr 12 i0, vi x1, vi x2, vi x3, vi x4, vi x5] [] (mk I L t) else Res d 236 224 [vr 12 i0, vi x1, vi x2, vi x3, vi x4, vi x5] [] (mk I L t) :=
  Eq.trans (e_aload_n D236_213 rfl rfl) <| Eq.trans (e_getP (p := (90, i0)) D236_214 rfl o_236 f_12_141 (sh_12 _) (by decide) (pp_12_68 _ _)) <| Eq.trans (e_iload D236_217 rfl rfl) <| Eq.trans (e_iald D236_219 rfl (al_90 _) g1) <| Eq.trans (e_iconst (x := 2) D236_220 rfl rfl) <| e_icne D236_221 rfl rfl
theorem b236_224 {d : Nat} {i0 : Nat} {x1 x2 x3 x4 x5 : Int} {I L : Nat → Nat → Nat → Int} {t : Nat → Nat} : Res (d + 1) 236 224 [vr 12 i0, vi x1, vi x2, vi x3, vi x4, vi x5] [] (mk I L t) = (Cal d 184 [vr 12 i0, vi 3] (mk I L t)).bind fun v => Res (d + 1) 236 230 [vr 12 i0, vi x1, vi x2, vi x3, vi x4, vi x5] (psh 184 v.1 [vr 12 i0]) v.2 :=
  Eq.trans (e_aload_n D236_224 rfl rfl) <| Eq.trans (e_aload_n D236_225 rfl rfl) <| Eq.trans (e_iconst (x := 3) D236_226 rfl rfl) <| e_callV D236_227 rfl o_236 m_12_432 (by decide) rfl rfl
theorem b236_230 {d : Nat} {i0 is0 : Nat} {x1 x2 x3 x4 x5 xs1 : Int} {I L : Nat → Nat → Nat → Int} {t : Nat → Nat} (g1 : 0 ≤ x4 ∧ x4 < 1900) : Res (d + 1) 236 230 [vr 12 i0, vi x1, vi x2, vi x3, vi x4, vi x5] [vi xs1, vr 12 is0] (mk I L t) = (Cal d 190 [vr 12 is0, vi xs1, vi (I 92 i0 x4.toNat)] (mk I L t)).bind fun v => Res (d + 1) 236 240 [vr 12 i0, vi x1, vi x2, vi x3, vi x4, vi x5] (psh 190 v.1 []) v.2 :=
  Eq.trans (e_aload_n D236_230 rfl rfl) <| Eq.trans (e_getP (p := (92, i0)) D236_231 rfl o_236 f_12_147 (sh_12 _) (by decide) (pp_12_70 _ _)) <| Eq.trans (e_iload D236_234 rfl rfl) <| Eq.trans (e_iald D236_236 rfl (al_92 _) g1) <| e_callV D236_237 rfl o_236 m_12_481 (by decide) rfl rfl
theorem b236_240 {d : Nat} {i0 : Nat} {x1 x2 x3 x4 x5 : Int} {I L : Nat → Nat → Nat → Int} {t : Nat → Nat} : Res d 236 240 [vr 12 i0, vi x1, vi x2, vi x3, vi x4, vi x5] [] (mk I L t) = Res d 236 96 [vr 12 i0, vi x1, vi x2, vi x3, vi (w32 (x4 + 1)), vi x5] [] (mk I L t) :=
  Eq.trans (e_iinc (ls1 := [vr 12 i0, vi x1, vi x2, vi x3, vi (w32 (x4 + 1)), vi x5]) D236_240 rfl rfl rfl) <| e_goto (q1 := 96) D236_243 rfl
theorem b236_246 {d : Nat} {i0 : Nat} {x1 x2 x3 x4 : Int} {u5 : MV} {I L : Nat → Nat → Nat → Int} {t : Nat → Nat} : Res (d + 1) 236 246 [vr 12 i0, vi x1, vi x2, vi x3, vi x4, u5] [] (mk I L t) = (Cal d 207 [vr 12 i0, vi x1] (mk I L t)).bind fun v => Res (d + 1) 236 251 [vr 12 i0, vi x1, vi x2, vi x3, vi x4, u5] (psh 207 v.1 []) v.2 :=
  Eq.trans (e_aload_n D236_246 rfl rfl) <| Eq.trans (e_iload_n D236_247 rfl rfl) <| e_callV D236_248 rfl o_236 m_12_556 (by decide) rfl rfl
theorem b236_251 {d : Nat} {i0 : Nat} {x1 x2 x3 x4 : Int} {u5 : MV} {I L : Nat → Nat → Nat → Int} {t : Nat → Nat} (g1 : 0 ≤ x1 ∧ x1 < 100) : Res (d + 1) 236 251 [vr 12 i0, vi x1, vi x2, vi x3, vi x4, u5] [] (mk I L t) = (Cal d 193 [vr 12 i0, vi (I 95 i0 x1.toNat), vi (I 98 i0 x1.toNat), vi (I 99 i0 x1.toNat)] (mk I L t)).bind fun v => Res (d + 1) 236 273 [vr 12 i0, vi x1, vi x2, vi x3, vi x4, u5] (psh 193 v.1 []) v.2 :=
  Eq.trans (e_aload_n D236_251 rfl rfl) <| Eq.trans (e_aload_n D236_252 rfl rfl) <| Eq.trans (e_getP (p := (95, i0)) D236_253 rfl o_236 f_12_156 (sh_12 _) (by decide) (pp_12_74 _ _)) <| Eq.trans (e_iload_n D236_256 rfl rfl) <| Eq.trans (e_iald D236_257 rfl (al_95 _) g1) <| Eq.trans (e_aload_n D236_258 rfl rfl) <| Eq.trans (e_getP (p := (98, i0)) D236_259 rfl o_236 f_12_165 (sh_12 _) (by decide) (pp_12_77 _ _)) <| Eq.trans (e_iload_n D236_262 rfl rfl) <| Eq.trans (e_iald D236_263 rfl (al_98 _) g1) <| Eq.trans (e_aload_n D236_264 rfl rfl) <| Eq.trans (e_getP (p := (99, i0)) D236_265 rfl o_236 f_12_168 (sh_12 _) (by decide) (pp_12_78 _ _)) <| Eq.trans (e_iload_n D236_268 rfl rfl) <| Eq.trans (e_iald D236_269 rfl (al_99 _) g1) <| e_callV D236_270 rfl o_236 m_12_478 (by decide) rfl rfl
theorem b236_273 {d : Nat} {i0 : Nat} {x1 x2 x3 x4 : Int} {u5 : MV} {I L : Nat → Nat → Nat → Int} {t : Nat → Nat} (g1 : 0 ≤ x1 ∧ x1 < 100) : Res d 236 273 [vr 12 i0, vi x1, vi x2, vi x3, vi x4, u5] [] (mk I L t) = if ¬ I 97 i0 x1.toNat = -1 then Res d 236 292 [vr 12 i0, vi x1, vi x2, vi x3, vi x4, u5] [vr 78 i0] (mk I L t) else Res d 236 287 [vr 12 i0, vi x1, vi x2, vi x3, vi x4, u5] [vr 78 i0] (mk I L t) :=
  Eq.trans (e_aload_n D236_273 rfl rfl) <| Eq.trans (e_getP (p := (78, i0)) D236_274 rfl o_236 f_12_105 (sh_12 _) (by decide) (pp_12_56 _ _)) <| Eq.trans (e_aload_n D236_277 rfl rfl) <| Eq.trans (e_getP (p := (97, i0)) D236_278 rfl o_236 f_12_162 (sh_12 _) (by decide) (pp_12_76 _ _)) <| Eq.trans (e_iload_n D236_281 rfl rfl) <| Eq.trans (e_iald D236_282 rfl (al_97 _) g1) <| Eq.trans (e_iconst (x := -1) D236_283 rfl rfl) <| e_icne D236_284 rfl rfl
theorem b236_287 {d : Nat} {i0 is0 : Nat} {x1 x2 x3 x4 : Int} {u5 : MV} {I L : Nat → Nat → Nat → Int} {t : Nat → Nat} : Res d 236 287 [vr 12 i0, vi x1, vi x2, vi x3, vi x4, u5] [vr 78 is0] (mk I L t) = Res d 236 298 [vr 12 i0, vi x1, vi x2, vi x3, vi x4, u5] [vi 9, vr 78 is0] (mk I L t) :=
  Eq.trans (e_bipush (x := 9) D236_287 rfl rfl) <| e_goto (q1 := 298) D236_289 rfl
theorem b236_292 {d : Nat} {i0 is0 : Nat} {x1 x2 x3 x4 : Int} {u5 : MV} {I L : Nat → Nat → Nat → Int} {t : Nat → Nat} (g1 : 0 ≤ x1 ∧ x1 < 100) : Res d 236 292 [vr 12 i0, vi x1, vi x2, vi x3, vi x4, u5] [vr 78 is0] (mk I L t) = Res d 236 298 [vr 12 i0, vi x1, vi x2, vi x3, vi x4, u5] [vi (I 97 i0 x1.toNat), vr 78 is0] (mk I L t) :=
  Eq.trans (e_aload_n D236_292 rfl rfl) <| Eq.trans (e_getP (p := (97, i0)) D236_293 rfl o_236 f_12_162 (sh_12 _) (by decide) (pp_12_76 _ _)) <| Eq.trans (e_iload_n D236_296 rfl rfl) <| e_iald D236_297 rfl (al_97 _) g1
theorem b236_298 {d : Nat} {i0 is0 : Nat} {x1 x2 x3 x4 xs1 : Int} {u5 : MV} {I L : Nat → Nat → Nat → Int} {t : Nat → Nat} (g1 : 0 ≤ xs1 ∧ xs1 < 10) : Res d 236 298 [vr 12 i0, vi x1, vi x2, vi x3, vi x4, u5] [vi xs1, vr 78 is0] (mk I L t) = some (vi (I 78 is0 xs1.toNat), (mk I L t)) :=
  Eq.trans (e_iald D236_298 rfl (al_78 _) g1) <| e_iret D236_299 rfl
/-! m_canReplay -/
theorem cc_237 : cod 237 = cX12_canReplay := rfl
theorem D237_0 : decode (cod 237) 0 = .ok (.aload_n 0, 1) := by rw [cc_237]; decide +kernel
theorem D237_1 : decode (cod 237) 1 = .ok (.iload_n 1, 1) := by rw [cc_237]; decide +kernel
theorem D237_2 : decode (cod 237) 2 = .ok (.invokevirtual 493, 3) := by rw [cc_237]; decide +kernel
theorem D237_5 : decode (cod 237) 5 = .ok (.ifCond .eq 17, 3) := by rw [cc_237]; decide +kernel
theorem D237_8 : decode (cod 237) 8 = .ok (.aload_n 0, 1) := by rw [cc_237]; decide +kernel
theorem D237_9 : decode (cod 237) 9 = .ok (.getfield 156, 3) := by rw [cc_237]; decide +kernel
theorem D237_12 : decode (cod 237) 12 = .ok (.iload_n 1, 1) := by rw [cc_237]; decide +kernel
theorem D237_13 : decode (cod 237) 13 = .ok (.iaload, 1) := by rw [cc_237]; decide +kernel
theorem D237_14 : decode (cod 237) 14 = .ok (.iconst 2, 1) := by rw [cc_237]; decide +kernel
theorem D237_15 : decode (cod 237) 15 = .ok (.if_icmp .ge 7, 3) := by rw [cc_237]; decide +kernel
theorem D237_18 : decode (cod 237) 18 = .ok (.iconst 1, 1) := by rw [cc_237]; decide +kernel
theorem D237_19 : decode (cod 237) 19 = .ok (.goto 4, 3) := by rw [cc_237]; decide +kernel
theorem D237_22 : decode (cod 237) 22 = .ok (.iconst 0, 1) := by rw [cc_237]; decide +kernel
theorem D237_23 : decode (cod 237) 23 = .ok (.ireturn, 1) := by rw [cc_237]; decide +kernel
theorem b237_0 {d : Nat} {i0 : Nat} {x1 : Int} {I L : Nat → Nat → Nat → Int} {t : Nat → Nat} : Res (d + 1) 237 0 [vr 12 i0, vi x1] [] (mk I L t) = (Cal d 206 [vr 12 i0, vi x1] (mk I L t)).bind fun v => Res (d + 1) 237 5 [vr 12 i0, vi x1] (psh 206 v.1 []) v.2 :=
  Eq.trans (e_aload_n D237_0 rfl rfl) <| Eq.trans (e_iload_n D237_1 rfl rfl) <| e_callV D237_2 rfl o_237 m_12_493 (by decide) rfl rfl
theorem b237_5 {d : Nat} {i0 : Nat} {x1 xs0 : Int} {I L : Nat → Nat → Nat → Int} {t : Nat → Nat} : Res d 237 5 [vr 12 i0, vi x1] [vi xs0] (mk I L t) = if xs0 = 0 then Res d 237 22 [vr 12 i0, vi x1] [] (mk I L t) else Res d 237 8 [vr 12 i0, vi x1] [] (mk I L t) :=
  e_ifeq D237_5 rfl rfl
theorem b237_8 {d : Nat} {i0 : Nat} {x1 : Int} {I L : Nat → Nat → Nat → Int} {t : Nat → Nat} (g1 : 0 ≤ x1 ∧ x1 < 100) : Res d 237 8 [vr 12 i0, vi x1] [] (mk I L t) = if 2 ≤ I 95 i0 x1.toNat then Res d 237 22 [vr 12 i0, vi x1] [] (mk I L t) else Res d 237 18 [vr 12 i0, vi x1] [] (mk I L t) :=
  Eq.trans (e_aload_n D237_8 rfl rfl) <| Eq.trans (e_getP (p := (95, i0)) D237_9 rfl o_237 f_12_156 (sh_12 _) (by decide) (pp_12_74 _ _)) <| Eq.trans (e_iload_n D237_12 rfl rfl) <| Eq.trans (e_iald D237_13 rfl (al_95 _) g1) <| Eq.trans (e_iconst (x := 2) D237_14 rfl rfl) <| e_icge D237_15 rfl rfl
theorem b237_18 {d : Nat} {i0 : Nat} {x1 : Int} {I L : Nat → Nat → Nat → Int} {t : Nat → Nat} : Res d 237 18 [vr 12 i0, vi x1] [] (mk I L t) = Res d 237 23 [vr 12 i0, vi x1] [vi 1] (mk I L t) :=
  Eq.trans (e_iconst (x := 1) D237_18 rfl rfl) <| e_goto (q1 := 23) D237_19 rfl
theorem b237_22 {d : Nat} {i0 : Nat} {x1 : Int} {I L : Nat → Nat → Nat → Int} {t : Nat → Nat} : Res d 237 22 [vr 12 i0, vi x1] [] (mk I L t) = Res d 237 23 [vr 12 i0, vi x1] [vi 0] (mk I L t) :=
  e_iconst (x := 0) D237_22 rfl rfl
theorem b237_23 {d : Nat} {i0 : Nat} {x1 xs0 : Int} {I L : Nat → Nat → Nat → Int} {t : Nat → Nat} (g1 : xs0 = 0 ∨ xs0 = 1) : Res d 237 23 [vr 12 i0, vi x1] [vi xs0] (mk I L t) = some (vi xs0, (mk I L t)) :=
  e_iret D237_23 (nrz rfl g1)
/-! m_replayed -/
theorem cc_238 : cod 238 = cX12_replayed := rfl
theorem D238_0 : decode (cod 238) 0 = .ok (.aload_n 0, 1) := by rw [cc_238]; decide +kernel
theorem D238_1 : decode (cod 238) 1 = .ok (.iload_n 1, 1) := by rw [cc_238]; decide +kernel
theorem D238_2 : decode (cod 238) 2 = .ok (.invokevirtual 559, 3) := by rw [cc_238]; decide +kernel
theorem D238_5 : decode (cod 238) 5 = .ok (.ifCond .eq 43, 3) := by rw [cc_238]; decide +kernel
theorem D238_8 : decode (cod 238) 8 = .ok (.iload_n 2, 1) := by rw [cc_238]; decide +kernel
theorem D238_9 : decode (cod 238) 9 = .ok (.iconst (-1), 1) := by rw [cc_238]; decide +kernel
theorem D238_10 : decode (cod 238) 10 = .ok (.if_icmp .eq 29, 3) := by rw [cc_238]; decide +kernel
theorem D238_13 : decode (cod 238) 13 = .ok (.iload_n 2, 1) := by rw [cc_238]; decide +kernel
theorem D238_14 : decode (cod 238) 14 = .ok (.iconst 0, 1) := by rw [cc_238]; decide +kernel
theorem D238_15 : decode (cod 238) 15 = .ok (.iload_n 1, 1) := by rw [cc_238]; decide +kernel
theorem D238_16 : decode (cod 238) 16 = .ok (.iconst 1, 1) := by rw [cc_238]; decide +kernel
theorem D238_17 : decode (cod 238) 17 = .ok (.isub, 1) := by rw [cc_238]; decide +kernel
theorem D238_18 : decode (cod 238) 18 = .ok (.invokestatic 219, 3) := by rw [cc_238]; decide +kernel
theorem D238_21 : decode (cod 238) 21 = .ok (.ifCond .eq 27, 3) := by rw [cc_238]; decide +kernel
theorem D238_24 : decode (cod 238) 24 = .ok (.aload_n 0, 1) := by rw [cc_238]; decide +kernel
theorem D238_25 : decode (cod 238) 25 = .ok (.getfield 153, 3) := by rw [cc_238]; decide +kernel
theorem D238_28 : decode (cod 238) 28 = .ok (.iload_n 2, 1) := by rw [cc_238]; decide +kernel
theorem D238_29 : decode (cod 238) 29 = .ok (.iaload, 1) := by rw [cc_238]; decide +kernel
theorem D238_30 : decode (cod 238) 30 = .ok (.aload_n 0, 1) := by rw [cc_238]; decide +kernel
theorem D238_31 : decode (cod 238) 31 = .ok (.getfield 153, 3) := by rw [cc_238]; decide +kernel
theorem D238_34 : decode (cod 238) 34 = .ok (.iload_n 1, 1) := by rw [cc_238]; decide +kernel
theorem D238_35 : decode (cod 238) 35 = .ok (.iaload, 1) := by rw [cc_238]; decide +kernel
theorem D238_36 : decode (cod 238) 36 = .ok (.if_icmp .ne 12, 3) := by rw [cc_238]; decide +kernel
theorem D238_39 : decode (cod 238) 39 = .ok (.aload_n 0, 1) := by rw [cc_238]; decide +kernel
theorem D238_40 : decode (cod 238) 40 = .ok (.iload_n 1, 1) := by rw [cc_238]; decide +kernel
theorem D238_41 : decode (cod 238) 41 = .ok (.iload_n 2, 1) := by rw [cc_238]; decide +kernel
theorem D238_42 : decode (cod 238) 42 = .ok (.invokevirtual 562, 3) := by rw [cc_238]; decide +kernel
theorem D238_45 : decode (cod 238) 45 = .ok (.goto 4, 3) := by rw [cc_238]; decide +kernel
theorem D238_48 : decode (cod 238) 48 = .ok (.iconst (-1), 1) := by rw [cc_238]; decide +kernel
theorem D238_49 : decode (cod 238) 49 = .ok (.ireturn, 1) := by rw [cc_238]; decide +kernel
theorem b238_0 {d : Nat} {i0 : Nat} {x1 x2 : Int} {I L : Nat → Nat → Nat → Int} {t : Nat → Nat} : Res (d + 1) 238 0 [vr 12 i0, vi x1, vi x2] [] (mk I L t) = (Cal d 237 [vr 12 i0, vi x1] (mk I L t)).bind fun v => Res (d + 1) 238 5 [vr 12 i0, vi x1, vi x2] (psh 237 v.1 []) v.2 :=
  Eq.trans (e_aload_n D238_0 rfl rfl) <| Eq.trans (e_iload_n D238_1 rfl rfl) <| e_callV D238_2 rfl o_238 m_12_559 (by decide) rfl rfl
theorem b238_5 {d : Nat} {i0 : Nat} {x1 x2 xs0 : Int} {I L : Nat → Nat → Nat → Int} {t : Nat → Nat} : Res d 238 5 [vr 12 i0, vi x1, vi x2] [vi xs0] (mk I L t) = if xs0 = 0 then Res d 238 48 [vr 12 i0, vi x1, vi x2] [] (mk I L t) else Res d 238 8 [vr 12 i0, vi x1, vi x2] [] (mk I L t) :=
  e_ifeq D238_5 rfl rfl
theorem b238_8 {d : Nat} {i0 : Nat} {x1 x2 : Int} {I L : Nat → Nat → Nat → Int} {t : Nat → Nat} : Res d 238 8 [vr 12 i0, vi x1, vi x2] [] (mk I L t) = if x2 = -1 then Res d 238 39 [vr 12 i0, vi x1, vi x2] [] (mk I L t) else Res d 238 13 [vr 12 i0, vi x1, vi x2] [] (mk I L t) :=
  Eq.trans (e_iload_n D238_8 rfl rfl) <| Eq.trans (e_iconst (x := -1) D238_9 rfl rfl) <| e_iceq D238_10 rfl rfl
theorem b238_13 {d : Nat} {i0 : Nat} {x1 x2 : Int} {I L : Nat → Nat → Nat → Int} {t : Nat → Nat} : Res (d + 1) 238 13 [vr 12 i0, vi x1, vi x2] [] (mk I L t) = (Cal d 146 [vi x2, vi 0, vi (w32 (x1 - 1))] (mk I L t)).bind fun v => Res (d + 1) 238 21 [vr 12 i0, vi x1, vi x2] (psh 146 v.1 []) v.2 :=
  Eq.trans (e_iload_n D238_13 rfl rfl) <| Eq.trans (e_iconst (x := 0) D238_14 rfl rfl) <| Eq.trans (e_iload_n D238_15 rfl rfl) <| Eq.trans (e_iconst (x := 1) D238_16 rfl rfl) <| Eq.trans (e_isub D238_17 rfl) <| e_callS D238_18 rfl o_238 m_12_219 (by decide) rfl rfl
theorem b238_21 {d : Nat} {i0 : Nat} {x1 x2 xs0 : Int} {I L : Nat → Nat → Nat → Int} {t : Nat → Nat} : Res d 238 21 [vr 12 i0, vi x1, vi x2] [vi xs0] (mk I L t) = if xs0 = 0 then Res d 238 48 [vr 12 i0, vi x1, vi x2] [] (mk I L t) else Res d 238 24 [vr 12 i0, vi x1, vi x2] [] (mk I L t) :=
  e_ifeq D238_21 rfl rfl
theorem b238_24 {d : Nat} {i0 : Nat} {x1 x2 : Int} {I L : Nat → Nat → Nat → Int} {t : Nat → Nat} (g1 : 0 ≤ x2 ∧ x2 < 100) (g2 : 0 ≤ x1 ∧ x1 < 100) : Res d 238 24 [vr 12 i0, vi x1, vi x2] [] (mk I L t) = if ¬ I 94 i0 x2.toNat = I 94 i0 x1.toNat then Res d 238 48 [vr 12 i0, vi x1, vi x2] [] (mk I L t) else Res d 238 39 [vr 12 i0, vi x1, vi x2] [] (mk I L t) :=
  Eq.trans (e_aload_n D238_24 rfl rfl) <| Eq.trans (e_getP (p := (94, i0)) D238_25 rfl o_238 f_12_153 (sh_12 _) (by decide) (pp_12_73 _ _)) <| Eq.trans (e_iload_n D238_28 rfl rfl) <| Eq.trans (e_iald D238_29 rfl (al_94 _) g1) <| Eq.trans (e_aload_n D238_30 rfl rfl) <| Eq.trans (e_getP (p := (94, i0)) D238_31 rfl o_238 f_12_153 (sh_12 _) (by decide) (pp_12_73 _ _)) <| Eq.trans (e_iload_n D238_34 rfl rfl) <| Eq.trans (e_iald D238_35 rfl (al_94 _) g2) <| e_icne D238_36 rfl rfl
theorem b238_39 {d : Nat} {i0 : Nat} {x1 x2 : Int} {I L : Nat → Nat → Nat → Int} {t : Nat → Nat} : Res (d + 1) 238 39 [vr 12 i0, vi x1, vi x2] [] (mk I L t) = (Cal d 236 [vr 12 i0, vi x1, vi x2] (mk I L t)).bind fun v => Res (d + 1) 238 45 [vr 12 i0, vi x1, vi x2] (psh 236 v.1 []) v.2 :=
  Eq.trans (e_aload_n D238_39 rfl rfl) <| Eq.trans (e_iload_n D238_40 rfl rfl) <| Eq.trans (e_iload_n D238_41 rfl rfl) <| e_callV D238_42 rfl o_238 m_12_562 (by decide) rfl rfl
theorem b238_45 {d : Nat} {i0 : Nat} {x1 x2 xs0 : Int} {I L : Nat → Nat → Nat → Int} {t : Nat → Nat} : Res d 238 45 [vr 12 i0, vi x1, vi x2] [vi xs0] (mk I L t) = Res d 238 49 [vr 12 i0, vi x1, vi x2] [vi xs0] (mk I L t) :=
  e_goto (q1 := 49) D238_45 rfl
theorem b238_48 {d : Nat} {i0 : Nat} {x1 x2 : Int} {I L : Nat → Nat → Nat → Int} {t : Nat → Nat} : Res d 238 48 [vr 12 i0, vi x1, vi x2] [] (mk I L t) = Res d 238 49 [vr 12 i0, vi x1, vi x2] [vi (-1)] (mk I L t) :=
  e_iconst (x := -1) D238_48 rfl rfl
theorem b238_49 {d : Nat} {i0 : Nat} {x1 x2 xs0 : Int} {I L : Nat → Nat → Nat → Int} {t : Nat → Nat} : Res d 238 49 [vr 12 i0, vi x1, vi x2] [vi xs0] (mk I L t) = some (vi xs0, (mk I L t)) :=
  e_iret D238_49 rfl
/-! m_spoilt -/
theorem cc_239 : cod 239 = cX12_spoilt := rfl
theorem D239_0 : decode (cod 239) 0 = .ok (.aload_n 0, 1) := by rw [cc_239]; decide +kernel
theorem D239_1 : decode (cod 239) 1 = .ok (.iload_n 1, 1) := by rw [cc_239]; decide +kernel
theorem D239_2 : decode (cod 239) 2 = .ok (.invokevirtual 559, 3) := by rw [cc_239]; decide +kernel
theorem D239_5 : decode (cod 239) 5 = .ok (.ifCond .ne 5, 3) := by rw [cc_239]; decide +kernel
theorem D239_8 : decode (cod 239) 8 = .ok (.iconst (-1), 1) := by rw [cc_239]; decide +kernel
theorem D239_9 : decode (cod 239) 9 = .ok (.ireturn, 1) := by rw [cc_239]; decide +kernel
theorem D239_10 : decode (cod 239) 10 = .ok (.aload_n 0, 1) := by rw [cc_239]; decide +kernel
theorem D239_11 : decode (cod 239) 11 = .ok (.iload_n 1, 1) := by rw [cc_239]; decide +kernel
theorem D239_12 : decode (cod 239) 12 = .ok (.iconst (-1), 1) := by rw [cc_239]; decide +kernel
theorem D239_13 : decode (cod 239) 13 = .ok (.invokevirtual 562, 3) := by rw [cc_239]; decide +kernel
theorem D239_16 : decode (cod 239) 16 = .ok (.istore_n 2, 1) := by rw [cc_239]; decide +kernel
theorem D239_17 : decode (cod 239) 17 = .ok (.iconst (-1), 1) := by rw [cc_239]; decide +kernel
theorem D239_18 : decode (cod 239) 18 = .ok (.istore_n 3, 1) := by rw [cc_239]; decide +kernel
theorem D239_19 : decode (cod 239) 19 = .ok (.iconst 0, 1) := by rw [cc_239]; decide +kernel
theorem D239_20 : decode (cod 239) 20 = .ok (.istore 4, 2) := by rw [cc_239]; decide +kernel
theorem D239_22 : decode (cod 239) 22 = .ok (.iconst 0, 1) := by rw [cc_239]; decide +kernel
theorem D239_23 : decode (cod 239) 23 = .ok (.istore 5, 2) := by rw [cc_239]; decide +kernel
theorem D239_25 : decode (cod 239) 25 = .ok (.iload 5, 2) := by rw [cc_239]; decide +kernel
theorem D239_27 : decode (cod 239) 27 = .ok (.iload_n 1, 1) := by rw [cc_239]; decide +kernel
theorem D239_28 : decode (cod 239) 28 = .ok (.if_icmp .ge 58, 3) := by rw [cc_239]; decide +kernel
theorem D239_31 : decode (cod 239) 31 = .ok (.aload_n 0, 1) := by rw [cc_239]; decide +kernel
theorem D239_32 : decode (cod 239) 32 = .ok (.getfield 153, 3) := by rw [cc_239]; decide +kernel
theorem D239_35 : decode (cod 239) 35 = .ok (.iload 5, 2) := by rw [cc_239]; decide +kernel
theorem D239_37 : decode (cod 239) 37 = .ok (.iaload, 1) := by rw [cc_239]; decide +kernel
theorem D239_38 : decode (cod 239) 38 = .ok (.aload_n 0, 1) := by rw [cc_239]; decide +kernel
theorem D239_39 : decode (cod 239) 39 = .ok (.getfield 153, 3) := by rw [cc_239]; decide +kernel
theorem D239_42 : decode (cod 239) 42 = .ok (.iload_n 1, 1) := by rw [cc_239]; decide +kernel
theorem D239_43 : decode (cod 239) 43 = .ok (.iaload, 1) := by rw [cc_239]; decide +kernel
theorem D239_44 : decode (cod 239) 44 = .ok (.if_icmp .eq 6, 3) := by rw [cc_239]; decide +kernel
theorem D239_47 : decode (cod 239) 47 = .ok (.goto 33, 3) := by rw [cc_239]; decide +kernel
theorem D239_50 : decode (cod 239) 50 = .ok (.aload_n 0, 1) := by rw [cc_239]; decide +kernel
theorem D239_51 : decode (cod 239) 51 = .ok (.iload_n 1, 1) := by rw [cc_239]; decide +kernel
theorem D239_52 : decode (cod 239) 52 = .ok (.iload 5, 2) := by rw [cc_239]; decide +kernel
theorem D239_54 : decode (cod 239) 54 = .ok (.invokevirtual 562, 3) := by rw [cc_239]; decide +kernel
theorem D239_57 : decode (cod 239) 57 = .ok (.iload_n 2, 1) := by rw [cc_239]; decide +kernel
theorem D239_58 : decode (cod 239) 58 = .ok (.invokestatic 422, 3) := by rw [cc_239]; decide +kernel
theorem D239_61 : decode (cod 239) 61 = .ok (.istore 6, 2) := by rw [cc_239]; decide +kernel
theorem D239_63 : decode (cod 239) 63 = .ok (.iload 6, 2) := by rw [cc_239]; decide +kernel
theorem D239_65 : decode (cod 239) 65 = .ok (.iload 4, 2) := by rw [cc_239]; decide +kernel
theorem D239_67 : decode (cod 239) 67 = .ok (.if_icmp .gt 6, 3) := by rw [cc_239]; decide +kernel
theorem D239_70 : decode (cod 239) 70 = .ok (.goto 10, 3) := by rw [cc_239]; decide +kernel
theorem D239_73 : decode (cod 239) 73 = .ok (.iload 5, 2) := by rw [cc_239]; decide +kernel
theorem D239_75 : decode (cod 239) 75 = .ok (.istore_n 3, 1) := by rw [cc_239]; decide +kernel
theorem D239_76 : decode (cod 239) 76 = .ok (.iload 6, 2) := by rw [cc_239]; decide +kernel
theorem D239_78 : decode (cod 239) 78 = .ok (.istore 4, 2) := by rw [cc_239]; decide +kernel
theorem D239_80 : decode (cod 239) 80 = .ok (.iinc 5 1, 3) := by rw [cc_239]; decide +kernel
theorem D239_83 : decode (cod 239) 83 = .ok (.goto (-58), 3) := by rw [cc_239]; decide +kernel
theorem D239_86 : decode (cod 239) 86 = .ok (.iload_n 3, 1) := by rw [cc_239]; decide +kernel
theorem D239_87 : decode (cod 239) 87 = .ok (.ireturn, 1) := by rw [cc_239]; decide +kernel
theorem b239_0 {d : Nat} {i0 : Nat} {x1 : Int} {I L : Nat → Nat → Nat → Int} {t : Nat → Nat} : Res (d + 1) 239 0 [vr 12 i0, vi x1, vx, vx, vx, vx, vx] [] (mk I L t) = (Cal d 237 [vr 12 i0, vi x1] (mk I L t)).bind fun v => Res (d + 1) 239 5 [vr 12 i0, vi x1, vx, vx, vx, vx, vx] (psh 237 v.1 []) v.2 :=
  Eq.trans (e_aload_n D239_0 rfl rfl) <| Eq.trans (e_iload_n D239_1 rfl rfl) <| e_callV D239_2 rfl o_239 m_12_559 (by decide) rfl rfl
theorem b239_5 {d : Nat} {i0 : Nat} {x1 xs0 : Int} {I L : Nat → Nat → Nat → Int} {t : Nat → Nat} : Res d 239 5 [vr 12 i0, vi x1, vx, vx, vx, vx, vx] [vi xs0] (mk I L t) = if ¬ xs0 = 0 then Res d 239 10 [vr 12 i0, vi x1, vx, vx, vx, vx, vx] [] (mk I L t) else Res d 239 8 [vr 12 i0, vi x1, vx, vx, vx, vx, vx] [] (mk I L t) :=
  e_ifne D239_5 rfl rfl
theorem b239_8 {d : Nat} {i0 : Nat} {x1 : Int} {I L : Nat → Nat → Nat → Int} {t : Nat → Nat} : Res d 239 8 [vr 12 i0, vi x1, vx, vx, vx, vx, vx] [] (mk I L t) = some (vi (-1), (mk I L t)) :=
  Eq.trans (e_iconst (x := -1) D239_8 rfl rfl) <| e_iret D239_9 rfl
theorem b239_10 {d : Nat} {i0 : Nat} {x1 : Int} {I L : Nat → Nat → Nat → Int} {t : Nat → Nat} : Res (d + 1) 239 10 [vr 12 i0, vi x1, vx, vx, vx, vx, vx] [] (mk I L t) = (Cal d 236 [vr 12 i0, vi x1, vi (-1)] (mk I L t)).bind fun v => Res (d + 1) 239 16 [vr 12 i0, vi x1, vx, vx, vx, vx, vx] (psh 236 v.1 []) v.2 :=
  Eq.trans (e_aload_n D239_10 rfl rfl) <| Eq.trans (e_iload_n D239_11 rfl rfl) <| Eq.trans (e_iconst (x := -1) D239_12 rfl rfl) <| e_callV D239_13 rfl o_239 m_12_562 (by decide) rfl rfl
theorem b239_16 {d : Nat} {i0 : Nat} {x1 xs0 : Int} {I L : Nat → Nat → Nat → Int} {t : Nat → Nat} : Res d 239 16 [vr 12 i0, vi x1, vx, vx, vx, vx, vx] [vi xs0] (mk I L t) = Res d 239 25 [vr 12 i0, vi x1, vi xs0, vi (-1), vi 0, vi 0, vx] [] (mk I L t) :=
  Eq.trans (e_istore_n (ls1 := [vr 12 i0, vi x1, vi xs0, vx, vx, vx, vx]) D239_16 rfl (show 2 < 7 by decide) rfl) <| Eq.trans (e_iconst (x := -1) D239_17 rfl rfl) <| Eq.trans (e_istore_n (ls1 := [vr 12 i0, vi x1, vi xs0, vi (-1), vx, vx, vx]) D239_18 rfl (show 3 < 7 by decide) rfl) <| Eq.trans (e_iconst (x := 0) D239_19 rfl rfl) <| Eq.trans (e_istore (ls1 := [vr 12 i0, vi x1, vi xs0, vi (-1), vi 0, vx, vx]) D239_20 rfl (show 4 < 7 by decide) rfl) <| Eq.trans (e_iconst (x := 0) D239_22 rfl rfl) <| e_istore (ls1 := [vr 12 i0, vi x1, vi xs0, vi (-1), vi 0, vi 0, vx]) D239_23 rfl (show 5 < 7 by decide) rfl
theorem b239_25 {d : Nat} {i0 : Nat} {x1 x2 x3 x4 x5 : Int} {u6 : MV} {I L : Nat → Nat → Nat → Int} {t : Nat → Nat} : Res d 239 25 [vr 12 i0, vi x1, vi x2, vi x3, vi x4, vi x5, u6] [] (mk I L t) = if x1 ≤ x5 then Res d 239 86 [vr 12 i0, vi x1, vi x2, vi x3, vi x4, vi x5, u6] [] (mk I L t) else Res d 239 31 [vr 12 i0, vi x1, vi x2, vi x3, vi x4, vi x5, u6] [] (mk I L t) :=
  Eq.trans (e_iload D239_25 rfl rfl) <| Eq.trans (e_iload_n D239_27 rfl rfl) <| e_icge D239_28 rfl rfl
theorem b239_31 {d : Nat} {i0 : Nat} {x1 x2 x3 x4 x5 : Int} {u6 : MV} {I L : Nat → Nat → Nat → Int} {t : Nat → Nat} (g1 : 0 ≤ x5 ∧ x5 < 100) (g2 : 0 ≤ x1 ∧ x1 < 100) : Res d 239 31 [vr 12 i0, vi x1, vi x2, vi x3, vi x4, vi x5, u6] [] (mk I L t) = if I 94 i0 x5.toNat = I 94 i0 x1.toNat then Res d 239 50 [vr 12 i0, vi x1, vi x2, vi x3, vi x4, vi x5, u6] [] (mk I L t) else Res d 239 47 [vr 12 i0, vi x1, vi x2, vi x3, vi x4, vi x5, u6] [] (mk I L t) :=
  Eq.trans (e_aload_n D239_31 rfl rfl) <| Eq.trans (e_getP (p := (94, i0)) D239_32 rfl o_239 f_12_153 (sh_12 _) (by decide) (pp_12_73 _ _)) <| Eq.trans (e_iload D239_35 rfl rfl) <| Eq.trans (e_iald D239_37 rfl (al_94 _) g1) <| Eq.trans (e_aload_n D239_38 rfl rfl) <| Eq.trans (e_getP (p := (94, i0)) D239_39 rfl o_239 f_12_153 (sh_12 _) (by decide) (pp_12_73 _ _)) <| Eq.trans (e_iload_n D239_42 rfl rfl) <| Eq.trans (e_iald D239_43 rfl (al_94 _) g2) <| e_iceq D239_44 rfl rfl
theorem b239_47 {d : Nat} {i0 : Nat} {x1 x2 x3 x4 x5 : Int} {u6 : MV} {I L : Nat → Nat → Nat → Int} {t : Nat → Nat} : Res d 239 47 [vr 12 i0, vi x1, vi x2, vi x3, vi x4, vi x5, u6] [] (mk I L t) = Res d 239 80 [vr 12 i0, vi x1, vi x2, vi x3, vi x4, vi x5, u6] [] (mk I L t) :=
  e_goto (q1 := 80) D239_47 rfl
theorem b239_50 {d : Nat} {i0 : Nat} {x1 x2 x3 x4 x5 : Int} {u6 : MV} {I L : Nat → Nat → Nat → Int} {t : Nat → Nat} : Res (d + 1) 239 50 [vr 12 i0, vi x1, vi x2, vi x3, vi x4, vi x5, u6] [] (mk I L t) = (Cal d 236 [vr 12 i0, vi x1, vi x5] (mk I L t)).bind fun v => Res (d + 1) 239 57 [vr 12 i0, vi x1, vi x2, vi x3, vi x4, vi x5, u6] (psh 236 v.1 []) v.2 :=
  Eq.trans (e_aload_n D239_50 rfl rfl) <| Eq.trans (e_iload_n D239_51 rfl rfl) <| Eq.trans (e_iload D239_52 rfl rfl) <| e_callV D239_54 rfl o_239 m_12_562 (by decide) rfl rfl
theorem b239_57 {d : Nat} {i0 : Nat} {x1 x2 x3 x4 x5 xs0 : Int} {u6 : MV} {I L : Nat → Nat → Nat → Int} {t : Nat → Nat} : Res (d + 1) 239 57 [vr 12 i0, vi x1, vi x2, vi x3, vi x4, vi x5, u6] [vi xs0] (mk I L t) = (Cal d 186 [vi xs0, vi x2] (mk I L t)).bind fun v => Res (d + 1) 239 61 [vr 12 i0, vi x1, vi x2, vi x3, vi x4, vi x5, u6] (psh 186 v.1 []) v.2 :=
  Eq.trans (e_iload_n D239_57 rfl rfl) <| e_callS D239_58 rfl o_239 m_12_422 (by decide) rfl rfl
theorem b239_61 {d : Nat} {i0 : Nat} {x1 x2 x3 x4 x5 xs0 : Int} {u6 : MV} {I L : Nat → Nat → Nat → Int} {t : Nat → Nat} : Res d 239 61 [vr 12 i0, vi x1, vi x2, vi x3, vi x4, vi x5, u6] [vi xs0] (mk I L t) = if x4 < xs0 then Res d 239 73 [vr 12 i0, vi x1, vi x2, vi x3, vi x4, vi x5, vi xs0] [] (mk I L t) else Res d 239 70 [vr 12 i0, vi x1, vi x2, vi x3, vi x4, vi x5, vi xs0] [] (mk I L t) :=
  Eq.trans (e_istore (ls1 := [vr 12 i0, vi x1, vi x2, vi x3, vi x4, vi x5, vi xs0]) D239_61 rfl (show 6 < 7 by decide) rfl) <| Eq.trans (e_iload D239_63 rfl rfl) <| Eq.trans (e_iload D239_65 rfl rfl) <| e_icgt D239_67 rfl rfl
theorem b239_70 {d : Nat} {i0 : Nat} {x1 x2 x3 x4 x5 x6 : Int} {I L : Nat → Nat → Nat → Int} {t : Nat → Nat} : Res d 239 70 [vr 12 i0, vi x1, vi x2, vi x3, vi x4, vi x5, vi x6] [] (mk I L t) = Res d 239 80 [vr 12 i0, vi x1, vi x2, vi x3, vi x4, vi x5, vi x6] [] (mk I L t) :=
  e_goto (q1 := 80) D239_70 rfl
theorem b239_73 {d : Nat} {i0 : Nat} {x1 x2 x3 x4 x5 x6 : Int} {I L : Nat → Nat → Nat → Int} {t : Nat → Nat} : Res d 239 73 [vr 12 i0, vi x1, vi x2, vi x3, vi x4, vi x5, vi x6] [] (mk I L t) = Res d 239 80 [vr 12 i0, vi x1, vi x2, vi x5, vi x6, vi x5, vi x6] [] (mk I L t) :=
  Eq.trans (e_iload D239_73 rfl rfl) <| Eq.trans (e_istore_n (ls1 := [vr 12 i0, vi x1, vi x2, vi x5, vi x4, vi x5, vi x6]) D239_75 rfl (show 3 < 7 by decide) rfl) <| Eq.trans (e_iload D239_76 rfl rfl) <| e_istore (ls1 := [vr 12 i0, vi x1, vi x2, vi x5, vi x6, vi x5, vi x6]) D239_78 rfl (show 4 < 7 by decide) rfl
theorem b239_80 {d : Nat} {i0 : Nat} {x1 x2 x3 x4 x5 : Int} {u6 : MV} {I L : Nat → Nat → Nat → Int} {t : Nat → Nat} : Res d 239 80 [vr 12 i0, vi x1, vi x2, vi x3, vi x4, vi x5, u6] [] (mk I L t) = Res d 239 25 [vr 12 i0, vi x1, vi x2, vi x3, vi x4, vi (w32 (x5 + 1)), u6] [] (mk I L t) :=
  Eq.trans (e_iinc (ls1 := [vr 12 i0, vi x1, vi x2, vi x3, vi x4, vi (w32 (x5 + 1)), u6]) D239_80 rfl rfl rfl) <| e_goto (q1 := 25) D239_83 rfl
theorem b239_86 {d : Nat} {i0 : Nat} {x1 x2 x3 x4 x5 : Int} {u6 : MV} {I L : Nat → Nat → Nat → Int} {t : Nat → Nat} : Res d 239 86 [vr 12 i0, vi x1, vi x2, vi x3, vi x4, vi x5, u6] [] (mk I L t) = some (vi x3, (mk I L t)) :=
  Eq.trans (e_iload_n D239_86 rfl rfl) <| e_iret D239_87 rfl
/-! m_wasShown -/
theorem cc_240 : cod 240 = cX12_wasShown := rfl
theorem D240_0 : decode (cod 240) 0 = .ok (.iconst 0, 1) := by rw [cc_240]; decide +kernel
theorem D240_1 : decode (cod 240) 1 = .ok (.istore_n 3, 1) := by rw [cc_240]; decide +kernel
theorem D240_2 : decode (cod 240) 2 = .ok (.iload_n 3, 1) := by rw [cc_240]; decide +kernel
theorem D240_3 : decode (cod 240) 3 = .ok (.aload_n 0, 1) := by rw [cc_240]; decide +kernel
theorem D240_4 : decode (cod 240) 4 = .ok (.getfield 484, 3) := by rw [cc_240]; decide +kernel
theorem D240_7 : decode (cod 240) 7 = .ok (.if_icmp .ge 75, 3) := by rw [cc_240]; decide +kernel
theorem D240_10 : decode (cod 240) 10 = .ok (.aload_n 0, 1) := by rw [cc_240]; decide +kernel
theorem D240_11 : decode (cod 240) 11 = .ok (.getfield 153, 3) := by rw [cc_240]; decide +kernel
theorem D240_14 : decode (cod 240) 14 = .ok (.iload_n 3, 1) := by rw [cc_240]; decide +kernel
theorem D240_15 : decode (cod 240) 15 = .ok (.iaload, 1) := by rw [cc_240]; decide +kernel
theorem D240_16 : decode (cod 240) 16 = .ok (.iload_n 1, 1) := by rw [cc_240]; decide +kernel
theorem D240_17 : decode (cod 240) 17 = .ok (.if_icmp .eq 6, 3) := by rw [cc_240]; decide +kernel
theorem D240_20 : decode (cod 240) 20 = .ok (.goto 56, 3) := by rw [cc_240]; decide +kernel
theorem D240_23 : decode (cod 240) 23 = .ok (.iconst 0, 1) := by rw [cc_240]; decide +kernel
theorem D240_24 : decode (cod 240) 24 = .ok (.istore 4, 2) := by rw [cc_240]; decide +kernel
theorem D240_26 : decode (cod 240) 26 = .ok (.iload 4, 2) := by rw [cc_240]; decide +kernel
theorem D240_28 : decode (cod 240) 28 = .ok (.aload_n 0, 1) := by rw [cc_240]; decide +kernel
theorem D240_29 : decode (cod 240) 29 = .ok (.getfield 180, 3) := by rw [cc_240]; decide +kernel
theorem D240_32 : decode (cod 240) 32 = .ok (.iload_n 3, 1) := by rw [cc_240]; decide +kernel
theorem D240_33 : decode (cod 240) 33 = .ok (.iaload, 1) := by rw [cc_240]; decide +kernel
theorem D240_34 : decode (cod 240) 34 = .ok (.if_icmp .ge 42, 3) := by rw [cc_240]; decide +kernel
theorem D240_37 : decode (cod 240) 37 = .ok (.aload_n 0, 1) := by rw [cc_240]; decide +kernel
theorem D240_38 : decode (cod 240) 38 = .ok (.getfield 177, 3) := by rw [cc_240]; decide +kernel
theorem D240_41 : decode (cod 240) 41 = .ok (.bipush 9, 2) := by rw [cc_240]; decide +kernel
theorem D240_43 : decode (cod 240) 43 = .ok (.iload_n 3, 1) := by rw [cc_240]; decide +kernel
theorem D240_44 : decode (cod 240) 44 = .ok (.imul, 1) := by rw [cc_240]; decide +kernel
theorem D240_45 : decode (cod 240) 45 = .ok (.iload 4, 2) := by rw [cc_240]; decide +kernel
theorem D240_47 : decode (cod 240) 47 = .ok (.iadd, 1) := by rw [cc_240]; decide +kernel
theorem D240_48 : decode (cod 240) 48 = .ok (.iaload, 1) := by rw [cc_240]; decide +kernel
theorem D240_49 : decode (cod 240) 49 = .ok (.istore 5, 2) := by rw [cc_240]; decide +kernel
theorem D240_51 : decode (cod 240) 51 = .ok (.iload 5, 2) := by rw [cc_240]; decide +kernel
theorem D240_53 : decode (cod 240) 53 = .ok (.iconst (-1), 1) := by rw [cc_240]; decide +kernel
theorem D240_54 : decode (cod 240) 54 = .ok (.if_icmp .eq 16, 3) := by rw [cc_240]; decide +kernel
theorem D240_57 : decode (cod 240) 57 = .ok (.aload_n 0, 1) := by rw [cc_240]; decide +kernel
theorem D240_58 : decode (cod 240) 58 = .ok (.getfield 16, 3) := by rw [cc_240]; decide +kernel
theorem D240_61 : decode (cod 240) 61 = .ok (.iload 5, 2) := by rw [cc_240]; decide +kernel
theorem D240_63 : decode (cod 240) 63 = .ok (.iaload, 1) := by rw [cc_240]; decide +kernel
theorem D240_64 : decode (cod 240) 64 = .ok (.iload_n 2, 1) := by rw [cc_240]; decide +kernel
theorem D240_65 : decode (cod 240) 65 = .ok (.if_icmp .ne 5, 3) := by rw [cc_240]; decide +kernel
theorem D240_68 : decode (cod 240) 68 = .ok (.iconst 1, 1) := by rw [cc_240]; decide +kernel
theorem D240_69 : decode (cod 240) 69 = .ok (.ireturn, 1) := by rw [cc_240]; decide +kernel
theorem D240_70 : decode (cod 240) 70 = .ok (.iinc 4 1, 3) := by rw [cc_240]; decide +kernel
theorem D240_73 : decode (cod 240) 73 = .ok (.goto (-47), 3) := by rw [cc_240]; decide +kernel
theorem D240_76 : decode (cod 240) 76 = .ok (.iinc 3 1, 3) := by rw [cc_240]; decide +kernel
theorem D240_79 : decode (cod 240) 79 = .ok (.goto (-77), 3) := by rw [cc_240]; decide +kernel
theorem D240_82 : decode (cod 240) 82 = .ok (.iconst 0, 1) := by rw [cc_240]; decide +kernel
theorem D240_83 : decode (cod 240) 83 = .ok (.ireturn, 1) := by rw [cc_240]; decide +kernel
theorem b240_0 {d : Nat} {i0 : Nat} {x1 x2 : Int} {I L : Nat → Nat → Nat → Int} {t : Nat → Nat} : Res d 240 0 [vr 12 i0, vi x1, vi x2, vx, vx, vx] [] (mk I L t) = Res d 240 2 [vr 12 i0, vi x1, vi x2, vi 0, vx, vx] [] (mk I L t) :=
  Eq.trans (e_iconst (x := 0) D240_0 rfl rfl) <| e_istore_n (ls1 := [vr 12 i0, vi x1, vi x2, vi 0, vx, vx]) D240_1 rfl (show 3 < 6 by decide) rfl
theorem b240_2 {d : Nat} {i0 : Nat} {x1 x2 x3 : Int} {u4 u5 : MV} {I L : Nat → Nat → Nat → Int} {t : Nat → Nat} : Res d 240 2 [vr 12 i0, vi x1, vi x2, vi x3, u4, u5] [] (mk I L t) = if I 12 i0 3 ≤ x3 then Res d 240 82 [vr 12 i0, vi x1, vi x2, vi x3, u4, u5] [] (mk I L t) else Res d 240 10 [vr 12 i0, vi x1, vi x2, vi x3, u4, u5] [] (mk I L t) :=
  Eq.trans (e_iload_n D240_2 rfl rfl) <| Eq.trans (e_aload_n D240_3 rfl rfl) <| Eq.trans (e_getI D240_4 rfl o_240 f_12_484 (sh_12 _) (by decide)) <| e_icge D240_7 rfl rfl
theorem b240_10 {d : Nat} {i0 : Nat} {x1 x2 x3 : Int} {u4 u5 : MV} {I L : Nat → Nat → Nat → Int} {t : Nat → Nat} (g1 : 0 ≤ x3 ∧ x3 < 100) : Res d 240 10 [vr 12 i0, vi x1, vi x2, vi x3, u4, u5] [] (mk I L t) = if I 94 i0 x3.toNat = x1 then Res d 240 23 [vr 12 i0, vi x1, vi x2, vi x3, u4, u5] [] (mk I L t) else Res d 240 20 [vr 12 i0, vi x1, vi x2, vi x3, u4, u5] [] (mk I L t) :=
  Eq.trans (e_aload_n D240_10 rfl rfl) <| Eq.trans (e_getP (p := (94, i0)) D240_11 rfl o_240 f_12_153 (sh_12 _) (by decide) (pp_12_73 _ _)) <| Eq.trans (e_iload_n D240_14 rfl rfl) <| Eq.trans (e_iald D240_15 rfl (al_94 _) g1) <| Eq.trans (e_iload_n D240_16 rfl rfl) <| e_iceq D240_17 rfl rfl
theorem b240_20 {d : Nat} {i0 : Nat} {x1 x2 x3 : Int} {u4 u5 : MV} {I L : Nat → Nat → Nat → Int} {t : Nat → Nat} : Res d 240 20 [vr 12 i0, vi x1, vi x2, vi x3, u4, u5] [] (mk I L t) = Res d 240 76 [vr 12 i0, vi x1, vi x2, vi x3, u4, u5] [] (mk I L t) :=
  e_goto (q1 := 76) D240_20 rfl
theorem b240_23 {d : Nat} {i0 : Nat} {x1 x2 x3 : Int} {u4 u5 : MV} {I L : Nat → Nat → Nat → Int} {t : Nat → Nat} : Res d 240 23 [vr 12 i0, vi x1, vi x2, vi x3, u4, u5] [] (mk I L t) = Res d 240 26 [vr 12 i0, vi x1, vi x2, vi x3, vi 0, u5] [] (mk I L t) :=
  Eq.trans (e_iconst (x := 0) D240_23 rfl rfl) <| e_istore (ls1 := [vr 12 i0, vi x1, vi x2, vi x3, vi 0, u5]) D240_24 rfl (show 4 < 6 by decide) rfl
theorem b240_26 {d : Nat} {i0 : Nat} {x1 x2 x3 x4 : Int} {u5 : MV} {I L : Nat → Nat → Nat → Int} {t : Nat → Nat} (g1 : 0 ≤ x3 ∧ x3 < 100) : Res d 240 26 [vr 12 i0, vi x1, vi x2, vi x3, vi x4, u5] [] (mk I L t) = if I 103 i0 x3.toNat ≤ x4 then Res d 240 76 [vr 12 i0, vi x1, vi x2, vi x3, vi x4, u5] [] (mk I L t) else Res d 240 37 [vr 12 i0, vi x1, vi x2, vi x3, vi x4, u5] [] (mk I L t) :=
  Eq.trans (e_iload D240_26 rfl rfl) <| Eq.trans (e_aload_n D240_28 rfl rfl) <| Eq.trans (e_getP (p := (103, i0)) D240_29 rfl o_240 f_12_180 (sh_12 _) (by decide) (pp_12_82 _ _)) <| Eq.trans (e_iload_n D240_32 rfl rfl) <| Eq.trans (e_iald D240_33 rfl (al_103 _) g1) <| e_icge D240_34 rfl rfl
theorem b240_37 {d : Nat} {i0 : Nat} {x1 x2 x3 x4 : Int} {u5 : MV} {I L : Nat → Nat → Nat → Int} {t : Nat → Nat} (g1 : 0 ≤ w32 ((w32 (9 * x3)) + x4) ∧ w32 ((w32 (9 * x3)) + x4) < 900) : Res d 240 37 [vr 12 i0, vi x1, vi x2, vi x3, vi x4, u5] [] (mk I L t) = if I 102 i0 (w32 ((w32 (9 * x3)) + x4)).toNat = -1 then Res d 240 70 [vr 12 i0, vi x1, vi x2, vi x3, vi x4, vi (I 102 i0 (w32 ((w32 (9 * x3)) + x4)).toNat)] [] (mk I L t) else Res d 240 57 [vr 12 i0, vi x1, vi x2, vi x3, vi x4, vi (I 102 i0 (w32 ((w32 (9 * x3)) + x4)).toNat)] [] (mk I L t) :=
  Eq.trans (e_aload_n D240_37 rfl rfl) <| Eq.trans (e_getP (p := (102, i0)) D240_38 rfl o_240 f_12_177 (sh_12 _) (by decide) (pp_12_81 _ _)) <| Eq.trans (e_bipush (x := 9) D240_41 rfl rfl) <| Eq.trans (e_iload_n D240_43 rfl rfl) <| Eq.trans (e_imul D240_44 rfl) <| Eq.trans (e_iload D240_45 rfl rfl) <| Eq.trans (e_iadd D240_47 rfl) <| Eq.trans (e_iald D240_48 rfl (al_102 _) g1) <| Eq.trans (e_istore (ls1 := [vr 12 i0, vi x1, vi x2, vi x3, vi x4, vi (I 102 i0 (w32 ((w32 (9 * x3)) + x4)).toNat)]) D240_49 rfl (show 5 < 6 by decide) rfl) <| Eq.trans (e_iload D240_51 rfl rfl) <| Eq.trans (e_iconst (x := -1) D240_53 rfl rfl) <| e_iceq D240_54 rfl rfl
theorem b240_57 {d : Nat} {i0 : Nat} {x1 x2 x3 x4 x5 : Int} {I L : Nat → Nat → Nat → Int} {t : Nat → Nat} (g1 : 0 ≤ x5 ∧ x5 < 120) : Res d 240 57 [vr 12 i0, vi x1, vi x2, vi x3, vi x4, vi x5] [] (mk I L t) = if ¬ I 50 i0 x5.toNat = x2 then Res d 240 70 [vr 12 i0, vi x1, vi x2, vi x3, vi x4, vi x5] [] (mk I L t) else Res d 240 68 [vr 12 i0, vi x1, vi x2, vi x3, vi x4, vi x5] [] (mk I L t) :=
  Eq.trans (e_aload_n D240_57 rfl rfl) <| Eq.trans (e_getP (p := (50, i0)) D240_58 rfl o_240 f_12_16 (sh_12 _) (by decide) (pp_12_7 _ _)) <| Eq.trans (e_iload D240_61 rfl rfl) <| Eq.trans (e_iald D240_63 rfl (al_50 _) g1) <| Eq.trans (e_iload_n D240_64 rfl rfl) <| e_icne D240_65 rfl rfl
theorem b240_68 {d : Nat} {i0 : Nat} {x1 x2 x3 x4 x5 : Int} {I L : Nat → Nat → Nat → Int} {t : Nat → Nat} : Res d 240 68 [vr 12 i0, vi x1, vi x2, vi x3, vi x4, vi x5] [] (mk I L t) = some (vi 1, (mk I L t)) :=
  Eq.trans (e_iconst (x := 1) D240_68 rfl rfl) <| e_iret D240_69 rfl
theorem b240_70 {d : Nat} {i0 : Nat} {x1 x2 x3 x4 x5 : Int} {I L : Nat → Nat → Nat → Int} {t : Nat → Nat} : Res d 240 70 [vr 12 i0, vi x1, vi x2, vi x3, vi x4, vi x5] [] (mk I L t) = Res d 240 26 [vr 12 i0, vi x1, vi x2, vi x3, vi (w32 (x4 + 1)), vi x5] [] (mk I L t) :=
  Eq.trans (e_iinc (ls1 := [vr 12 i0, vi x1, vi x2, vi x3, vi (w32 (x4 + 1)), vi x5]) D240_70 rfl rfl rfl) <| e_goto (q1 := 26) D240_73 rfl
theorem b240_76 {d : Nat} {i0 : Nat} {x1 x2 x3 : Int} {u4 u5 : MV} {I L : Nat → Nat → Nat → Int} {t : Nat → Nat} : Res d 240 76 [vr 12 i0, vi x1, vi x2, vi x3, u4, u5] [] (mk I L t) = Res d 240 2 [vr 12 i0, vi x1, vi x2, vi (w32 (x3 + 1)), u4, u5] [] (mk I L t) :=
  Eq.trans (e_iinc (ls1 := [vr 12 i0, vi x1, vi x2, vi (w32 (x3 + 1)), u4, u5]) D240_76 rfl rfl rfl) <| e_goto (q1 := 2) D240_79 rfl
theorem b240_82 {d : Nat} {i0 : Nat} {x1 x2 x3 : Int} {u4 u5 : MV} {I L : Nat → Nat → Nat → Int} {t : Nat → Nat} : Res d 240 82 [vr 12 i0, vi x1, vi x2, vi x3, u4, u5] [] (mk I L t) = some (vi 0, (mk I L t)) :=
  Eq.trans (e_iconst (x := 0) D240_82 rfl rfl) <| e_iret D240_83 rfl
/-! m_both -/
theorem cc_241 : cod 241 = cX12_both := rfl
theorem D241_0 : decode (cod 241) 0 = .ok (.aload_n 0, 1) := by rw [cc_241]; decide +kernel
theorem D241_1 : decode (cod 241) 1 = .ok (.iload_n 1, 1) := by rw [cc_241]; decide +kernel
theorem D241_2 : decode (cod 241) 2 = .ok (.invokevirtual 469, 3) := by rw [cc_241]; decide +kernel
theorem D241_5 : decode (cod 241) 5 = .ok (.ifCond .eq 26, 3) := by rw [cc_241]; decide +kernel
theorem D241_8 : decode (cod 241) 8 = .ok (.aload_n 0, 1) := by rw [cc_241]; decide +kernel
theorem D241_9 : decode (cod 241) 9 = .ok (.iload_n 2, 1) := by rw [cc_241]; decide +kernel
theorem D241_10 : decode (cod 241) 10 = .ok (.invokevirtual 469, 3) := by rw [cc_241]; decide +kernel
theorem D241_13 : decode (cod 241) 13 = .ok (.ifCond .eq 18, 3) := by rw [cc_241]; decide +kernel
theorem D241_16 : decode (cod 241) 16 = .ok (.iload_n 1, 1) := by rw [cc_241]; decide +kernel
theorem D241_17 : decode (cod 241) 17 = .ok (.iload_n 2, 1) := by rw [cc_241]; decide +kernel
theorem D241_18 : decode (cod 241) 18 = .ok (.if_icmp .eq 13, 3) := by rw [cc_241]; decide +kernel
theorem D241_21 : decode (cod 241) 21 = .ok (.iload 5, 2) := by rw [cc_241]; decide +kernel
theorem D241_23 : decode (cod 241) 23 = .ok (.iconst 0, 1) := by rw [cc_241]; decide +kernel
theorem D241_24 : decode (cod 241) 24 = .ok (.iconst 1, 1) := by rw [cc_241]; decide +kernel
theorem D241_25 : decode (cod 241) 25 = .ok (.invokestatic 219, 3) := by rw [cc_241]; decide +kernel
theorem D241_28 : decode (cod 241) 28 = .ok (.ifCond .ne 5, 3) := by rw [cc_241]; decide +kernel
theorem D241_31 : decode (cod 241) 31 = .ok (.iconst (-1), 1) := by rw [cc_241]; decide +kernel
theorem D241_32 : decode (cod 241) 32 = .ok (.ireturn, 1) := by rw [cc_241]; decide +kernel
theorem D241_33 : decode (cod 241) 33 = .ok (.aload_n 0, 1) := by rw [cc_241]; decide +kernel
theorem D241_34 : decode (cod 241) 34 = .ok (.iload_n 1, 1) := by rw [cc_241]; decide +kernel
theorem D241_35 : decode (cod 241) 35 = .ok (.iload_n 2, 1) := by rw [cc_241]; decide +kernel
theorem D241_36 : decode (cod 241) 36 = .ok (.invokevirtual 565, 3) := by rw [cc_241]; decide +kernel
theorem D241_39 : decode (cod 241) 39 = .ok (.ifCond .ne 16, 3) := by rw [cc_241]; decide +kernel
theorem D241_42 : decode (cod 241) 42 = .ok (.aload_n 0, 1) := by rw [cc_241]; decide +kernel
theorem D241_43 : decode (cod 241) 43 = .ok (.iload_n 2, 1) := by rw [cc_241]; decide +kernel
theorem D241_44 : decode (cod 241) 44 = .ok (.iload_n 1, 1) := by rw [cc_241]; decide +kernel
theorem D241_45 : decode (cod 241) 45 = .ok (.invokevirtual 565, 3) := by rw [cc_241]; decide +kernel
theorem D241_48 : decode (cod 241) 48 = .ok (.ifCond .ne 7, 3) := by rw [cc_241]; decide +kernel
theorem D241_51 : decode (cod 241) 51 = .ok (.iconst 1, 1) := by rw [cc_241]; decide +kernel
theorem D241_52 : decode (cod 241) 52 = .ok (.goto 4, 3) := by rw [cc_241]; decide +kernel
theorem D241_55 : decode (cod 241) 55 = .ok (.iconst 0, 1) := by rw [cc_241]; decide +kernel
theorem D241_56 : decode (cod 241) 56 = .ok (.istore 6, 2) := by rw [cc_241]; decide +kernel
theorem D241_58 : decode (cod 241) 58 = .ok (.iload 5, 2) := by rw [cc_241]; decide +kernel
theorem D241_60 : decode (cod 241) 60 = .ok (.ifCond .ne 14, 3) := by rw [cc_241]; decide +kernel
theorem D241_63 : decode (cod 241) 63 = .ok (.iload 6, 2) := by rw [cc_241]; decide +kernel
theorem D241_65 : decode (cod 241) 65 = .ok (.ifCond .eq 7, 3) := by rw [cc_241]; decide +kernel
theorem D241_68 : decode (cod 241) 68 = .ok (.iconst 1, 1) := by rw [cc_241]; decide +kernel
theorem D241_69 : decode (cod 241) 69 = .ok (.goto 4, 3) := by rw [cc_241]; decide +kernel
theorem D241_72 : decode (cod 241) 72 = .ok (.iconst 0, 1) := by rw [cc_241]; decide +kernel
theorem D241_73 : decode (cod 241) 73 = .ok (.ireturn, 1) := by rw [cc_241]; decide +kernel
theorem D241_74 : decode (cod 241) 74 = .ok (.iload_n 3, 1) := by rw [cc_241]; decide +kernel
theorem D241_75 : decode (cod 241) 75 = .ok (.invokestatic 233, 3) := by rw [cc_241]; decide +kernel
theorem D241_78 : decode (cod 241) 78 = .ok (.ifCond .ne 5, 3) := by rw [cc_241]; decide +kernel
theorem D241_81 : decode (cod 241) 81 = .ok (.iconst (-1), 1) := by rw [cc_241]; decide +kernel
theorem D241_82 : decode (cod 241) 82 = .ok (.ireturn, 1) := by rw [cc_241]; decide +kernel
theorem D241_83 : decode (cod 241) 83 = .ok (.aload_n 0, 1) := by rw [cc_241]; decide +kernel
theorem D241_84 : decode (cod 241) 84 = .ok (.iload_n 3, 1) := by rw [cc_241]; decide +kernel
theorem D241_85 : decode (cod 241) 85 = .ok (.invokevirtual 472, 3) := by rw [cc_241]; decide +kernel
theorem D241_88 : decode (cod 241) 88 = .ok (.aload_n 0, 1) := by rw [cc_241]; decide +kernel
theorem D241_89 : decode (cod 241) 89 = .ok (.iload 4, 2) := by rw [cc_241]; decide +kernel
theorem D241_91 : decode (cod 241) 91 = .ok (.invokevirtual 475, 3) := by rw [cc_241]; decide +kernel
theorem D241_94 : decode (cod 241) 94 = .ok (.ifCond .eq 14, 3) := by rw [cc_241]; decide +kernel
theorem D241_97 : decode (cod 241) 97 = .ok (.aload_n 0, 1) := by rw [cc_241]; decide +kernel
theorem D241_98 : decode (cod 241) 98 = .ok (.getfield 28, 3) := by rw [cc_241]; decide +kernel
theorem D241_101 : decode (cod 241) 101 = .ok (.iload 4, 2) := by rw [cc_241]; decide +kernel
theorem D241_103 : decode (cod 241) 103 = .ok (.iaload, 1) := by rw [cc_241]; decide +kernel
theorem D241_104 : decode (cod 241) 104 = .ok (.iconst (-1), 1) := by rw [cc_241]; decide +kernel
theorem D241_105 : decode (cod 241) 105 = .ok (.if_icmp .ne 5, 3) := by rw [cc_241]; decide +kernel
theorem D241_108 : decode (cod 241) 108 = .ok (.iconst (-1), 1) := by rw [cc_241]; decide +kernel
theorem D241_109 : decode (cod 241) 109 = .ok (.ireturn, 1) := by rw [cc_241]; decide +kernel
theorem D241_110 : decode (cod 241) 110 = .ok (.aload_n 0, 1) := by rw [cc_241]; decide +kernel
theorem D241_111 : decode (cod 241) 111 = .ok (.iload_n 1, 1) := by rw [cc_241]; decide +kernel
theorem D241_112 : decode (cod 241) 112 = .ok (.invokevirtual 459, 3) := by rw [cc_241]; decide +kernel
theorem D241_115 : decode (cod 241) 115 = .ok (.aload_n 0, 1) := by rw [cc_241]; decide +kernel
theorem D241_116 : decode (cod 241) 116 = .ok (.iconst 0, 1) := by rw [cc_241]; decide +kernel
theorem D241_117 : decode (cod 241) 117 = .ok (.iconst (-1), 1) := by rw [cc_241]; decide +kernel
theorem D241_118 : decode (cod 241) 118 = .ok (.iconst 0, 1) := by rw [cc_241]; decide +kernel
theorem D241_119 : decode (cod 241) 119 = .ok (.invokevirtual 478, 3) := by rw [cc_241]; decide +kernel
theorem D241_122 : decode (cod 241) 122 = .ok (.aload_n 0, 1) := by rw [cc_241]; decide +kernel
theorem D241_123 : decode (cod 241) 123 = .ok (.getfield 105, 3) := by rw [cc_241]; decide +kernel
theorem D241_126 : decode (cod 241) 126 = .ok (.iload 4, 2) := by rw [cc_241]; decide +kernel
theorem D241_128 : decode (cod 241) 128 = .ok (.iaload, 1) := by rw [cc_241]; decide +kernel
theorem D241_129 : decode (cod 241) 129 = .ok (.istore 7, 2) := by rw [cc_241]; decide +kernel
theorem D241_131 : decode (cod 241) 131 = .ok (.aload_n 0, 1) := by rw [cc_241]; decide +kernel
theorem D241_132 : decode (cod 241) 132 = .ok (.iload_n 2, 1) := by rw [cc_241]; decide +kernel
theorem D241_133 : decode (cod 241) 133 = .ok (.invokevirtual 459, 3) := by rw [cc_241]; decide +kernel
theorem D241_136 : decode (cod 241) 136 = .ok (.aload_n 0, 1) := by rw [cc_241]; decide +kernel
theorem D241_137 : decode (cod 241) 137 = .ok (.iconst 0, 1) := by rw [cc_241]; decide +kernel
theorem D241_138 : decode (cod 241) 138 = .ok (.iconst (-1), 1) := by rw [cc_241]; decide +kernel
theorem D241_139 : decode (cod 241) 139 = .ok (.iconst 0, 1) := by rw [cc_241]; decide +kernel
theorem D241_140 : decode (cod 241) 140 = .ok (.invokevirtual 478, 3) := by rw [cc_241]; decide +kernel
theorem D241_143 : decode (cod 241) 143 = .ok (.aload_n 0, 1) := by rw [cc_241]; decide +kernel
theorem D241_144 : decode (cod 241) 144 = .ok (.getfield 105, 3) := by rw [cc_241]; decide +kernel
theorem D241_147 : decode (cod 241) 147 = .ok (.iload 4, 2) := by rw [cc_241]; decide +kernel
theorem D241_149 : decode (cod 241) 149 = .ok (.iaload, 1) := by rw [cc_241]; decide +kernel
theorem D241_150 : decode (cod 241) 150 = .ok (.istore 8, 2) := by rw [cc_241]; decide +kernel
theorem D241_152 : decode (cod 241) 152 = .ok (.iload 6, 2) := by rw [cc_241]; decide +kernel
theorem D241_154 : decode (cod 241) 154 = .ok (.ifCond .eq 18, 3) := by rw [cc_241]; decide +kernel
theorem D241_157 : decode (cod 241) 157 = .ok (.iload 7, 2) := by rw [cc_241]; decide +kernel
theorem D241_159 : decode (cod 241) 159 = .ok (.i2l, 1) := by rw [cc_241]; decide +kernel
theorem D241_160 : decode (cod 241) 160 = .ok (.iload 8, 2) := by rw [cc_241]; decide +kernel
theorem D241_162 : decode (cod 241) 162 = .ok (.i2l, 1) := by rw [cc_241]; decide +kernel
theorem D241_163 : decode (cod 241) 163 = .ok (.lmul, 1) := by rw [cc_241]; decide +kernel
theorem D241_164 : decode (cod 241) 164 = .ok (.ldc2_w 441, 3) := by rw [cc_241]; decide +kernel
theorem D241_167 : decode (cod 241) 167 = .ok (.ldiv, 1) := by rw [cc_241]; decide +kernel
theorem D241_168 : decode (cod 241) 168 = .ok (.l2i, 1) := by rw [cc_241]; decide +kernel
theorem D241_169 : decode (cod 241) 169 = .ok (.goto 17, 3) := by rw [cc_241]; decide +kernel
theorem D241_172 : decode (cod 241) 172 = .ok (.iload 7, 2) := by rw [cc_241]; decide +kernel
theorem D241_174 : decode (cod 241) 174 = .ok (.iload 8, 2) := by rw [cc_241]; decide +kernel
theorem D241_176 : decode (cod 241) 176 = .ok (.if_icmp .ge 8, 3) := by rw [cc_241]; decide +kernel
theorem D241_179 : decode (cod 241) 179 = .ok (.iload 7, 2) := by rw [cc_241]; decide +kernel
theorem D241_181 : decode (cod 241) 181 = .ok (.goto 5, 3) := by rw [cc_241]; decide +kernel
theorem D241_184 : decode (cod 241) 184 = .ok (.iload 8, 2) := by rw [cc_241]; decide +kernel
theorem D241_186 : decode (cod 241) 186 = .ok (.ireturn, 1) := by rw [cc_241]; decide +kernel
theorem b241_0 {d : Nat} {i0 : Nat} {x1 x2 x3 x4 x5 : Int} {I L : Nat → Nat → Nat → Int} {t : Nat → Nat} : Res (d + 1) 241 0 [vr 12 i0, vi x1, vi x2, vi x3, vi x4, vi x5, vx, vx, vx] [] (mk I L t) = (Cal d 150 [vr 12 i0, vi x1] (mk I L t)).bind fun v => Res (d + 1) 241 5 [vr 12 i0, vi x1, vi x2, vi x3, vi x4, vi x5, vx, vx, vx] (psh 150 v.1 []) v.2 :=
  Eq.trans (e_aload_n D241_0 rfl rfl) <| Eq.trans (e_iload_n D241_1 rfl rfl) <| e_callV D241_2 rfl o_241 m_12_469 (by decide) rfl rfl
theorem b241_5 {d : Nat} {i0 : Nat} {x1 x2 x3 x4 x5 xs0 : Int} {I L : Nat → Nat → Nat → Int} {t : Nat → Nat} : Res d 241 5 [vr 12 i0, vi x1, vi x2, vi x3, vi x4, vi x5, vx, vx, vx] [vi xs0] (mk I L t) = if xs0 = 0 then Res d 241 31 [vr 12 i0, vi x1, vi x2, vi x3, vi x4, vi x5, vx, vx, vx] [] (mk I L t) else Res d 241 8 [vr 12 i0, vi x1, vi x2, vi x3, vi x4, vi x5, vx, vx, vx] [] (mk I L t) :=
  e_ifeq D241_5 rfl rfl
theorem b241_8 {d : Nat} {i0 : Nat} {x1 x2 x3 x4 x5 : Int} {I L : Nat → Nat → Nat → Int} {t : Nat → Nat} : Res (d + 1) 241 8 [vr 12 i0, vi x1, vi x2, vi x3, vi x4, vi x5, vx, vx, vx] [] (mk I L t) = (Cal d 150 [vr 12 i0, vi x2] (mk I L t)).bind fun v => Res (d + 1) 241 13 [vr 12 i0, vi x1, vi x2, vi x3, vi x4, vi x5, vx, vx, vx] (psh 150 v.1 []) v.2 :=
  Eq.trans (e_aload_n D241_8 rfl rfl) <| Eq.trans (e_iload_n D241_9 rfl rfl) <| e_callV D241_10 rfl o_241 m_12_469 (by decide) rfl rfl
theorem b241_13 {d : Nat} {i0 : Nat} {x1 x2 x3 x4 x5 xs0 : Int} {I L : Nat → Nat → Nat → Int} {t : Nat → Nat} : Res d 241 13 [vr 12 i0, vi x1, vi x2, vi x3, vi x4, vi x5, vx, vx, vx] [vi xs0] (mk I L t) = if xs0 = 0 then Res d 241 31 [vr 12 i0, vi x1, vi x2, vi x3, vi x4, vi x5, vx, vx, vx] [] (mk I L t) else Res d 241 16 [vr 12 i0, vi x1, vi x2, vi x3, vi x4, vi x5, vx, vx, vx] [] (mk I L t) :=
  e_ifeq D241_13 rfl rfl
theorem b241_16 {d : Nat} {i0 : Nat} {x1 x2 x3 x4 x5 : Int} {I L : Nat → Nat → Nat → Int} {t : Nat → Nat} : Res d 241 16 [vr 12 i0, vi x1, vi x2, vi x3, vi x4, vi x5, vx, vx, vx] [] (mk I L t) = if x1 = x2 then Res d 241 31 [vr 12 i0, vi x1, vi x2, vi x3, vi x4, vi x5, vx, vx, vx] [] (mk I L t) else Res d 241 21 [vr 12 i0, vi x1, vi x2, vi x3, vi x4, vi x5, vx, vx, vx] [] (mk I L t) :=
  Eq.trans (e_iload_n D241_16 rfl rfl) <| Eq.trans (e_iload_n D241_17 rfl rfl) <| e_iceq D241_18 rfl rfl
theorem b241_21 {d : Nat} {i0 : Nat} {x1 x2 x3 x4 x5 : Int} {I L : Nat → Nat → Nat → Int} {t : Nat → Nat} : Res (d + 1) 241 21 [vr 12 i0, vi x1, vi x2, vi x3, vi x4, vi x5, vx, vx, vx] [] (mk I L t) = (Cal d 146 [vi x5, vi 0, vi 1] (mk I L t)).bind fun v => Res (d + 1) 241 28 [vr 12 i0, vi x1, vi x2, vi x3, vi x4, vi x5, vx, vx, vx] (psh 146 v.1 []) v.2 :=
  Eq.trans (e_iload D241_21 rfl rfl) <| Eq.trans (e_iconst (x := 0) D241_23 rfl rfl) <| Eq.trans (e_iconst (x := 1) D241_24 rfl rfl) <| e_callS D241_25 rfl o_241 m_12_219 (by decide) rfl rfl
theorem b241_28 {d : Nat} {i0 : Nat} {x1 x2 x3 x4 x5 xs0 : Int} {I L : Nat → Nat → Nat → Int} {t : Nat → Nat} : Res d 241 28 [vr 12 i0, vi x1, vi x2, vi x3, vi x4, vi x5, vx, vx, vx] [vi xs0] (mk I L t) = if ¬ xs0 = 0 then Res d 241 33 [vr 12 i0, vi x1, vi x2, vi x3, vi x4, vi x5, vx, vx, vx] [] (mk I L t) else Res d 241 31 [vr 12 i0, vi x1, vi x2, vi x3, vi x4, vi x5, vx, vx, vx] [] (mk I L t) :=
  e_ifne D241_28 rfl rfl
theorem b241_31 {d : Nat} {i0 : Nat} {x1 x2 x3 x4 x5 : Int} {I L : Nat → Nat → Nat → Int} {t : Nat → Nat} : Res d 241 31 [vr 12 i0, vi x1, vi x2, vi x3, vi x4, vi x5, vx, vx, vx] [] (mk I L t) = some (vi (-1), (mk I L t)) :=
  Eq.trans (e_iconst (x := -1) D241_31 rfl rfl) <| e_iret D241_32 rfl
theorem b241_33 {d : Nat} {i0 : Nat} {x1 x2 x3 x4 x5 : Int} {I L : Nat → Nat → Nat → Int} {t : Nat → Nat} : Res (d + 1) 241 33 [vr 12 i0, vi x1, vi x2, vi x3, vi x4, vi x5, vx, vx, vx] [] (mk I L t) = (Cal d 240 [vr 12 i0, vi x1, vi x2] (mk I L t)).bind fun v => Res (d + 1) 241 39 [vr 12 i0, vi x1, vi x2, vi x3, vi x4, vi x5, vx, vx, vx] (psh 240 v.1 []) v.2 :=
  Eq.trans (e_aload_n D241_33 rfl rfl) <| Eq.trans (e_iload_n D241_34 rfl rfl) <| Eq.trans (e_iload_n D241_35 rfl rfl) <| e_callV D241_36 rfl o_241 m_12_565 (by decide) rfl rfl
theorem b241_39 {d : Nat} {i0 : Nat} {x1 x2 x3 x4 x5 xs0 : Int} {I L : Nat → Nat → Nat → Int} {t : Nat → Nat} : Res d 241 39 [vr 12 i0, vi x1, vi x2, vi x3, vi x4, vi x5, vx, vx, vx] [vi xs0] (mk I L t) = if ¬ xs0 = 0 then Res d 241 55 [vr 12 i0, vi x1, vi x2, vi x3, vi x4, vi x5, vx, vx, vx] [] (mk I L t) else Res d 241 42 [vr 12 i0, vi x1, vi x2, vi x3, vi x4, vi x5, vx, vx, vx] [] (mk I L t) :=
  e_ifne D241_39 rfl rfl
theorem b241_42 {d : Nat} {i0 : Nat} {x1 x2 x3 x4 x5 : Int} {I L : Nat → Nat → Nat → Int} {t : Nat → Nat} : Res (d + 1) 241 42 [vr 12 i0, vi x1, vi x2, vi x3, vi x4, vi x5, vx, vx, vx] [] (mk I L t) = (Cal d 240 [vr 12 i0, vi x2, vi x1] (mk I L t)).bind fun v => Res (d + 1) 241 48 [vr 12 i0, vi x1, vi x2, vi x3, vi x4, vi x5, vx, vx, vx] (psh 240 v.1 []) v.2 :=
  Eq.trans (e_aload_n D241_42 rfl rfl) <| Eq.trans (e_iload_n D241_43 rfl rfl) <| Eq.trans (e_iload_n D241_44 rfl rfl) <| e_callV D241_45 rfl o_241 m_12_565 (by decide) rfl rfl
theorem b241_48 {d : Nat} {i0 : Nat} {x1 x2 x3 x4 x5 xs0 : Int} {I L : Nat → Nat → Nat → Int} {t : Nat → Nat} : Res d 241 48 [vr 12 i0, vi x1, vi x2, vi x3, vi x4, vi x5, vx, vx, vx] [vi xs0] (mk I L t) = if ¬ xs0 = 0 then Res d 241 55 [vr 12 i0, vi x1, vi x2, vi x3, vi x4, vi x5, vx, vx, vx] [] (mk I L t) else Res d 241 51 [vr 12 i0, vi x1, vi x2, vi x3, vi x4, vi x5, vx, vx, vx] [] (mk I L t) :=
  e_ifne D241_48 rfl rfl
theorem b241_51 {d : Nat} {i0 : Nat} {x1 x2 x3 x4 x5 : Int} {I L : Nat → Nat → Nat → Int} {t : Nat → Nat} : Res d 241 51 [vr 12 i0, vi x1, vi x2, vi x3, vi x4, vi x5, vx, vx, vx] [] (mk I L t) = Res d 241 56 [vr 12 i0, vi x1, vi x2, vi x3, vi x4, vi x5, vx, vx, vx] [vi 1] (mk I L t) :=
  Eq.trans (e_iconst (x := 1) D241_51 rfl rfl) <| e_goto (q1 := 56) D241_52 rfl
theorem b241_55 {d : Nat} {i0 : Nat} {x1 x2 x3 x4 x5 : Int} {I L : Nat → Nat → Nat → Int} {t : Nat → Nat} : Res d 241 55 [vr 12 i0, vi x1, vi x2, vi x3, vi x4, vi x5, vx, vx, vx] [] (mk I L t) = Res d 241 56 [vr 12 i0, vi x1, vi x2, vi x3, vi x4, vi x5, vx, vx, vx] [vi 0] (mk I L t) :=
  e_iconst (x := 0) D241_55 rfl rfl
theorem b241_56 {d : Nat} {i0 : Nat} {x1 x2 x3 x4 x5 xs0 : Int} {I L : Nat → Nat → Nat → Int} {t : Nat → Nat} : Res d 241 56 [vr 12 i0, vi x1, vi x2, vi x3, vi x4, vi x5, vx, vx, vx] [vi xs0] (mk I L t) = if ¬ x5 = 0 then Res d 241 74 [vr 12 i0, vi x1, vi x2, vi x3, vi x4, vi x5, vi xs0, vx, vx] [] (mk I L t) else Res d 241 63 [vr 12 i0, vi x1, vi x2, vi x3, vi x4, vi x5, vi xs0, vx, vx] [] (mk I L t) :=
  Eq.trans (e_istore (ls1 := [vr 12 i0, vi x1, vi x2, vi x3, vi x4, vi x5, vi xs0, vx, vx]) D241_56 rfl (show 6 < 9 by decide) rfl) <| Eq.trans (e_iload D241_58 rfl rfl) <| e_ifne D241_60 rfl rfl
theorem b241_63 {d : Nat} {i0 : Nat} {x1 x2 x3 x4 x5 x6 : Int} {I L : Nat → Nat → Nat → Int} {t : Nat → Nat} : Res d 241 63 [vr 12 i0, vi x1, vi x2, vi x3, vi x4, vi x5, vi x6, vx, vx] [] (mk I L t) = if x6 = 0 then Res d 241 72 [vr 12 i0, vi x1, vi x2, vi x3, vi x4, vi x5, vi x6, vx, vx] [] (mk I L t) else Res d 241 68 [vr 12 i0, vi x1, vi x2, vi x3, vi x4, vi x5, vi x6, vx, vx] [] (mk I L t) :=
  Eq.trans (e_iload D241_63 rfl rfl) <| e_ifeq D241_65 rfl rfl
theorem b241_68 {d : Nat} {i0 : Nat} {x1 x2 x3 x4 x5 x6 : Int} {I L : Nat → Nat → Nat → Int} {t : Nat → Nat} : Res d 241 68 [vr 12 i0, vi x1, vi x2, vi x3, vi x4, vi x5, vi x6, vx, vx] [] (mk I L t) = Res d 241 73 [vr 12 i0, vi x1, vi x2, vi x3, vi x4, vi x5, vi x6, vx, vx] [vi 1] (mk I L t) :=
  Eq.trans (e_iconst (x := 1) D241_68 rfl rfl) <| e_goto (q1 := 73) D241_69 rfl
theorem b241_72 {d : Nat} {i0 : Nat} {x1 x2 x3 x4 x5 x6 : Int} {I L : Nat → Nat → Nat → Int} {t : Nat → Nat} : Res d 241 72 [vr 12 i0, vi x1, vi x2, vi x3, vi x4, vi x5, vi x6, vx, vx] [] (mk I L t) = Res d 241 73 [vr 12 i0, vi x1, vi x2, vi x3, vi x4, vi x5, vi x6, vx, vx] [vi 0] (mk I L t) :=
  e_iconst (x := 0) D241_72 rfl rfl
theorem b241_73 {d : Nat} {i0 : Nat} {x1 x2 x3 x4 x5 x6 xs0 : Int} {I L : Nat → Nat → Nat → Int} {t : Nat → Nat} : Res d 241 73 [vr 12 i0, vi x1, vi x2, vi x3, vi x4, vi x5, vi x6, vx, vx] [vi xs0] (mk I L t) = some (vi xs0, (mk I L t)) :=
  e_iret D241_73 rfl
theorem b241_74 {d : Nat} {i0 : Nat} {x1 x2 x3 x4 x5 x6 : Int} {I L : Nat → Nat → Nat → Int} {t : Nat → Nat} : Res (d + 1) 241 74 [vr 12 i0, vi x1, vi x2, vi x3, vi x4, vi x5, vi x6, vx, vx] [] (mk I L t) = (Cal d 148 [vi x3] (mk I L t)).bind fun v => Res (d + 1) 241 78 [vr 12 i0, vi x1, vi x2, vi x3, vi x4, vi x5, vi x6, vx, vx] (psh 148 v.1 []) v.2 :=
  Eq.trans (e_iload_n D241_74 rfl rfl) <| e_callS D241_75 rfl o_241 m_12_233 (by decide) rfl rfl
theorem b241_78 {d : Nat} {i0 : Nat} {x1 x2 x3 x4 x5 x6 xs0 : Int} {I L : Nat → Nat → Nat → Int} {t : Nat → Nat} : Res d 241 78 [vr 12 i0, vi x1, vi x2, vi x3, vi x4, vi x5, vi x6, vx, vx] [vi xs0] (mk I L t) = if ¬ xs0 = 0 then Res d 241 83 [vr 12 i0, vi x1, vi x2, vi x3, vi x4, vi x5, vi x6, vx, vx] [] (mk I L t) else Res d 241 81 [vr 12 i0, vi x1, vi x2, vi x3, vi x4, vi x5, vi x6, vx, vx] [] (mk I L t) :=
  e_ifne D241_78 rfl rfl
theorem b241_81 {d : Nat} {i0 : Nat} {x1 x2 x3 x4 x5 x6 : Int} {I L : Nat → Nat → Nat → Int} {t : Nat → Nat} : Res d 241 81 [vr 12 i0, vi x1, vi x2, vi x3, vi x4, vi x5, vi x6, vx, vx] [] (mk I L t) = some (vi (-1), (mk I L t)) :=
  Eq.trans (e_iconst (x := -1) D241_81 rfl rfl) <| e_iret D241_82 rfl
theorem b241_83 {d : Nat} {i0 : Nat} {x1 x2 x3 x4 x5 x6 : Int} {I L : Nat → Nat → Nat → Int} {t : Nat → Nat} : Res (d + 1) 241 83 [vr 12 i0, vi x1, vi x2, vi x3, vi x4, vi x5, vi x6, vx, vx] [] (mk I L t) = (Cal d 156 [vr 12 i0, vi x3] (mk I L t)).bind fun v => Res (d + 1) 241 88 [vr 12 i0, vi x1, vi x2, vi x3, vi x4, vi x5, vi x6, vx, vx] (psh 156 v.1 []) v.2 :=
  Eq.trans (e_aload_n D241_83 rfl rfl) <| Eq.trans (e_iload_n D241_84 rfl rfl) <| e_callV D241_85 rfl o_241 m_12_472 (by decide) rfl rfl
theorem b241_88 {d : Nat} {i0 : Nat} {x1 x2 x3 x4 x5 x6 : Int} {I L : Nat → Nat → Nat → Int} {t : Nat → Nat} : Res (d + 1) 241 88 [vr 12 i0, vi x1, vi x2, vi x3, vi x4, vi x5, vi x6, vx, vx] [] (mk I L t) = (Cal d 157 [vr 12 i0, vi x4] (mk I L t)).bind fun v => Res (d + 1) 241 94 [vr 12 i0, vi x1, vi x2, vi x3, vi x4, vi x5, vi x6, vx, vx] (psh 157 v.1 []) v.2 :=
  Eq.trans (e_aload_n D241_88 rfl rfl) <| Eq.trans (e_iload D241_89 rfl rfl) <| e_callV D241_91 rfl o_241 m_12_475 (by decide) rfl rfl
theorem b241_94 {d : Nat} {i0 : Nat} {x1 x2 x3 x4 x5 x6 xs0 : Int} {I L : Nat → Nat → Nat → Int} {t : Nat → Nat} : Res d 241 94 [vr 12 i0, vi x1, vi x2, vi x3, vi x4, vi x5, vi x6, vx, vx] [vi xs0] (mk I L t) = if xs0 = 0 then Res d 241 108 [vr 12 i0, vi x1, vi x2, vi x3, vi x4, vi x5, vi x6, vx, vx] [] (mk I L t) else Res d 241 97 [vr 12 i0, vi x1, vi x2, vi x3, vi x4, vi x5, vi x6, vx, vx] [] (mk I L t) :=
  e_ifeq D241_94 rfl rfl
theorem b241_97 {d : Nat} {i0 : Nat} {x1 x2 x3 x4 x5 x6 : Int} {I L : Nat → Nat → Nat → Int} {t : Nat → Nat} (g1 : 0 ≤ x4 ∧ x4 < 9) : Res d 241 97 [vr 12 i0, vi x1, vi x2, vi x3, vi x4, vi x5, vi x6, vx, vx] [] (mk I L t) = if ¬ I 54 i0 x4.toNat = -1 then Res d 241 110 [vr 12 i0, vi x1, vi x2, vi x3, vi x4, vi x5, vi x6, vx, vx] [] (mk I L t) else Res d 241 108 [vr 12 i0, vi x1, vi x2, vi x3, vi x4, vi x5, vi x6, vx, vx] [] (mk I L t) :=
  Eq.trans (e_aload_n D241_97 rfl rfl) <| Eq.trans (e_getP (p := (54, i0)) D241_98 rfl o_241 f_12_28 (sh_12 _) (by decide) (pp_12_11 _ _)) <| Eq.trans (e_iload D241_101 rfl rfl) <| Eq.trans (e_iald D241_103 rfl (al_54 _) g1) <| Eq.trans (e_iconst (x := -1) D241_104 rfl rfl) <| e_icne D241_105 rfl rfl
theorem b241_108 {d : Nat} {i0 : Nat} {x1 x2 x3 x4 x5 x6 : Int} {I L : Nat → Nat → Nat → Int} {t : Nat → Nat} : Res d 241 108 [vr 12 i0, vi x1, vi x2, vi x3, vi x4, vi x5, vi x6, vx, vx] [] (mk I L t) = some (vi (-1), (mk I L t)) :=
  Eq.trans (e_iconst (x := -1) D241_108 rfl rfl) <| e_iret D241_109 rfl
theorem b241_110 {d : Nat} {i0 : Nat} {x1 x2 x3 x4 x5 x6 : Int} {I L : Nat → Nat → Nat → Int} {t : Nat → Nat} : Res (d + 1) 241 110 [vr 12 i0, vi x1, vi x2, vi x3, vi x4, vi x5, vi x6, vx, vx] [] (mk I L t) = (Cal d 196 [vr 12 i0, vi x1] (mk I L t)).bind fun v => Res (d + 1) 241 115 [vr 12 i0, vi x1, vi x2, vi x3, vi x4, vi x5, vi x6, vx, vx] (psh 196 v.1 []) v.2 :=
  Eq.trans (e_aload_n D241_110 rfl rfl) <| Eq.trans (e_iload_n D241_111 rfl rfl) <| e_callV D241_112 rfl o_241 m_12_459 (by decide) rfl rfl
theorem b241_115 {d : Nat} {i0 : Nat} {x1 x2 x3 x4 x5 x6 : Int} {I L : Nat → Nat → Nat → Int} {t : Nat → Nat} : Res (d + 1) 241 115 [vr 12 i0, vi x1, vi x2, vi x3, vi x4, vi x5, vi x6, vx, vx] [] (mk I L t) = (Cal d 193 [vr 12 i0, vi 0, vi (-1), vi 0] (mk I L t)).bind fun v => Res (d + 1) 241 122 [vr 12 i0, vi x1, vi x2, vi x3, vi x4, vi x5, vi x6, vx, vx] (psh 193 v.1 []) v.2 :=
  Eq.trans (e_aload_n D241_115 rfl rfl) <| Eq.trans (e_iconst (x := 0) D241_116 rfl rfl) <| Eq.trans (e_iconst (x := -1) D241_117 rfl rfl) <| Eq.trans (e_iconst (x := 0) D241_118 rfl rfl) <| e_callV D241_119 rfl o_241 m_12_478 (by decide) rfl rfl
theorem b241_122 {d : Nat} {i0 : Nat} {x1 x2 x3 x4 x5 x6 : Int} {I L : Nat → Nat → Nat → Int} {t : Nat → Nat} (g1 : 0 ≤ x4 ∧ x4 < 10) : Res (d + 1) 241 122 [vr 12 i0, vi x1, vi x2, vi x3, vi x4, vi x5, vi x6, vx, vx] [] (mk I L t) = (Cal d 196 [vr 12 i0, vi x2] (mk I L t)).bind fun v => Res (d + 1) 241 136 [vr 12 i0, vi x1, vi x2, vi x3, vi x4, vi x5, vi x6, vi (I 78 i0 x4.toNat), vx] (psh 196 v.1 []) v.2 :=
  Eq.trans (e_aload_n D241_122 rfl rfl) <| Eq.trans (e_getP (p := (78, i0)) D241_123 rfl o_241 f_12_105 (sh_12 _) (by decide) (pp_12_56 _ _)) <| Eq.trans (e_iload D241_126 rfl rfl) <| Eq.trans (e_iald D241_128 rfl (al_78 _) g1) <| Eq.trans (e_istore (ls1 := [vr 12 i0, vi x1, vi x2, vi x3, vi x4, vi x5, vi x6, vi (I 78 i0 x4.toNat), vx]) D241_129 rfl (show 7 < 9 by decide) rfl) <| Eq.trans (e_aload_n D241_131 rfl rfl) <| Eq.trans (e_iload_n D241_132 rfl rfl) <| e_callV D241_133 rfl o_241 m_12_459 (by decide) rfl rfl
theorem b241_136 {d : Nat} {i0 : Nat} {x1 x2 x3 x4 x5 x6 x7 : Int} {I L : Nat → Nat → Nat → Int} {t : Nat → Nat} : Res (d + 1) 241 136 [vr 12 i0, vi x1, vi x2, vi x3, vi x4, vi x5, vi x6, vi x7, vx] [] (mk I L t) = (Cal d 193 [vr 12 i0, vi 0, vi (-1), vi 0] (mk I L t)).bind fun v => Res (d + 1) 241 143 [vr 12 i0, vi x1, vi x2, vi x3, vi x4, vi x5, vi x6, vi x7, vx] (psh 193 v.1 []) v.2 :=
  Eq.trans (e_aload_n D241_136 rfl rfl) <| Eq.trans (e_iconst (x := 0) D241_137 rfl rfl) <| Eq.trans (e_iconst (x := -1) D241_138 rfl rfl) <| Eq.trans (e_iconst (x := 0) D241_139 rfl rfl) <| e_callV D241_140 rfl o_241 m_12_478 (by decide) rfl rfl
theorem b241_143 {d : Nat} {i0 : Nat} {x1 x2 x3 x4 x5 x6 x7 : Int} {I L : Nat → Nat → Nat → Int} {t : Nat → Nat} (g1 : 0 ≤ x4 ∧ x4 < 10) : Res d 241 143 [vr 12 i0, vi x1, vi x2, vi x3, vi x4, vi x5, vi x6, vi x7, vx] [] (mk I L t) = if x6 = 0 then Res d 241 172 [vr 12 i0, vi x1, vi x2, vi x3, vi x4, vi x5, vi x6, vi x7, vi (I 78 i0 x4.toNat)] [] (mk I L t) else Res d 241 157 [vr 12 i0, vi x1, vi x2, vi x3, vi x4, vi x5, vi x6, vi x7, vi (I 78 i0 x4.toNat)] [] (mk I L t) :=
  Eq.trans (e_aload_n D241_143 rfl rfl) <| Eq.trans (e_getP (p := (78, i0)) D241_144 rfl o_241 f_12_105 (sh_12 _) (by decide) (pp_12_56 _ _)) <| Eq.trans (e_iload D241_147 rfl rfl) <| Eq.trans (e_iald D241_149 rfl (al_78 _) g1) <| Eq.trans (e_istore (ls1 := [vr 12 i0, vi x1, vi x2, vi x3, vi x4, vi x5, vi x6, vi x7, vi (I 78 i0 x4.toNat)]) D241_150 rfl (show 8 < 9 by decide) rfl) <| Eq.trans (e_iload D241_152 rfl rfl) <| e_ifeq D241_154 rfl rfl
theorem b241_157 {d : Nat} {i0 : Nat} {x1 x2 x3 x4 x5 x6 x7 x8 : Int} {I L : Nat → Nat → Nat → Int} {t : Nat → Nat} : Res d 241 157 [vr 12 i0, vi x1, vi x2, vi x3, vi x4, vi x5, vi x6, vi x7, vi x8] [] (mk I L t) = Res d 241 186 [vr 12 i0, vi x1, vi x2, vi x3, vi x4, vi x5, vi x6, vi x7, vi x8] [vi (w32 (vLdiv (w64 (x7 * x8)) 1000000))] (mk I L t) :=
  Eq.trans (e_iload D241_157 rfl rfl) <| Eq.trans (e_i2l D241_159 rfl) <| Eq.trans (e_iload D241_160 rfl rfl) <| Eq.trans (e_i2l D241_162 rfl) <| Eq.trans (e_lmul D241_163 rfl) <| Eq.trans (e_ldc2 (x := 1000000) D241_164 rfl o_241 l_12_441 rfl) <| Eq.trans (e_ldiv D241_167 rfl (by decide)) <| Eq.trans (e_l2i D241_168 rfl) <| e_goto (q1 := 186) D241_169 rfl
theorem b241_172 {d : Nat} {i0 : Nat} {x1 x2 x3 x4 x5 x6 x7 x8 : Int} {I L : Nat → Nat → Nat → Int} {t : Nat → Nat} : Res d 241 172 [vr 12 i0, vi x1, vi x2, vi x3, vi x4, vi x5, vi x6, vi x7, vi x8] [] (mk I L t) = if x8 ≤ x7 then Res d 241 184 [vr 12 i0, vi x1, vi x2, vi x3, vi x4, vi x5, vi x6, vi x7, vi x8] [] (mk I L t) else Res d 241 179 [vr 12 i0, vi x1, vi x2, vi x3, vi x4, vi x5, vi x6, vi x7, vi x8] [] (mk I L t) :=
  Eq.trans (e_iload D241_172 rfl rfl) <| Eq.trans (e_iload D241_174 rfl rfl) <| e_icge D241_176 rfl rfl
theorem b241_179 {d : Nat} {i0 : Nat} {x1 x2 x3 x4 x5 x6 x7 x8 : Int} {I L : Nat → Nat → Nat → Int} {t : Nat → Nat} : Res d 241 179 [vr 12 i0, vi x1, vi x2, vi x3, vi x4, vi x5, vi x6, vi x7, vi x8] [] (mk I L t) = Res d 241 186 [vr 12 i0, vi x1, vi x2, vi x3, vi x4, vi x5, vi x6, vi x7, vi x8] [vi x7] (mk I L t) :=
  Eq.trans (e_iload D241_179 rfl rfl) <| e_goto (q1 := 186) D241_181 rfl
theorem b241_184 {d : Nat} {i0 : Nat} {x1 x2 x3 x4 x5 x6 x7 x8 : Int} {I L : Nat → Nat → Nat → Int} {t : Nat → Nat} : Res d 241 184 [vr 12 i0, vi x1, vi x2, vi x3, vi x4, vi x5, vi x6, vi x7, vi x8] [] (mk I L t) = Res d 241 186 [vr 12 i0, vi x1, vi x2, vi x3, vi x4, vi x5, vi x6, vi x7, vi x8] [vi x8] (mk I L t) :=
  e_iload D241_184 rfl rfl
theorem b241_186 {d : Nat} {i0 : Nat} {x1 x2 x3 x4 x5 x6 x7 x8 xs0 : Int} {I L : Nat → Nat → Nat → Int} {t : Nat → Nat} : Res d 241 186 [vr 12 i0, vi x1, vi x2, vi x3, vi x4, vi x5, vi x6, vi x7, vi x8] [vi xs0] (mk I L t) = some (vi xs0, (mk I L t)) :=
  e_iret D241_186 rfl
/-! m_look -/
theorem cc_242 : cod 242 = cX12_look := rfl
theorem D242_0 : decode (cod 242) 0 = .ok (.iconst 0, 1) := by rw [cc_242]; decide +kernel
theorem D242_1 : decode (cod 242) 1 = .ok (.istore_n 2, 1) := by rw [cc_242]; decide +kernel
theorem D242_2 : decode (cod 242) 2 = .ok (.iload_n 1, 1) := by rw [cc_242]; decide +kernel
theorem D242_3 : decode (cod 242) 3 = .ok (.tableswitch 107 0 6 #[41, 46, 51, 56, 61, 66, 71], 41) := by rw [cc_242]; decide +kernel
theorem D242_44 : decode (cod 242) 44 = .ok (.aload_n 0, 1) := by rw [cc_242]; decide +kernel
theorem D242_45 : decode (cod 242) 45 = .ok (.getfield 446, 3) := by rw [cc_242]; decide +kernel
theorem D242_48 : decode (cod 242) 48 = .ok (.ireturn, 1) := by rw [cc_242]; decide +kernel
theorem D242_49 : decode (cod 242) 49 = .ok (.aload_n 0, 1) := by rw [cc_242]; decide +kernel
theorem D242_50 : decode (cod 242) 50 = .ok (.getfield 216, 3) := by rw [cc_242]; decide +kernel
theorem D242_53 : decode (cod 242) 53 = .ok (.ireturn, 1) := by rw [cc_242]; decide +kernel
theorem D242_54 : decode (cod 242) 54 = .ok (.aload_n 0, 1) := by rw [cc_242]; decide +kernel
theorem D242_55 : decode (cod 242) 55 = .ok (.getfield 223, 3) := by rw [cc_242]; decide +kernel
theorem D242_58 : decode (cod 242) 58 = .ok (.ireturn, 1) := by rw [cc_242]; decide +kernel
theorem D242_59 : decode (cod 242) 59 = .ok (.aload_n 0, 1) := by rw [cc_242]; decide +kernel
theorem D242_60 : decode (cod 242) 60 = .ok (.getfield 484, 3) := by rw [cc_242]; decide +kernel
theorem D242_63 : decode (cod 242) 63 = .ok (.ireturn, 1) := by rw [cc_242]; decide +kernel
theorem D242_64 : decode (cod 242) 64 = .ok (.aload_n 0, 1) := by rw [cc_242]; decide +kernel
theorem D242_65 : decode (cod 242) 65 = .ok (.getfield 527, 3) := by rw [cc_242]; decide +kernel
theorem D242_68 : decode (cod 242) 68 = .ok (.ireturn, 1) := by rw [cc_242]; decide +kernel
theorem D242_69 : decode (cod 242) 69 = .ok (.aload_n 0, 1) := by rw [cc_242]; decide +kernel
theorem D242_70 : decode (cod 242) 70 = .ok (.getfield 406, 3) := by rw [cc_242]; decide +kernel
theorem D242_73 : decode (cod 242) 73 = .ok (.ireturn, 1) := by rw [cc_242]; decide +kernel
theorem D242_74 : decode (cod 242) 74 = .ok (.iconst 0, 1) := by rw [cc_242]; decide +kernel
theorem D242_75 : decode (cod 242) 75 = .ok (.istore_n 3, 1) := by rw [cc_242]; decide +kernel
theorem D242_76 : decode (cod 242) 76 = .ok (.iload_n 3, 1) := by rw [cc_242]; decide +kernel
theorem D242_77 : decode (cod 242) 77 = .ok (.aload_n 0, 1) := by rw [cc_242]; decide +kernel
theorem D242_78 : decode (cod 242) 78 = .ok (.getfield 216, 3) := by rw [cc_242]; decide +kernel
theorem D242_81 : decode (cod 242) 81 = .ok (.if_icmp .ge 27, 3) := by rw [cc_242]; decide +kernel
theorem D242_84 : decode (cod 242) 84 = .ok (.iload_n 2, 1) := by rw [cc_242]; decide +kernel
theorem D242_85 : decode (cod 242) 85 = .ok (.aload_n 0, 1) := by rw [cc_242]; decide +kernel
theorem D242_86 : decode (cod 242) 86 = .ok (.getfield 16, 3) := by rw [cc_242]; decide +kernel
theorem D242_89 : decode (cod 242) 89 = .ok (.iload_n 3, 1) := by rw [cc_242]; decide +kernel
theorem D242_90 : decode (cod 242) 90 = .ok (.iaload, 1) := by rw [cc_242]; decide +kernel
theorem D242_91 : decode (cod 242) 91 = .ok (.iconst (-1), 1) := by rw [cc_242]; decide +kernel
theorem D242_92 : decode (cod 242) 92 = .ok (.if_icmp .ne 7, 3) := by rw [cc_242]; decide +kernel
theorem D242_95 : decode (cod 242) 95 = .ok (.iconst 0, 1) := by rw [cc_242]; decide +kernel
theorem D242_96 : decode (cod 242) 96 = .ok (.goto 4, 3) := by rw [cc_242]; decide +kernel
theorem D242_99 : decode (cod 242) 99 = .ok (.iconst 1, 1) := by rw [cc_242]; decide +kernel
theorem D242_100 : decode (cod 242) 100 = .ok (.iadd, 1) := by rw [cc_242]; decide +kernel
theorem D242_101 : decode (cod 242) 101 = .ok (.istore_n 2, 1) := by rw [cc_242]; decide +kernel
theorem D242_102 : decode (cod 242) 102 = .ok (.iinc 3 1, 3) := by rw [cc_242]; decide +kernel
theorem D242_105 : decode (cod 242) 105 = .ok (.goto (-29), 3) := by rw [cc_242]; decide +kernel
theorem D242_108 : decode (cod 242) 108 = .ok (.iload_n 2, 1) := by rw [cc_242]; decide +kernel
theorem D242_109 : decode (cod 242) 109 = .ok (.ireturn, 1) := by rw [cc_242]; decide +kernel
theorem D242_110 : decode (cod 242) 110 = .ok (.iconst (-1), 1) := by rw [cc_242]; decide +kernel
theorem D242_111 : decode (cod 242) 111 = .ok (.ireturn, 1) := by rw [cc_242]; decide +kernel
theorem b242_0_d {d : Nat} {i0 : Nat} {x1 : Int} {I L : Nat → Nat → Nat → Int} {t : Nat → Nat} (gx : x1 < 0 ∨ 6 < x1) : Res d 242 0 [vr 12 i0, vi x1, vx, vx] [] (mk I L t) = Res d 242 110 [vr 12 i0, vi x1, vi 0, vx] [] (mk I L t) :=
  Eq.trans (e_iconst (x := 0) D242_0 rfl rfl) <| Eq.trans (e_istore_n (ls1 := [vr 12 i0, vi x1, vi 0, vx]) D242_1 rfl (show 2 < 4 by decide) rfl) <| Eq.trans (e_iload_n D242_2 rfl rfl) <| e_tswD (q1 := 110) D242_3 gx rfl
theorem b242_0_c0 {d : Nat} {i0 : Nat} {x1 : Int} {I L : Nat → Nat → Nat → Int} {t : Nat → Nat} (gx : x1 = 0) : Res d 242 0 [vr 12 i0, vi x1, vx, vx] [] (mk I L t) = Res d 242 44 [vr 12 i0, vi x1, vi 0, vx] [] (mk I L t) :=
  Eq.trans (e_iconst (x := 0) D242_0 rfl rfl) <| Eq.trans (e_istore_n (ls1 := [vr 12 i0, vi x1, vi 0, vx]) D242_1 rfl (show 2 < 4 by decide) rfl) <| Eq.trans (e_iload_n D242_2 rfl rfl) <| e_tswK (k := 0) (q1 := 44) D242_3 gx (by decide) rfl rfl
theorem b242_0_c1 {d : Nat} {i0 : Nat} {x1 : Int} {I L : Nat → Nat → Nat → Int} {t : Nat → Nat} (gx : x1 = 1) : Res d 242 0 [vr 12 i0, vi x1, vx, vx] [] (mk I L t) = Res d 242 49 [vr 12 i0, vi x1, vi 0, vx] [] (mk I L t) :=
  Eq.trans (e_iconst (x := 0) D242_0 rfl rfl) <| Eq.trans (e_istore_n (ls1 := [vr 12 i0, vi x1, vi 0, vx]) D242_1 rfl (show 2 < 4 by decide) rfl) <| Eq.trans (e_iload_n D242_2 rfl rfl) <| e_tswK (k := 1) (q1 := 49) D242_3 gx (by decide) rfl rfl
theorem b242_0_c2 {d : Nat} {i0 : Nat} {x1 : Int} {I L : Nat → Nat → Nat → Int} {t : Nat → Nat} (gx : x1 = 2) : Res d 242 0 [vr 12 i0, vi x1, vx, vx] [] (mk I L t) = Res d 242 54 [vr 12 i0, vi x1, vi 0, vx] [] (mk I L t) :=
  Eq.trans (e_iconst (x := 0) D242_0 rfl rfl) <| Eq.trans (e_istore_n (ls1 := [vr 12 i0, vi x1, vi 0, vx]) D242_1 rfl (show 2 < 4 by decide) rfl) <| Eq.trans (e_iload_n D242_2 rfl rfl) <| e_tswK (k := 2) (q1 := 54) D242_3 gx (by decide) rfl rfl
theorem b242_0_c3 {d : Nat} {i0 : Nat} {x1 : Int} {I L : Nat → Nat → Nat → Int} {t : Nat → Nat} (gx : x1 = 3) : Res d 242 0 [vr 12 i0, vi x1, vx, vx] [] (mk I L t) = Res d 242 59 [vr 12 i0, vi x1, vi 0, vx] [] (mk I L t) :=
  Eq.trans (e_iconst (x := 0) D242_0 rfl rfl) <| Eq.trans (e_istore_n (ls1 := [vr 12 i0, vi x1, vi 0, vx]) D242_1 rfl (show 2 < 4 by decide) rfl) <| Eq.trans (e_iload_n D242_2 rfl rfl) <| e_tswK (k := 3) (q1 := 59) D242_3 gx (by decide) rfl rfl
theorem b242_0_c4 {d : Nat} {i0 : Nat} {x1 : Int} {I L : Nat → Nat → Nat → Int} {t : Nat → Nat} (gx : x1 = 4) : Res d 242 0 [vr 12 i0, vi x1, vx, vx] [] (mk I L t) = Res d 242 64 [vr 12 i0, vi x1, vi 0, vx] [] (mk I L t) :=
  Eq.trans (e_iconst (x := 0) D242_0 rfl rfl) <| Eq.trans (e_istore_n (ls1 := [vr 12 i0, vi x1, vi 0, vx]) D242_1 rfl (show 2 < 4 by decide) rfl) <| Eq.trans (e_iload_n D242_2 rfl rfl) <| e_tswK (k := 4) (q1 := 64) D242_3 gx (by decide) rfl rfl
theorem b242_0_c5 {d : Nat} {i0 : Nat} {x1 : Int} {I L : Nat → Nat → Nat → Int} {t : Nat → Nat} (gx : x1 = 5) : Res d 242 0 [vr 12 i0, vi x1, vx, vx] [] (mk I L t) = Res d 242 69 [vr 12 i0, vi x1, vi 0, vx] [] (mk I L t) :=
  Eq.trans (e_iconst (x := 0) D242_0 rfl rfl) <| Eq.trans (e_istore_n (ls1 := [vr 12 i0, vi x1, vi 0, vx]) D242_1 rfl (show 2 < 4 by decide) rfl) <| Eq.trans (e_iload_n D242_2 rfl rfl) <| e_tswK (k := 5) (q1 := 69) D242_3 gx (by decide) rfl rfl
theorem b242_0_c6 {d : Nat} {i0 : Nat} {x1 : Int} {I L : Nat → Nat → Nat → Int} {t : Nat → Nat} (gx : x1 = 6) : Res d 242 0 [vr 12 i0, vi x1, vx, vx] [] (mk I L t) = Res d 242 74 [vr 12 i0, vi x1, vi 0, vx] [] (mk I L t) :=
  Eq.trans (e_iconst (x := 0) D242_0 rfl rfl) <| Eq.trans (e_istore_n (ls1 := [vr 12 i0, vi x1, vi 0, vx]) D242_1 rfl (show 2 < 4 by decide) rfl) <| Eq.trans (e_iload_n D242_2 rfl rfl) <| e_tswK (k := 6) (q1 := 74) D242_3 gx (by decide) rfl rfl
theorem b242_44 {d : Nat} {i0 : Nat} {x1 x2 : Int} {I L : Nat → Nat → Nat → Int} {t : Nat → Nat} : Res d 242 44 [vr 12 i0, vi x1, vi x2, vx] [] (mk I L t) = some (vi (I 12 i0 0), (mk I L t)) :=
  Eq.trans (e_aload_n D242_44 rfl rfl) <| Eq.trans (e_getI D242_45 rfl o_242 f_12_446 (sh_12 _) (by decide)) <| e_iret D242_48 rfl
theorem b242_49 {d : Nat} {i0 : Nat} {x1 x2 : Int} {I L : Nat → Nat → Nat → Int} {t : Nat → Nat} : Res d 242 49 [vr 12 i0, vi x1, vi x2, vx] [] (mk I L t) = some (vi (I 12 i0 1), (mk I L t)) :=
  Eq.trans (e_aload_n D242_49 rfl rfl) <| Eq.trans (e_getI D242_50 rfl o_242 f_12_216 (sh_12 _) (by decide)) <| e_iret D242_53 rfl
theorem b242_54 {d : Nat} {i0 : Nat} {x1 x2 : Int} {I L : Nat → Nat → Nat → Int} {t : Nat → Nat} : Res d 242 54 [vr 12 i0, vi x1, vi x2, vx] [] (mk I L t) = some (vi (I 12 i0 2), (mk I L t)) :=
  Eq.trans (e_aload_n D242_54 rfl rfl) <| Eq.trans (e_getI D242_55 rfl o_242 f_12_223 (sh_12 _) (by decide)) <| e_iret D242_58 rfl
theorem b242_59 {d : Nat} {i0 : Nat} {x1 x2 : Int} {I L : Nat → Nat → Nat → Int} {t : Nat → Nat} : Res d 242 59 [vr 12 i0, vi x1, vi x2, vx] [] (mk I L t) = some (vi (I 12 i0 3), (mk I L t)) :=
  Eq.trans (e_aload_n D242_59 rfl rfl) <| Eq.trans (e_getI D242_60 rfl o_242 f_12_484 (sh_12 _) (by decide)) <| e_iret D242_63 rfl
theorem b242_64 {d : Nat} {i0 : Nat} {x1 x2 : Int} {I L : Nat → Nat → Nat → Int} {t : Nat → Nat} : Res d 242 64 [vr 12 i0, vi x1, vi x2, vx] [] (mk I L t) = some (vi (I 12 i0 4), (mk I L t)) :=
  Eq.trans (e_aload_n D242_64 rfl rfl) <| Eq.trans (e_getI D242_65 rfl o_242 f_12_527 (sh_12 _) (by decide)) <| e_iret D242_68 rfl
theorem b242_69 {d : Nat} {i0 : Nat} {x1 x2 : Int} {I L : Nat → Nat → Nat → Int} {t : Nat → Nat} : Res d 242 69 [vr 12 i0, vi x1, vi x2, vx] [] (mk I L t) = some (vi (I 12 i0 33), (mk I L t)) :=
  Eq.trans (e_aload_n D242_69 rfl rfl) <| Eq.trans (e_getI D242_70 rfl o_242 f_12_406 (sh_12 _) (by decide)) <| e_iret D242_73 rfl
theorem b242_74 {d : Nat} {i0 : Nat} {x1 x2 : Int} {I L : Nat → Nat → Nat → Int} {t : Nat → Nat} : Res d 242 74 [vr 12 i0, vi x1, vi x2, vx] [] (mk I L t) = Res d 242 76 [vr 12 i0, vi x1, vi x2, vi 0] [] (mk I L t) :=
  Eq.trans (e_iconst (x := 0) D242_74 rfl rfl) <| e_istore_n (ls1 := [vr 12 i0, vi x1, vi x2, vi 0]) D242_75 rfl (show 3 < 4 by decide) rfl
theorem b242_76 {d : Nat} {i0 : Nat} {x1 x2 x3 : Int} {I L : Nat → Nat → Nat → Int} {t : Nat → Nat} : Res d 242 76 [vr 12 i0, vi x1, vi x2, vi x3] [] (mk I L t) = if I 12 i0 1 ≤ x3 then Res d 242 108 [vr 12 i0, vi x1, vi x2, vi x3] [] (mk I L t) else Res d 242 84 [vr 12 i0, vi x1, vi x2, vi x3] [] (mk I L t) :=
  Eq.trans (e_iload_n D242_76 rfl rfl) <| Eq.trans (e_aload_n D242_77 rfl rfl) <| Eq.trans (e_getI D242_78 rfl o_242 f_12_216 (sh_12 _) (by decide)) <| e_icge D242_81 rfl rfl
theorem b242_84 {d : Nat} {i0 : Nat} {x1 x2 x3 : Int} {I L : Nat → Nat → Nat → Int} {t : Nat → Nat} (g1 : 0 ≤ x3 ∧ x3 < 120) : Res d 242 84 [vr 12 i0, vi x1, vi x2, vi x3] [] (mk I L t) = if ¬ I 50 i0 x3.toNat = -1 then Res d 242 99 [vr 12 i0, vi x1, vi x2, vi x3] [vi x2] (mk I L t) else Res d 242 95 [vr 12 i0, vi x1, vi x2, vi x3] [vi x2] (mk I L t) :=
  Eq.trans (e_iload_n D242_84 rfl rfl) <| Eq.trans (e_aload_n D242_85 rfl rfl) <| Eq.trans (e_getP (p := (50, i0)) D242_86 rfl o_242 f_12_16 (sh_12 _) (by decide) (pp_12_7 _ _)) <| Eq.trans (e_iload_n D242_89 rfl rfl) <| Eq.trans (e_iald D242_90 rfl (al_50 _) g1) <| Eq.trans (e_iconst (x := -1) D242_91 rfl rfl) <| e_icne D242_92 rfl rfl
theorem b242_95 {d : Nat} {i0 : Nat} {x1 x2 x3 xs0 : Int} {I L : Nat → Nat → Nat → Int} {t : Nat → Nat} : Res d 242 95 [vr 12 i0, vi x1, vi x2, vi x3] [vi xs0] (mk I L t) = Res d 242 100 [vr 12 i0, vi x1, vi x2, vi x3] [vi 0, vi xs0] (mk I L t) :=
  Eq.trans (e_iconst (x := 0) D242_95 rfl rfl) <| e_goto (q1 := 100) D242_96 rfl
theorem b242_99 {d : Nat} {i0 : Nat} {x1 x2 x3 xs0 : Int} {I L : Nat → Nat → Nat → Int} {t : Nat → Nat} : Res d 242 99 [vr 12 i0, vi x1, vi x2, vi x3] [vi xs0] (mk I L t) = Res d 242 100 [vr 12 i0, vi x1, vi x2, vi x3] [vi 1, vi xs0] (mk I L t) :=
  e_iconst (x := 1) D242_99 rfl rfl
theorem b242_100 {d : Nat} {i0 : Nat} {x1 x2 x3 xs1 xs0 : Int} {I L : Nat → Nat → Nat → Int} {t : Nat → Nat} : Res d 242 100 [vr 12 i0, vi x1, vi x2, vi x3] [vi xs1, vi xs0] (mk I L t) = Res d 242 76 [vr 12 i0, vi x1, vi (w32 (xs0 + xs1)), vi (w32 (x3 + 1))] [] (mk I L t) :=
  Eq.trans (e_iadd D242_100 rfl) <| Eq.trans (e_istore_n (ls1 := [vr 12 i0, vi x1, vi (w32 (xs0 + xs1)), vi x3]) D242_101 rfl (show 2 < 4 by decide) rfl) <| Eq.trans (e_iinc (ls1 := [vr 12 i0, vi x1, vi (w32 (xs0 + xs1)), vi (w32 (x3 + 1))]) D242_102 rfl rfl rfl) <| e_goto (q1 := 76) D242_105 rfl
theorem b242_108 {d : Nat} {i0 : Nat} {x1 x2 x3 : Int} {I L : Nat → Nat → Nat → Int} {t : Nat → Nat} : Res d 242 108 [vr 12 i0, vi x1, vi x2, vi x3] [] (mk I L t) = some (vi x2, (mk I L t)) :=
  Eq.trans (e_iload_n D242_108 rfl rfl) <| e_iret D242_109 rfl
theorem b242_110 {d : Nat} {i0 : Nat} {x1 x2 : Int} {I L : Nat → Nat → Nat → Int} {t : Nat → Nat} : Res d 242 110 [vr 12 i0, vi x1, vi x2, vx] [] (mk I L t) = some (vi (-1), (mk I L t)) :=
  Eq.trans (e_iconst (x := -1) D242_110 rfl rfl) <| e_iret D242_111 rfl
/-! J_compare -/
theorem cc_243 : cod 243 = cJ6_compare_7cf53 := rfl
theorem D243_0 : decode (cod 243) 0 = .ok (.iload_n 0, 1) := by rw [cc_243]; decide +kernel
theorem D243_1 : decode (cod 243) 1 = .ok (.iload_n 1, 1) := by rw [cc_243]; decide +kernel
theorem D243_2 : decode (cod 243) 2 = .ok (.if_icmp .ge 7, 3) := by rw [cc_243]; decide +kernel
theorem D243_5 : decode (cod 243) 5 = .ok (.iconst (-1), 1) := by rw [cc_243]; decide +kernel
theorem D243_6 : decode (cod 243) 6 = .ok (.goto 13, 3) := by rw [cc_243]; decide +kernel
theorem D243_9 : decode (cod 243) 9 = .ok (.iload_n 0, 1) := by rw [cc_243]; decide +kernel
theorem D243_10 : decode (cod 243) 10 = .ok (.iload_n 1, 1) := by rw [cc_243]; decide +kernel
theorem D243_11 : decode (cod 243) 11 = .ok (.if_icmp .ne 7, 3) := by rw [cc_243]; decide +kernel
theorem D243_14 : decode (cod 243) 14 = .ok (.iconst 0, 1) := by rw [cc_243]; decide +kernel
theorem D243_15 : decode (cod 243) 15 = .ok (.goto 4, 3) := by rw [cc_243]; decide +kernel
theorem D243_18 : decode (cod 243) 18 = .ok (.iconst 1, 1) := by rw [cc_243]; decide +kernel
theorem D243_19 : decode (cod 243) 19 = .ok (.ireturn, 1) := by rw [cc_243]; decide +kernel
theorem b243_0 {d : Nat} {x0 x1 : Int} {I L : Nat → Nat → Nat → Int} {t : Nat → Nat} : Res d 243 0 [vi x0, vi x1] [] (mk I L t) = if x1 ≤ x0 then Res d 243 9 [vi x0, vi x1] [] (mk I L t) else Res d 243 5 [vi x0, vi x1] [] (mk I L t) :=
  Eq.trans (e_iload_n D243_0 rfl rfl) <| Eq.trans (e_iload_n D243_1 rfl rfl) <| e_icge D243_2 rfl rfl
theorem b243_5 {d : Nat} {x0 x1 : Int} {I L : Nat → Nat → Nat → Int} {t : Nat → Nat} : Res d 243 5 [vi x0, vi x1] [] (mk I L t) = Res d 243 19 [vi x0, vi x1] [vi (-1)] (mk I L t) :=
  Eq.trans (e_iconst (x := -1) D243_5 rfl rfl) <| e_goto (q1 := 19) D243_6 rfl
theorem b243_9 {d : Nat} {x0 x1 : Int} {I L : Nat → Nat → Nat → Int} {t : Nat → Nat} : Res d 243 9 [vi x0, vi x1] [] (mk I L t) = if ¬ x0 = x1 then Res d 243 18 [vi x0, vi x1] [] (mk I L t) else Res d 243 14 [vi x0, vi x1] [] (mk I L t) :=
  Eq.trans (e_iload_n D243_9 rfl rfl) <| Eq.trans (e_iload_n D243_10 rfl rfl) <| e_icne D243_11 rfl rfl
theorem b243_14 {d : Nat} {x0 x1 : Int} {I L : Nat → Nat → Nat → Int} {t : Nat → Nat} : Res d 243 14 [vi x0, vi x1] [] (mk I L t) = Res d 243 19 [vi x0, vi x1] [vi 0] (mk I L t) :=
  Eq.trans (e_iconst (x := 0) D243_14 rfl rfl) <| e_goto (q1 := 19) D243_15 rfl
theorem b243_18 {d : Nat} {x0 x1 : Int} {I L : Nat → Nat → Nat → Int} {t : Nat → Nat} : Res d 243 18 [vi x0, vi x1] [] (mk I L t) = Res d 243 19 [vi x0, vi x1] [vi 1] (mk I L t) :=
  e_iconst (x := 1) D243_18 rfl rfl
theorem b243_19 {d : Nat} {x0 x1 xs0 : Int} {I L : Nat → Nat → Nat → Int} {t : Nat → Nat} : Res d 243 19 [vi x0, vi x1] [vi xs0] (mk I L t) = some (vi xs0, (mk I L t)) :=
  e_iret D243_19 rfl
/-! J_bitCount -/
theorem cc_244 : cod 244 = cJ6_bitCount_0f7a4 := rfl
theorem D244_0 : decode (cod 244) 0 = .ok (.iload_n 0, 1) := by rw [cc_244]; decide +kernel
theorem D244_1 : decode (cod 244) 1 = .ok (.iload_n 0, 1) := by rw [cc_244]; decide +kernel
theorem D244_2 : decode (cod 244) 2 = .ok (.iconst 1, 1) := by rw [cc_244]; decide +kernel
theorem D244_3 : decode (cod 244) 3 = .ok (.iushr, 1) := by rw [cc_244]; decide +kernel
theorem D244_4 : decode (cod 244) 4 = .ok (.ldc_w 265, 3) := by rw [cc_244]; decide +kernel
theorem D244_7 : decode (cod 244) 7 = .ok (.iand, 1) := by rw [cc_244]; decide +kernel
theorem D244_8 : decode (cod 244) 8 = .ok (.isub, 1) := by rw [cc_244]; decide +kernel
theorem D244_9 : decode (cod 244) 9 = .ok (.istore_n 0, 1) := by rw [cc_244]; decide +kernel
theorem D244_10 : decode (cod 244) 10 = .ok (.iload_n 0, 1) := by rw [cc_244]; decide +kernel
theorem D244_11 : decode (cod 244) 11 = .ok (.ldc_w 266, 3) := by rw [cc_244]; decide +kernel
theorem D244_14 : decode (cod 244) 14 = .ok (.iand, 1) := by rw [cc_244]; decide +kernel
theorem D244_15 : decode (cod 244) 15 = .ok (.iload_n 0, 1) := by rw [cc_244]; decide +kernel
theorem D244_16 : decode (cod 244) 16 = .ok (.iconst 2, 1) := by rw [cc_244]; decide +kernel
theorem D244_17 : decode (cod 244) 17 = .ok (.iushr, 1) := by rw [cc_244]; decide +kernel
theorem D244_18 : decode (cod 244) 18 = .ok (.ldc_w 266, 3) := by rw [cc_244]; decide +kernel
theorem D244_21 : decode (cod 244) 21 = .ok (.iand, 1) := by rw [cc_244]; decide +kernel
theorem D244_22 : decode (cod 244) 22 = .ok (.iadd, 1) := by rw [cc_244]; decide +kernel
theorem D244_23 : decode (cod 244) 23 = .ok (.istore_n 0, 1) := by rw [cc_244]; decide +kernel
theorem D244_24 : decode (cod 244) 24 = .ok (.iload_n 0, 1) := by rw [cc_244]; decide +kernel
theorem D244_25 : decode (cod 244) 25 = .ok (.iload_n 0, 1) := by rw [cc_244]; decide +kernel
theorem D244_26 : decode (cod 244) 26 = .ok (.iconst 4, 1) := by rw [cc_244]; decide +kernel
theorem D244_27 : decode (cod 244) 27 = .ok (.iushr, 1) := by rw [cc_244]; decide +kernel
theorem D244_28 : decode (cod 244) 28 = .ok (.iadd, 1) := by rw [cc_244]; decide +kernel
theorem D244_29 : decode (cod 244) 29 = .ok (.ldc_w 267, 3) := by rw [cc_244]; decide +kernel
theorem D244_32 : decode (cod 244) 32 = .ok (.iand, 1) := by rw [cc_244]; decide +kernel
theorem D244_33 : decode (cod 244) 33 = .ok (.istore_n 0, 1) := by rw [cc_244]; decide +kernel
theorem D244_34 : decode (cod 244) 34 = .ok (.iload_n 0, 1) := by rw [cc_244]; decide +kernel
theorem D244_35 : decode (cod 244) 35 = .ok (.iload_n 0, 1) := by rw [cc_244]; decide +kernel
theorem D244_36 : decode (cod 244) 36 = .ok (.bipush 8, 2) := by rw [cc_244]; decide +kernel
theorem D244_38 : decode (cod 244) 38 = .ok (.iushr, 1) := by rw [cc_244]; decide +kernel
theorem D244_39 : decode (cod 244) 39 = .ok (.iadd, 1) := by rw [cc_244]; decide +kernel
theorem D244_40 : decode (cod 244) 40 = .ok (.istore_n 0, 1) := by rw [cc_244]; decide +kernel
theorem D244_41 : decode (cod 244) 41 = .ok (.iload_n 0, 1) := by rw [cc_244]; decide +kernel
theorem D244_42 : decode (cod 244) 42 = .ok (.iload_n 0, 1) := by rw [cc_244]; decide +kernel
theorem D244_43 : decode (cod 244) 43 = .ok (.bipush 16, 2) := by rw [cc_244]; decide +kernel
theorem D244_45 : decode (cod 244) 45 = .ok (.iushr, 1) := by rw [cc_244]; decide +kernel
theorem D244_46 : decode (cod 244) 46 = .ok (.iadd, 1) := by rw [cc_244]; decide +kernel
theorem D244_47 : decode (cod 244) 47 = .ok (.istore_n 0, 1) := by rw [cc_244]; decide +kernel
theorem D244_48 : decode (cod 244) 48 = .ok (.iload_n 0, 1) := by rw [cc_244]; decide +kernel
theorem D244_49 : decode (cod 244) 49 = .ok (.bipush 63, 2) := by rw [cc_244]; decide +kernel
theorem D244_51 : decode (cod 244) 51 = .ok (.iand, 1) := by rw [cc_244]; decide +kernel
theorem D244_52 : decode (cod 244) 52 = .ok (.ireturn, 1) := by rw [cc_244]; decide +kernel
theorem b244_0 {d : Nat} {x0 : Int} {I L : Nat → Nat → Nat → Int} {t : Nat → Nat} : Res d 244 0 [vi x0] [] (mk I L t) = some (vi (vIand (w32 ((w32 ((vIand (w32 ((w32 ((vIand (w32 (x0 - (vIand (vIushr x0 1) 1431655765))) 858993459) + (vIand (vIushr (w32 (x0 - (vIand (vIushr x0 1) 1431655765))) 2) 858993459))) + (vIushr (w32 ((vIand (w32 (x0 - (vIand (vIushr x0 1) 1431655765))) 858993459) + (vIand (vIushr (w32 (x0 - (vIand (vIushr x0 1) 1431655765))) 2) 858993459))) 4))) 252645135) + (vIushr (vIand (w32 ((w32 ((vIand (w32 (x0 - (vIand (vIushr x0 1) 1431655765))) 858993459) + (vIand (vIushr (w32 (x0 - (vIand (vIushr x0 1) 1431655765))) 2) 858993459))) + (vIushr (w32 ((vIand (w32 (x0 - (vIand (vIushr x0 1) 1431655765))) 858993459) + (vIand (vIushr (w32 (x0 - (vIand (vIushr x0 1) 1431655765))) 2) 858993459))) 4))) 252645135) 8))) + (vIushr (w32 ((vIand (w32 ((w32 ((vIand (w32 (x0 - (vIand (vIushr x0 1) 1431655765))) 858993459) + (vIand (vIushr (w32 (x0 - (vIand (vIushr x0 1) 1431655765))) 2) 858993459))) + (vIushr (w32 ((vIand (w32 (x0 - (vIand (vIushr x0 1) 1431655765))) 858993459) + (vIand (vIushr (w32 (x0 - (vIand (vIushr x0 1) 1431655765))) 2) 858993459))) 4))) 252645135) + (vIushr (vIand (w32 ((w32 ((vIand (w32 (x0 - (vIand (vIushr x0 1) 1431655765))) 858993459) + (vIand (vIushr (w32 (x0 - (vIand (vIushr x0 1) 1431655765))) 2) 858993459))) + (vIushr (w32 ((vIand (w32 (x0 - (vIand (vIushr x0 1) 1431655765))) 858993459) + (vIand (vIushr (w32 (x0 - (vIand (vIushr x0 1) 1431655765))) 2) 858993459))) 4))) 252645135) 8))) 16))) 63), (mk I L t)) :=
  Eq.trans (e_iload_n D244_0 rfl rfl) <| Eq.trans (e_iload_n D244_1 rfl rfl) <| Eq.trans (e_iconst (x := 1) D244_2 rfl rfl) <| Eq.trans (e_iushr D244_3 rfl) <| Eq.trans (e_ldc_w (x := 1431655765) D244_4 rfl o_244 i_13_265 rfl) <| Eq.trans (e_iand D244_7 rfl) <| Eq.trans (e_isub D244_8 rfl) <| Eq.trans (e_istore_n (ls1 := [vi (w32 (x0 - (vIand (vIushr x0 1) 1431655765)))]) D244_9 rfl (show 0 < 1 by decide) rfl) <| Eq.trans (e_iload_n D244_10 rfl rfl) <| Eq.trans (e_ldc_w (x := 858993459) D244_11 rfl o_244 i_13_266 rfl) <| Eq.trans (e_iand D244_14 rfl) <| Eq.trans (e_iload_n D244_15 rfl rfl) <| Eq.trans (e_iconst (x := 2) D244_16 rfl rfl) <| Eq.trans (e_iushr D244_17 rfl) <| Eq.trans (e_ldc_w (x := 858993459) D244_18 rfl o_244 i_13_266 rfl) <| Eq.trans (e_iand D244_21 rfl) <| Eq.trans (e_iadd D244_22 rfl) <| Eq.trans (e_istore_n (ls1 := [vi (w32 ((vIand (w32 (x0 - (vIand (vIushr x0 1) 1431655765))) 858993459) + (vIand (vIushr (w32 (x0 - (vIand (vIushr x0 1) 1431655765))) 2) 858993459)))]) D244_23 rfl (show 0 < 1 by decide) rfl) <| Eq.trans (e_iload_n D244_24 rfl rfl) <| Eq.trans (e_iload_n D244_25 rfl rfl) <| Eq.trans (e_iconst (x := 4) D244_26 rfl rfl) <| Eq.trans (e_iushr D244_27 rfl) <| Eq.trans (e_iadd D244_28 rfl) <| Eq.trans (e_ldc_w (x := 252645135) D244_29 rfl o_244 i_13_267 rfl) <| Eq.trans (e_iand D244_32 rfl) <| Eq.trans (e_istore_n (ls1 := [vi (vIand (w32 ((w32 ((vIand (w32 (x0 - (vIand (vIushr x0 1) 1431655765))) 858993459) + (vIand (vIushr (w32 (x0 - (vIand (vIushr x0 1) 1431655765))) 2) 858993459))) + (vIushr (w32 ((vIand (w32 (x0 - (vIand (vIushr x0 1) 1431655765))) 858993459) + (vIand (vIushr (w32 (x0 - (vIand (vIushr x0 1) 1431655765))) 2) 858993459))) 4))) 252645135)]) D244_33 rfl (show 0 < 1 by decide) rfl) <| Eq.trans (e_iload_n D244_34 rfl rfl) <| Eq.trans (e_iload_n D244_35 rfl rfl) <| Eq.trans (e_bipush (x := 8) D244_36 rfl rfl) <| Eq.trans (e_iushr D244_38 rfl) <| Eq.trans (e_iadd D244_39 rfl) <| Eq.trans (e_istore_n (ls1 := [vi (w32 ((vIand (w32 ((w32 ((vIand (w32 (x0 - (vIand (vIushr x0 1) 1431655765))) 858993459) + (vIand (vIushr (w32 (x0 - (vIand (vIushr x0 1) 1431655765))) 2) 858993459))) + (vIushr (w32 ((vIand (w32 (x0 - (vIand (vIushr x0 1) 1431655765))) 858993459) + (vIand (vIushr (w32 (x0 - (vIand (vIushr x0 1) 1431655765))) 2) 858993459))) 4))) 252645135) + (vIushr (vIand (w32 ((w32 ((vIand (w32 (x0 - (vIand (vIushr x0 1) 1431655765))) 858993459) + (vIand (vIushr (w32 (x0 - (vIand (vIushr x0 1) 1431655765))) 2) 858993459))) + (vIushr (w32 ((vIand (w32 (x0 - (vIand (vIushr x0 1) 1431655765))) 858993459) + (vIand (vIushr (w32 (x0 - (vIand (vIushr x0 1) 1431655765))) 2) 858993459))) 4))) 252645135) 8)))]) D244_40 rfl (show 0 < 1 by decide) rfl) <| Eq.trans (e_iload_n D244_41 rfl rfl) <| Eq.trans (e_iload_n D244_42 rfl rfl) <| Eq.trans (e_bipush (x := 16) D244_43 rfl rfl) <| Eq.trans (e_iushr D244_45 rfl) <| Eq.trans (e_iadd D244_46 rfl) <| Eq.trans (e_istore_n (ls1 := [vi (w32 ((w32 ((vIand (w32 ((w32 ((vIand (w32 (x0 - (vIand (vIushr x0 1) 1431655765))) 858993459) + (vIand (vIushr (w32 (x0 - (vIand (vIushr x0 1) 1431655765))) 2) 858993459))) + (vIushr (w32 ((vIand (w32 (x0 - (vIand (vIushr x0 1) 1431655765))) 858993459) + (vIand (vIushr (w32 (x0 - (vIand (vIushr x0 1) 1431655765))) 2) 858993459))) 4))) 252645135) + (vIushr (vIand (w32 ((w32 ((vIand (w32 (x0 - (vIand (vIushr x0 1) 1431655765))) 858993459) + (vIand (vIushr (w32 (x0 - (vIand (vIushr x0 1) 1431655765))) 2) 858993459))) + (vIushr (w32 ((vIand (w32 (x0 - (vIand (vIushr x0 1) 1431655765))) 858993459) + (vIand (vIushr (w32 (x0 - (vIand (vIushr x0 1) 1431655765))) 2) 858993459))) 4))) 252645135) 8))) + (vIushr (w32 ((vIand (w32 ((w32 ((vIand (w32 (x0 - (vIand (vIushr x0 1) 1431655765))) 858993459) + (vIand (vIushr (w32 (x0 - (vIand (vIushr x0 1) 1431655765))) 2) 858993459))) + (vIushr (w32 ((vIand (w32 (x0 - (vIand (vIushr x0 1) 1431655765))) 858993459) + (vIand (vIushr (w32 (x0 - (vIand (vIushr x0 1) 1431655765))) 2) 858993459))) 4))) 252645135) + (vIushr (vIand (w32 ((w32 ((vIand (w32 (x0 - (vIand (vIushr x0 1) 1431655765))) 858993459) + (vIand (vIushr (w32 (x0 - (vIand (vIushr x0 1) 1431655765))) 2) 858993459))) + (vIushr (w32 ((vIand (w32 (x0 - (vIand (vIushr x0 1) 1431655765))) 858993459) + (vIand (vIushr (w32 (x0 - (vIand (vIushr x0 1) 1431655765))) 2) 858993459))) 4))) 252645135) 8))) 16)))]) D244_47 rfl (show 0 < 1 by decide) rfl) <| Eq.trans (e_iload_n D244_48 rfl rfl) <| Eq.trans (e_bipush (x := 63) D244_49 rfl rfl) <| Eq.trans (e_iand D244_51 rfl) <| e_iret D244_52 rfl
/-! J_floorMod -/
theorem cc_245 : cod 245 = cJ9_floorMod_7cf53 := rfl
theorem D245_0 : decode (cod 245) 0 = .ok (.iload_n 0, 1) := by rw [cc_245]; decide +kernel
theorem D245_1 : decode (cod 245) 1 = .ok (.iload_n 1, 1) := by rw [cc_245]; decide +kernel
theorem D245_2 : decode (cod 245) 2 = .ok (.irem, 1) := by rw [cc_245]; decide +kernel
theorem D245_3 : decode (cod 245) 3 = .ok (.istore_n 2, 1) := by rw [cc_245]; decide +kernel
theorem D245_4 : decode (cod 245) 4 = .ok (.iload_n 0, 1) := by rw [cc_245]; decide +kernel
theorem D245_5 : decode (cod 245) 5 = .ok (.iload_n 1, 1) := by rw [cc_245]; decide +kernel
theorem D245_6 : decode (cod 245) 6 = .ok (.ixor, 1) := by rw [cc_245]; decide +kernel
theorem D245_7 : decode (cod 245) 7 = .ok (.ifCond .ge 11, 3) := by rw [cc_245]; decide +kernel
theorem D245_10 : decode (cod 245) 10 = .ok (.iload_n 2, 1) := by rw [cc_245]; decide +kernel
theorem D245_11 : decode (cod 245) 11 = .ok (.ifCond .eq 7, 3) := by rw [cc_245]; decide +kernel
theorem D245_14 : decode (cod 245) 14 = .ok (.iload_n 2, 1) := by rw [cc_245]; decide +kernel
theorem D245_15 : decode (cod 245) 15 = .ok (.iload_n 1, 1) := by rw [cc_245]; decide +kernel
theorem D245_16 : decode (cod 245) 16 = .ok (.iadd, 1) := by rw [cc_245]; decide +kernel
theorem D245_17 : decode (cod 245) 17 = .ok (.ireturn, 1) := by rw [cc_245]; decide +kernel
theorem D245_18 : decode (cod 245) 18 = .ok (.iload_n 2, 1) := by rw [cc_245]; decide +kernel
theorem D245_19 : decode (cod 245) 19 = .ok (.ireturn, 1) := by rw [cc_245]; decide +kernel
theorem b245_0 {d : Nat} {x0 x1 : Int} {I L : Nat → Nat → Nat → Int} {t : Nat → Nat} (g1 : x1 ≠ 0) : Res d 245 0 [vi x0, vi x1, vx] [] (mk I L t) = if 0 ≤ vIxor x0 x1 then Res d 245 18 [vi x0, vi x1, vi (vIrem x0 x1)] [] (mk I L t) else Res d 245 10 [vi x0, vi x1, vi (vIrem x0 x1)] [] (mk I L t) :=
  Eq.trans (e_iload_n D245_0 rfl rfl) <| Eq.trans (e_iload_n D245_1 rfl rfl) <| Eq.trans (e_irem D245_2 rfl g1) <| Eq.trans (e_istore_n (ls1 := [vi x0, vi x1, vi (vIrem x0 x1)]) D245_3 rfl (show 2 < 3 by decide) rfl) <| Eq.trans (e_iload_n D245_4 rfl rfl) <| Eq.trans (e_iload_n D245_5 rfl rfl) <| Eq.trans (e_ixor D245_6 rfl) <| e_ifge D245_7 rfl rfl
theorem b245_10 {d : Nat} {x0 x1 x2 : Int} {I L : Nat → Nat → Nat → Int} {t : Nat → Nat} : Res d 245 10 [vi x0, vi x1, vi x2] [] (mk I L t) = if x2 = 0 then Res d 245 18 [vi x0, vi x1, vi x2] [] (mk I L t) else Res d 245 14 [vi x0, vi x1, vi x2] [] (mk I L t) :=
  Eq.trans (e_iload_n D245_10 rfl rfl) <| e_ifeq D245_11 rfl rfl
theorem b245_14 {d : Nat} {x0 x1 x2 : Int} {I L : Nat → Nat → Nat → Int} {t : Nat → Nat} : Res d 245 14 [vi x0, vi x1, vi x2] [] (mk I L t) = some (vi (w32 (x2 + x1)), (mk I L t)) :=
  Eq.trans (e_iload_n D245_14 rfl rfl) <| Eq.trans (e_iload_n D245_15 rfl rfl) <| Eq.trans (e_iadd D245_16 rfl) <| e_iret D245_17 rfl
theorem b245_18 {d : Nat} {x0 x1 x2 : Int} {I L : Nat → Nat → Nat → Int} {t : Nat → Nat} : Res d 245 18 [vi x0, vi x1, vi x2] [] (mk I L t) = some (vi x2, (mk I L t)) :=
  Eq.trans (e_iload_n D245_18 rfl rfl) <| e_iret D245_19 rfl
/-! J_abs -/
theorem cc_246 : cod 246 = cJ9_abs_0f7a4 := rfl
theorem D246_0 : decode (cod 246) 0 = .ok (.iload_n 0, 1) := by rw [cc_246]; decide +kernel
theorem D246_1 : decode (cod 246) 1 = .ok (.ifCond .ge 8, 3) := by rw [cc_246]; decide +kernel
theorem D246_4 : decode (cod 246) 4 = .ok (.iload_n 0, 1) := by rw [cc_246]; decide +kernel
theorem D246_5 : decode (cod 246) 5 = .ok (.ineg, 1) := by rw [cc_246]; decide +kernel
theorem D246_6 : decode (cod 246) 6 = .ok (.goto 4, 3) := by rw [cc_246]; decide +kernel
theorem D246_9 : decode (cod 246) 9 = .ok (.iload_n 0, 1) := by rw [cc_246]; decide +kernel
theorem D246_10 : decode (cod 246) 10 = .ok (.ireturn, 1) := by rw [cc_246]; decide +kernel
theorem b246_0 {d : Nat} {x0 : Int} {I L : Nat → Nat → Nat → Int} {t : Nat → Nat} : Res d 246 0 [vi x0] [] (mk I L t) = if 0 ≤ x0 then Res d 246 9 [vi x0] [] (mk I L t) else Res d 246 4 [vi x0] [] (mk I L t) :=
  Eq.trans (e_iload_n D246_0 rfl rfl) <| e_ifge D246_1 rfl rfl
theorem b246_4 {d : Nat} {x0 : Int} {I L : Nat → Nat → Nat → Int} {t : Nat → Nat} : Res d 246 4 [vi x0] [] (mk I L t) = Res d 246 10 [vi x0] [vi (w32 (-x0))] (mk I L t) :=
  Eq.trans (e_iload_n D246_4 rfl rfl) <| Eq.trans (e_ineg D246_5 rfl) <| e_goto (q1 := 10) D246_6 rfl
theorem b246_9 {d : Nat} {x0 : Int} {I L : Nat → Nat → Nat → Int} {t : Nat → Nat} : Res d 246 9 [vi x0] [] (mk I L t) = Res d 246 10 [vi x0] [vi x0] (mk I L t) :=
  e_iload_n D246_9 rfl rfl
theorem b246_10 {d : Nat} {x0 xs0 : Int} {I L : Nat → Nat → Nat → Int} {t : Nat → Nat} : Res d 246 10 [vi x0] [vi xs0] (mk I L t) = some (vi xs0, (mk I L t)) :=
  e_iret D246_10 rfl
/-! J_max -/
theorem cc_247 : cod 247 = cJ9_max_7cf53 := rfl
theorem D247_0 : decode (cod 247) 0 = .ok (.iload_n 0, 1) := by rw [cc_247]; decide +kernel
theorem D247_1 : decode (cod 247) 1 = .ok (.iload_n 1, 1) := by rw [cc_247]; decide +kernel
theorem D247_2 : decode (cod 247) 2 = .ok (.if_icmp .lt 7, 3) := by rw [cc_247]; decide +kernel
theorem D247_5 : decode (cod 247) 5 = .ok (.iload_n 0, 1) := by rw [cc_247]; decide +kernel
theorem D247_6 : decode (cod 247) 6 = .ok (.goto 4, 3) := by rw [cc_247]; decide +kernel
theorem D247_9 : decode (cod 247) 9 = .ok (.iload_n 1, 1) := by rw [cc_247]; decide +kernel
theorem D247_10 : decode (cod 247) 10 = .ok (.ireturn, 1) := by rw [cc_247]; decide +kernel
theorem b247_0 {d : Nat} {x0 x1 : Int} {I L : Nat → Nat → Nat → Int} {t : Nat → Nat} : Res d 247 0 [vi x0, vi x1] [] (mk I L t) = if x0 < x1 then Res d 247 9 [vi x0, vi x1] [] (mk I L t) else Res d 247 5 [vi x0, vi x1] [] (mk I L t) :=
  Eq.trans (e_iload_n D247_0 rfl rfl) <| Eq.trans (e_iload_n D247_1 rfl rfl) <| e_iclt D247_2 rfl rfl
theorem b247_5 {d : Nat} {x0 x1 : Int} {I L : Nat → Nat → Nat → Int} {t : Nat → Nat} : Res d 247 5 [vi x0, vi x1] [] (mk I L t) = Res d 247 10 [vi x0, vi x1] [vi x0] (mk I L t) :=
  Eq.trans (e_iload_n D247_5 rfl rfl) <| e_goto (q1 := 10) D247_6 rfl
theorem b247_9 {d : Nat} {x0 x1 : Int} {I L : Nat → Nat → Nat → Int} {t : Nat → Nat} : Res d 247 9 [vi x0, vi x1] [] (mk I L t) = Res d 247 10 [vi x0, vi x1] [vi x1] (mk I L t) :=
  e_iload_n D247_9 rfl rfl
theorem b247_10 {d : Nat} {x0 x1 xs0 : Int} {I L : Nat → Nat → Nat → Int} {t : Nat → Nat} : Res d 247 10 [vi x0, vi x1] [vi xs0] (mk I L t) = some (vi xs0, (mk I L t)) :=
  e_iret D247_10 rfl
