/-! block equations (printed by wip/whole/genall.py) -/
/-! x_startNest -/
theorem cc_131 : cod 131 = cX11_startNest := rfl
theorem D131_0 : decode (cod 131) 0 = .ok (.iconst 0, 1) := by rw [cc_131]; decide +kernel
theorem D131_1 : decode (cod 131) 1 = .ok (.istore_n 2, 1) := by rw [cc_131]; decide +kernel
theorem D131_2 : decode (cod 131) 2 = .ok (.iconst 0, 1) := by rw [cc_131]; decide +kernel
theorem D131_3 : decode (cod 131) 3 = .ok (.istore_n 3, 1) := by rw [cc_131]; decide +kernel
theorem D131_4 : decode (cod 131) 4 = .ok (.iload_n 3, 1) := by rw [cc_131]; decide +kernel
theorem D131_5 : decode (cod 131) 5 = .ok (.bipush 9, 2) := by rw [cc_131]; decide +kernel
theorem D131_7 : decode (cod 131) 7 = .ok (.if_icmp .ge 44, 3) := by rw [cc_131]; decide +kernel
theorem D131_10 : decode (cod 131) 10 = .ok (.aload_n 1, 1) := by rw [cc_131]; decide +kernel
theorem D131_11 : decode (cod 131) 11 = .ok (.iload_n 3, 1) := by rw [cc_131]; decide +kernel
theorem D131_12 : decode (cod 131) 12 = .ok (.invokevirtual 247, 3) := by rw [cc_131]; decide +kernel
theorem D131_15 : decode (cod 131) 15 = .ok (.istore 4, 2) := by rw [cc_131]; decide +kernel
theorem D131_17 : decode (cod 131) 17 = .ok (.iload 4, 2) := by rw [cc_131]; decide +kernel
theorem D131_19 : decode (cod 131) 19 = .ok (.iconst (-1), 1) := by rw [cc_131]; decide +kernel
theorem D131_20 : decode (cod 131) 20 = .ok (.if_icmp .eq 25, 3) := by rw [cc_131]; decide +kernel
theorem D131_23 : decode (cod 131) 23 = .ok (.aload_n 0, 1) := by rw [cc_131]; decide +kernel
theorem D131_24 : decode (cod 131) 24 = .ok (.getfield 61, 3) := by rw [cc_131]; decide +kernel
theorem D131_27 : decode (cod 131) 27 = .ok (.getfield 297, 3) := by rw [cc_131]; decide +kernel
theorem D131_30 : decode (cod 131) 30 = .ok (.iload_n 2, 1) := by rw [cc_131]; decide +kernel
theorem D131_31 : decode (cod 131) 31 = .ok (.aaload, 1) := by rw [cc_131]; decide +kernel
theorem D131_32 : decode (cod 131) 32 = .ok (.aload_n 0, 1) := by rw [cc_131]; decide +kernel
theorem D131_33 : decode (cod 131) 33 = .ok (.getfield 11, 3) := by rw [cc_131]; decide +kernel
theorem D131_36 : decode (cod 131) 36 = .ok (.iload 4, 2) := by rw [cc_131]; decide +kernel
theorem D131_38 : decode (cod 131) 38 = .ok (.aaload, 1) := by rw [cc_131]; decide +kernel
theorem D131_39 : decode (cod 131) 39 = .ok (.invokevirtual 469, 3) := by rw [cc_131]; decide +kernel
theorem D131_42 : decode (cod 131) 42 = .ok (.iinc 2 1, 3) := by rw [cc_131]; decide +kernel
theorem D131_45 : decode (cod 131) 45 = .ok (.iinc 3 1, 3) := by rw [cc_131]; decide +kernel
theorem D131_48 : decode (cod 131) 48 = .ok (.goto (-44), 3) := by rw [cc_131]; decide +kernel
theorem D131_51 : decode (cod 131) 51 = .ok (.iload_n 2, 1) := by rw [cc_131]; decide +kernel
theorem D131_52 : decode (cod 131) 52 = .ok (.ireturn, 1) := by rw [cc_131]; decide +kernel
theorem b131_0 {d : Nat} {i0 i1 : Nat} {I L : Nat → Nat → Nat → Int} {t : Nat → Nat} : Res d 131 0 [vr 11 i0, vr 4 i1, vx, vx, vx] [] (mk I L t) = Res d 131 4 [vr 11 i0, vr 4 i1, vi 0, vi 0, vx] [] (mk I L t) :=
  Eq.trans (e_iconst (x := 0) D131_0 rfl rfl) <| Eq.trans (e_istore_n (ls1 := [vr 11 i0, vr 4 i1, vi 0, vx, vx]) D131_1 rfl (show 2 < 5 by decide) rfl) <| Eq.trans (e_iconst (x := 0) D131_2 rfl rfl) <| e_istore_n (ls1 := [vr 11 i0, vr 4 i1, vi 0, vi 0, vx]) D131_3 rfl (show 3 < 5 by decide) rfl
theorem b131_4 {d : Nat} {i0 i1 : Nat} {x2 x3 : Int} {u4 : MV} {I L : Nat → Nat → Nat → Int} {t : Nat → Nat} : Res d 131 4 [vr 11 i0, vr 4 i1, vi x2, vi x3, u4] [] (mk I L t) = if 9 ≤ x3 then Res d 131 51 [vr 11 i0, vr 4 i1, vi x2, vi x3, u4] [] (mk I L t) else Res d 131 10 [vr 11 i0, vr 4 i1, vi x2, vi x3, u4] [] (mk I L t) :=
  Eq.trans (e_iload_n D131_4 rfl rfl) <| Eq.trans (e_bipush (x := 9) D131_5 rfl rfl) <| e_icge D131_7 rfl rfl
theorem b131_10 {d : Nat} {i0 i1 : Nat} {x2 x3 : Int} {u4 : MV} {I L : Nat → Nat → Nat → Int} {t : Nat → Nat} : Res (d + 1) 131 10 [vr 11 i0, vr 4 i1, vi x2, vi x3, u4] [] (mk I L t) = (Cal d 26 [vr 4 i1, vi x3] (mk I L t)).bind fun v => Res (d + 1) 131 15 [vr 11 i0, vr 4 i1, vi x2, vi x3, u4] (psh 26 v.1 []) v.2 :=
  Eq.trans (e_aload_n D131_10 rfl rfl) <| Eq.trans (e_iload_n D131_11 rfl rfl) <| e_callV D131_12 rfl o_131 m_11_247 (by decide) rfl rfl
theorem b131_15 {d : Nat} {i0 i1 : Nat} {x2 x3 xs0 : Int} {u4 : MV} {I L : Nat → Nat → Nat → Int} {t : Nat → Nat} : Res d 131 15 [vr 11 i0, vr 4 i1, vi x2, vi x3, u4] [vi xs0] (mk I L t) = if xs0 = -1 then Res d 131 45 [vr 11 i0, vr 4 i1, vi x2, vi x3, vi xs0] [] (mk I L t) else Res d 131 23 [vr 11 i0, vr 4 i1, vi x2, vi x3, vi xs0] [] (mk I L t) :=
  Eq.trans (e_istore (ls1 := [vr 11 i0, vr 4 i1, vi x2, vi x3, vi xs0]) D131_15 rfl (show 4 < 5 by decide) rfl) <| Eq.trans (e_iload D131_17 rfl rfl) <| Eq.trans (e_iconst (x := -1) D131_19 rfl rfl) <| e_iceq D131_20 rfl rfl
theorem b131_23 {d : Nat} {i0 i1 : Nat} {x2 x3 x4 : Int} {I L : Nat → Nat → Nat → Int} {t : Nat → Nat} (g1 : 0 ≤ x2 ∧ x2 < 9) (g2 : 0 ≤ x4 ∧ x4 < 120) : Res (d + 1) 131 23 [vr 11 i0, vr 4 i1, vi x2, vi x3, vi x4] [] (mk I L t) = (Cal d 10 [vr 1 (120 + x2.toNat), vr 1 x4.toNat] (mk I L t)).bind fun v => Res (d + 1) 131 42 [vr 11 i0, vr 4 i1, vi x2, vi x3, vi x4] (psh 10 v.1 []) v.2 :=
  Eq.trans (e_aload_n D131_23 rfl rfl) <| Eq.trans (e_getP (p := (0, 0)) D131_24 rfl o_131 f_11_61 (sh_11 _) (by decide) (pp_11_9 _ _)) <| Eq.trans (e_getP (p := (21, 0)) D131_27 rfl o_131 f_11_297 (sh_0 _) (by decide) (pp_0_9 _ _)) <| Eq.trans (e_iload_n D131_30 rfl rfl) <| Eq.trans (e_aald (p := (1, 120 + x2.toNat)) D131_31 rfl (ae_21 _) (aq_21 _) (pa_21 _ _ _) g1) <| Eq.trans (e_aload_n D131_32 rfl rfl) <| Eq.trans (e_getP (p := (40, i0)) D131_33 rfl o_131 f_11_11 (sh_11 _) (by decide) (pp_11_0 _ _)) <| Eq.trans (e_iload D131_36 rfl rfl) <| Eq.trans (e_aald (p := (1, x4.toNat)) D131_38 rfl (ae_40 _) (aq_40 _) (pa_40 _ _ _) g2) <| e_callV D131_39 rfl o_131 m_11_469 (by decide) rfl rfl
theorem b131_42 {d : Nat} {i0 i1 : Nat} {x2 x3 x4 : Int} {I L : Nat → Nat → Nat → Int} {t : Nat → Nat} : Res d 131 42 [vr 11 i0, vr 4 i1, vi x2, vi x3, vi x4] [] (mk I L t) = Res d 131 45 [vr 11 i0, vr 4 i1, vi (w32 (x2 + 1)), vi x3, vi x4] [] (mk I L t) :=
  e_iinc (ls1 := [vr 11 i0, vr 4 i1, vi (w32 (x2 + 1)), vi x3, vi x4]) D131_42 rfl rfl rfl
theorem b131_45 {d : Nat} {i0 i1 : Nat} {x2 x3 x4 : Int} {I L : Nat → Nat → Nat → Int} {t : Nat → Nat} : Res d 131 45 [vr 11 i0, vr 4 i1, vi x2, vi x3, vi x4] [] (mk I L t) = Res d 131 4 [vr 11 i0, vr 4 i1, vi x2, vi (w32 (x3 + 1)), vi x4] [] (mk I L t) :=
  Eq.trans (e_iinc (ls1 := [vr 11 i0, vr 4 i1, vi x2, vi (w32 (x3 + 1)), vi x4]) D131_45 rfl rfl rfl) <| e_goto (q1 := 4) D131_48 rfl
theorem b131_51 {d : Nat} {i0 i1 : Nat} {x2 x3 : Int} {u4 : MV} {I L : Nat → Nat → Nat → Int} {t : Nat → Nat} : Res d 131 51 [vr 11 i0, vr 4 i1, vi x2, vi x3, u4] [] (mk I L t) = some (vi x2, (mk I L t)) :=
  Eq.trans (e_iload_n D131_51 rfl rfl) <| e_iret D131_52 rfl
/-! x_nearestInNest -/
theorem cc_132 : cod 132 = cX11_nearestInNest := rfl
theorem D132_0 : decode (cod 132) 0 = .ok (.iconst (-1), 1) := by rw [cc_132]; decide +kernel
theorem D132_1 : decode (cod 132) 1 = .ok (.istore 4, 2) := by rw [cc_132]; decide +kernel
theorem D132_3 : decode (cod 132) 3 = .ok (.iconst 0, 1) := by rw [cc_132]; decide +kernel
theorem D132_4 : decode (cod 132) 4 = .ok (.istore 5, 2) := by rw [cc_132]; decide +kernel
theorem D132_6 : decode (cod 132) 6 = .ok (.iconst 0, 1) := by rw [cc_132]; decide +kernel
theorem D132_7 : decode (cod 132) 7 = .ok (.istore 6, 2) := by rw [cc_132]; decide +kernel
theorem D132_9 : decode (cod 132) 9 = .ok (.iload 6, 2) := by rw [cc_132]; decide +kernel
theorem D132_11 : decode (cod 132) 11 = .ok (.iload_n 2, 1) := by rw [cc_132]; decide +kernel
theorem D132_12 : decode (cod 132) 12 = .ok (.if_icmp .ge 60, 3) := by rw [cc_132]; decide +kernel
theorem D132_15 : decode (cod 132) 15 = .ok (.iload 6, 2) := by rw [cc_132]; decide +kernel
theorem D132_17 : decode (cod 132) 17 = .ok (.bipush 9, 2) := by rw [cc_132]; decide +kernel
theorem D132_19 : decode (cod 132) 19 = .ok (.if_icmp .ge 53, 3) := by rw [cc_132]; decide +kernel
theorem D132_22 : decode (cod 132) 22 = .ok (.iload 6, 2) := by rw [cc_132]; decide +kernel
theorem D132_24 : decode (cod 132) 24 = .ok (.iload_n 3, 1) := by rw [cc_132]; decide +kernel
theorem D132_25 : decode (cod 132) 25 = .ok (.if_icmp .eq 41, 3) := by rw [cc_132]; decide +kernel
theorem D132_28 : decode (cod 132) 28 = .ok (.aload_n 0, 1) := by rw [cc_132]; decide +kernel
theorem D132_29 : decode (cod 132) 29 = .ok (.aload_n 1, 1) := by rw [cc_132]; decide +kernel
theorem D132_30 : decode (cod 132) 30 = .ok (.aload_n 0, 1) := by rw [cc_132]; decide +kernel
theorem D132_31 : decode (cod 132) 31 = .ok (.getfield 61, 3) := by rw [cc_132]; decide +kernel
theorem D132_34 : decode (cod 132) 34 = .ok (.getfield 297, 3) := by rw [cc_132]; decide +kernel
theorem D132_37 : decode (cod 132) 37 = .ok (.iload 6, 2) := by rw [cc_132]; decide +kernel
theorem D132_39 : decode (cod 132) 39 = .ok (.aaload, 1) := by rw [cc_132]; decide +kernel
theorem D132_40 : decode (cod 132) 40 = .ok (.invokevirtual 172, 3) := by rw [cc_132]; decide +kernel
theorem D132_43 : decode (cod 132) 43 = .ok (.istore 7, 2) := by rw [cc_132]; decide +kernel
theorem D132_45 : decode (cod 132) 45 = .ok (.iload 4, 2) := by rw [cc_132]; decide +kernel
theorem D132_47 : decode (cod 132) 47 = .ok (.iconst (-1), 1) := by rw [cc_132]; decide +kernel
theorem D132_48 : decode (cod 132) 48 = .ok (.if_icmp .eq 10, 3) := by rw [cc_132]; decide +kernel
theorem D132_51 : decode (cod 132) 51 = .ok (.iload 7, 2) := by rw [cc_132]; decide +kernel
theorem D132_53 : decode (cod 132) 53 = .ok (.iload 5, 2) := by rw [cc_132]; decide +kernel
theorem D132_55 : decode (cod 132) 55 = .ok (.if_icmp .ge 11, 3) := by rw [cc_132]; decide +kernel
theorem D132_58 : decode (cod 132) 58 = .ok (.iload 6, 2) := by rw [cc_132]; decide +kernel
theorem D132_60 : decode (cod 132) 60 = .ok (.istore 4, 2) := by rw [cc_132]; decide +kernel
theorem D132_62 : decode (cod 132) 62 = .ok (.iload 7, 2) := by rw [cc_132]; decide +kernel
theorem D132_64 : decode (cod 132) 64 = .ok (.istore 5, 2) := by rw [cc_132]; decide +kernel
theorem D132_66 : decode (cod 132) 66 = .ok (.iinc 6 1, 3) := by rw [cc_132]; decide +kernel
theorem D132_69 : decode (cod 132) 69 = .ok (.goto (-60), 3) := by rw [cc_132]; decide +kernel
theorem D132_72 : decode (cod 132) 72 = .ok (.iload 4, 2) := by rw [cc_132]; decide +kernel
theorem D132_74 : decode (cod 132) 74 = .ok (.iconst (-1), 1) := by rw [cc_132]; decide +kernel
theorem D132_75 : decode (cod 132) 75 = .ok (.if_icmp .ne 11, 3) := by rw [cc_132]; decide +kernel
theorem D132_78 : decode (cod 132) 78 = .ok (.iconst 0, 1) := by rw [cc_132]; decide +kernel
theorem D132_79 : decode (cod 132) 79 = .ok (.iload_n 3, 1) := by rw [cc_132]; decide +kernel
theorem D132_80 : decode (cod 132) 80 = .ok (.invokestatic 318, 3) := by rw [cc_132]; decide +kernel
theorem D132_83 : decode (cod 132) 83 = .ok (.goto 5, 3) := by rw [cc_132]; decide +kernel
theorem D132_86 : decode (cod 132) 86 = .ok (.iload 4, 2) := by rw [cc_132]; decide +kernel
theorem D132_88 : decode (cod 132) 88 = .ok (.ireturn, 1) := by rw [cc_132]; decide +kernel
theorem b132_0 {d : Nat} {i0 i1 : Nat} {x2 x3 : Int} {I L : Nat → Nat → Nat → Int} {t : Nat → Nat} : Res d 132 0 [vr 11 i0, vr 3 i1, vi x2, vi x3, vx, vx, vx, vx] [] (mk I L t) = Res d 132 9 [vr 11 i0, vr 3 i1, vi x2, vi x3, vi (-1), vi 0, vi 0, vx] [] (mk I L t) :=
  Eq.trans (e_iconst (x := -1) D132_0 rfl rfl) <| Eq.trans (e_istore (ls1 := [vr 11 i0, vr 3 i1, vi x2, vi x3, vi (-1), vx, vx, vx]) D132_1 rfl (show 4 < 8 by decide) rfl) <| Eq.trans (e_iconst (x := 0) D132_3 rfl rfl) <| Eq.trans (e_istore (ls1 := [vr 11 i0, vr 3 i1, vi x2, vi x3, vi (-1), vi 0, vx, vx]) D132_4 rfl (show 5 < 8 by decide) rfl) <| Eq.trans (e_iconst (x := 0) D132_6 rfl rfl) <| e_istore (ls1 := [vr 11 i0, vr 3 i1, vi x2, vi x3, vi (-1), vi 0, vi 0, vx]) D132_7 rfl (show 6 < 8 by decide) rfl
theorem b132_9 {d : Nat} {i0 i1 : Nat} {x2 x3 x4 x5 x6 : Int} {u7 : MV} {I L : Nat → Nat → Nat → Int} {t : Nat → Nat} : Res d 132 9 [vr 11 i0, vr 3 i1, vi x2, vi x3, vi x4, vi x5, vi x6, u7] [] (mk I L t) = if x2 ≤ x6 then Res d 132 72 [vr 11 i0, vr 3 i1, vi x2, vi x3, vi x4, vi x5, vi x6, u7] [] (mk I L t) else Res d 132 15 [vr 11 i0, vr 3 i1, vi x2, vi x3, vi x4, vi x5, vi x6, u7] [] (mk I L t) :=
  Eq.trans (e_iload D132_9 rfl rfl) <| Eq.trans (e_iload_n D132_11 rfl rfl) <| e_icge D132_12 rfl rfl
theorem b132_15 {d : Nat} {i0 i1 : Nat} {x2 x3 x4 x5 x6 : Int} {u7 : MV} {I L : Nat → Nat → Nat → Int} {t : Nat → Nat} : Res d 132 15 [vr 11 i0, vr 3 i1, vi x2, vi x3, vi x4, vi x5, vi x6, u7] [] (mk I L t) = if 9 ≤ x6 then Res d 132 72 [vr 11 i0, vr 3 i1, vi x2, vi x3, vi x4, vi x5, vi x6, u7] [] (mk I L t) else Res d 132 22 [vr 11 i0, vr 3 i1, vi x2, vi x3, vi x4, vi x5, vi x6, u7] [] (mk I L t) :=
  Eq.trans (e_iload D132_15 rfl rfl) <| Eq.trans (e_bipush (x := 9) D132_17 rfl rfl) <| e_icge D132_19 rfl rfl
theorem b132_22 {d : Nat} {i0 i1 : Nat} {x2 x3 x4 x5 x6 : Int} {u7 : MV} {I L : Nat → Nat → Nat → Int} {t : Nat → Nat} : Res d 132 22 [vr 11 i0, vr 3 i1, vi x2, vi x3, vi x4, vi x5, vi x6, u7] [] (mk I L t) = if x6 = x3 then Res d 132 66 [vr 11 i0, vr 3 i1, vi x2, vi x3, vi x4, vi x5, vi x6, u7] [] (mk I L t) else Res d 132 28 [vr 11 i0, vr 3 i1, vi x2, vi x3, vi x4, vi x5, vi x6, u7] [] (mk I L t) :=
  Eq.trans (e_iload D132_22 rfl rfl) <| Eq.trans (e_iload_n D132_24 rfl rfl) <| e_iceq D132_25 rfl rfl
theorem b132_28 {d : Nat} {i0 i1 : Nat} {x2 x3 x4 x5 x6 : Int} {u7 : MV} {I L : Nat → Nat → Nat → Int} {t : Nat → Nat} (g1 : 0 ≤ x6 ∧ x6 < 9) : Res (d + 1) 132 28 [vr 11 i0, vr 3 i1, vi x2, vi x3, vi x4, vi x5, vi x6, u7] [] (mk I L t) = (Cal d 115 [vr 11 i0, vr 3 i1, vr 1 (120 + x6.toNat)] (mk I L t)).bind fun v => Res (d + 1) 132 43 [vr 11 i0, vr 3 i1, vi x2, vi x3, vi x4, vi x5, vi x6, u7] (psh 115 v.1 []) v.2 :=
  Eq.trans (e_aload_n D132_28 rfl rfl) <| Eq.trans (e_aload_n D132_29 rfl rfl) <| Eq.trans (e_aload_n D132_30 rfl rfl) <| Eq.trans (e_getP (p := (0, 0)) D132_31 rfl o_132 f_11_61 (sh_11 _) (by decide) (pp_11_9 _ _)) <| Eq.trans (e_getP (p := (21, 0)) D132_34 rfl o_132 f_11_297 (sh_0 _) (by decide) (pp_0_9 _ _)) <| Eq.trans (e_iload D132_37 rfl rfl) <| Eq.trans (e_aald (p := (1, 120 + x6.toNat)) D132_39 rfl (ae_21 _) (aq_21 _) (pa_21 _ _ _) g1) <| e_callV D132_40 rfl o_132 m_11_172 (by decide) rfl rfl
theorem b132_43 {d : Nat} {i0 i1 : Nat} {x2 x3 x4 x5 x6 xs0 : Int} {u7 : MV} {I L : Nat → Nat → Nat → Int} {t : Nat → Nat} : Res d 132 43 [vr 11 i0, vr 3 i1, vi x2, vi x3, vi x4, vi x5, vi x6, u7] [vi xs0] (mk I L t) = if x4 = -1 then Res d 132 58 [vr 11 i0, vr 3 i1, vi x2, vi x3, vi x4, vi x5, vi x6, vi xs0] [] (mk I L t) else Res d 132 51 [vr 11 i0, vr 3 i1, vi x2, vi x3, vi x4, vi x5, vi x6, vi xs0] [] (mk I L t) :=
  Eq.trans (e_istore (ls1 := [vr 11 i0, vr 3 i1, vi x2, vi x3, vi x4, vi x5, vi x6, vi xs0]) D132_43 rfl (show 7 < 8 by decide) rfl) <| Eq.trans (e_iload D132_45 rfl rfl) <| Eq.trans (e_iconst (x := -1) D132_47 rfl rfl) <| e_iceq D132_48 rfl rfl
theorem b132_51 {d : Nat} {i0 i1 : Nat} {x2 x3 x4 x5 x6 x7 : Int} {I L : Nat → Nat → Nat → Int} {t : Nat → Nat} : Res d 132 51 [vr 11 i0, vr 3 i1, vi x2, vi x3, vi x4, vi x5, vi x6, vi x7] [] (mk I L t) = if x5 ≤ x7 then Res d 132 66 [vr 11 i0, vr 3 i1, vi x2, vi x3, vi x4, vi x5, vi x6, vi x7] [] (mk I L t) else Res d 132 58 [vr 11 i0, vr 3 i1, vi x2, vi x3, vi x4, vi x5, vi x6, vi x7] [] (mk I L t) :=
  Eq.trans (e_iload D132_51 rfl rfl) <| Eq.trans (e_iload D132_53 rfl rfl) <| e_icge D132_55 rfl rfl
theorem b132_58 {d : Nat} {i0 i1 : Nat} {x2 x3 x4 x5 x6 x7 : Int} {I L : Nat → Nat → Nat → Int} {t : Nat → Nat} : Res d 132 58 [vr 11 i0, vr 3 i1, vi x2, vi x3, vi x4, vi x5, vi x6, vi x7] [] (mk I L t) = Res d 132 66 [vr 11 i0, vr 3 i1, vi x2, vi x3, vi x6, vi x7, vi x6, vi x7] [] (mk I L t) :=
  Eq.trans (e_iload D132_58 rfl rfl) <| Eq.trans (e_istore (ls1 := [vr 11 i0, vr 3 i1, vi x2, vi x3, vi x6, vi x5, vi x6, vi x7]) D132_60 rfl (show 4 < 8 by decide) rfl) <| Eq.trans (e_iload D132_62 rfl rfl) <| e_istore (ls1 := [vr 11 i0, vr 3 i1, vi x2, vi x3, vi x6, vi x7, vi x6, vi x7]) D132_64 rfl (show 5 < 8 by decide) rfl
theorem b132_66 {d : Nat} {i0 i1 : Nat} {x2 x3 x4 x5 x6 : Int} {u7 : MV} {I L : Nat → Nat → Nat → Int} {t : Nat → Nat} : Res d 132 66 [vr 11 i0, vr 3 i1, vi x2, vi x3, vi x4, vi x5, vi x6, u7] [] (mk I L t) = Res d 132 9 [vr 11 i0, vr 3 i1, vi x2, vi x3, vi x4, vi x5, vi (w32 (x6 + 1)), u7] [] (mk I L t) :=
  Eq.trans (e_iinc (ls1 := [vr 11 i0, vr 3 i1, vi x2, vi x3, vi x4, vi x5, vi (w32 (x6 + 1)), u7]) D132_66 rfl rfl rfl) <| e_goto (q1 := 9) D132_69 rfl
theorem b132_72 {d : Nat} {i0 i1 : Nat} {x2 x3 x4 x5 x6 : Int} {u7 : MV} {I L : Nat → Nat → Nat → Int} {t : Nat → Nat} : Res d 132 72 [vr 11 i0, vr 3 i1, vi x2, vi x3, vi x4, vi x5, vi x6, u7] [] (mk I L t) = if ¬ x4 = -1 then Res d 132 86 [vr 11 i0, vr 3 i1, vi x2, vi x3, vi x4, vi x5, vi x6, u7] [] (mk I L t) else Res d 132 78 [vr 11 i0, vr 3 i1, vi x2, vi x3, vi x4, vi x5, vi x6, u7] [] (mk I L t) :=
  Eq.trans (e_iload D132_72 rfl rfl) <| Eq.trans (e_iconst (x := -1) D132_74 rfl rfl) <| e_icne D132_75 rfl rfl
theorem b132_78 {d : Nat} {i0 i1 : Nat} {x2 x3 x4 x5 x6 : Int} {u7 : MV} {I L : Nat → Nat → Nat → Int} {t : Nat → Nat} : Res (d + 1) 132 78 [vr 11 i0, vr 3 i1, vi x2, vi x3, vi x4, vi x5, vi x6, u7] [] (mk I L t) = Res (d + 1) 132 88 [vr 11 i0, vr 3 i1, vi x2, vi x3, vi x4, vi x5, vi x6, u7] [vi ((if 0 < x3 then x3 else 0))] (mk I L t) :=
  Eq.trans (e_iconst (x := 0) D132_78 rfl rfl) <| Eq.trans (e_iload_n D132_79 rfl rfl) <| Eq.trans (e_max (by omega) D132_80 rfl o_132 m_11_318 (by simp [cw])) <| e_goto (q1 := 88) D132_83 rfl
theorem b132_86 {d : Nat} {i0 i1 : Nat} {x2 x3 x4 x5 x6 : Int} {u7 : MV} {I L : Nat → Nat → Nat → Int} {t : Nat → Nat} : Res d 132 86 [vr 11 i0, vr 3 i1, vi x2, vi x3, vi x4, vi x5, vi x6, u7] [] (mk I L t) = Res d 132 88 [vr 11 i0, vr 3 i1, vi x2, vi x3, vi x4, vi x5, vi x6, u7] [vi x4] (mk I L t) :=
  e_iload D132_86 rfl rfl
theorem b132_88 {d : Nat} {i0 i1 : Nat} {x2 x3 x4 x5 x6 xs0 : Int} {u7 : MV} {I L : Nat → Nat → Nat → Int} {t : Nat → Nat} : Res d 132 88 [vr 11 i0, vr 3 i1, vi x2, vi x3, vi x4, vi x5, vi x6, u7] [vi xs0] (mk I L t) = some (vi xs0, (mk I L t)) :=
  e_iret D132_88 rfl
/-! x_tryOut -/
theorem cc_133 : cod 133 = cX11_tryOut := rfl
theorem D133_0 : decode (cod 133) 0 = .ok (.aload_n 0, 1) := by rw [cc_133]; decide +kernel
theorem D133_1 : decode (cod 133) 1 = .ok (.getfield 61, 3) := by rw [cc_133]; decide +kernel
theorem D133_4 : decode (cod 133) 4 = .ok (.getfield 472, 3) := by rw [cc_133]; decide +kernel
theorem D133_7 : decode (cod 133) 7 = .ok (.astore_n 3, 1) := by rw [cc_133]; decide +kernel
theorem D133_8 : decode (cod 133) 8 = .ok (.aload_n 3, 1) := by rw [cc_133]; decide +kernel
theorem D133_9 : decode (cod 133) 9 = .ok (.aload_n 1, 1) := by rw [cc_133]; decide +kernel
theorem D133_10 : decode (cod 133) 10 = .ok (.getfield 338, 3) := by rw [cc_133]; decide +kernel
theorem D133_13 : decode (cod 133) 13 = .ok (.invokevirtual 473, 3) := by rw [cc_133]; decide +kernel
theorem D133_16 : decode (cod 133) 16 = .ok (.aload_n 3, 1) := by rw [cc_133]; decide +kernel
theorem D133_17 : decode (cod 133) 17 = .ok (.iconst 0, 1) := by rw [cc_133]; decide +kernel
theorem D133_18 : decode (cod 133) 18 = .ok (.putfield 250, 3) := by rw [cc_133]; decide +kernel
theorem D133_21 : decode (cod 133) 21 = .ok (.aload_n 0, 1) := by rw [cc_133]; decide +kernel
theorem D133_22 : decode (cod 133) 22 = .ok (.aload_n 3, 1) := by rw [cc_133]; decide +kernel
theorem D133_23 : decode (cod 133) 23 = .ok (.aload_n 0, 1) := by rw [cc_133]; decide +kernel
theorem D133_24 : decode (cod 133) 24 = .ok (.aload_n 3, 1) := by rw [cc_133]; decide +kernel
theorem D133_25 : decode (cod 133) 25 = .ok (.invokevirtual 158, 3) := by rw [cc_133]; decide +kernel
theorem D133_28 : decode (cod 133) 28 = .ok (.invokevirtual 162, 3) := by rw [cc_133]; decide +kernel
theorem D133_31 : decode (cod 133) 31 = .ok (.aload_n 2, 1) := by rw [cc_133]; decide +kernel
theorem D133_32 : decode (cod 133) 32 = .ok (.getfield 476, 3) := by rw [cc_133]; decide +kernel
theorem D133_35 : decode (cod 133) 35 = .ok (.iconst (-1), 1) := by rw [cc_133]; decide +kernel
theorem D133_36 : decode (cod 133) 36 = .ok (.if_icmp .eq 49, 3) := by rw [cc_133]; decide +kernel
theorem D133_39 : decode (cod 133) 39 = .ok (.aload_n 0, 1) := by rw [cc_133]; decide +kernel
theorem D133_40 : decode (cod 133) 40 = .ok (.getfield 22, 3) := by rw [cc_133]; decide +kernel
theorem D133_43 : decode (cod 133) 43 = .ok (.aload_n 2, 1) := by rw [cc_133]; decide +kernel
theorem D133_44 : decode (cod 133) 44 = .ok (.getfield 476, 3) := by rw [cc_133]; decide +kernel
theorem D133_47 : decode (cod 133) 47 = .ok (.aaload, 1) := by rw [cc_133]; decide +kernel
theorem D133_48 : decode (cod 133) 48 = .ok (.invokevirtual 258, 3) := by rw [cc_133]; decide +kernel
theorem D133_51 : decode (cod 133) 51 = .ok (.ifCond .le 34, 3) := by rw [cc_133]; decide +kernel
theorem D133_54 : decode (cod 133) 54 = .ok (.aload_n 0, 1) := by rw [cc_133]; decide +kernel
theorem D133_55 : decode (cod 133) 55 = .ok (.aload_n 3, 1) := by rw [cc_133]; decide +kernel
theorem D133_56 : decode (cod 133) 56 = .ok (.aload_n 0, 1) := by rw [cc_133]; decide +kernel
theorem D133_57 : decode (cod 133) 57 = .ok (.getfield 22, 3) := by rw [cc_133]; decide +kernel
theorem D133_60 : decode (cod 133) 60 = .ok (.aload_n 2, 1) := by rw [cc_133]; decide +kernel
theorem D133_61 : decode (cod 133) 61 = .ok (.getfield 476, 3) := by rw [cc_133]; decide +kernel
theorem D133_64 : decode (cod 133) 64 = .ok (.aaload, 1) := by rw [cc_133]; decide +kernel
theorem D133_65 : decode (cod 133) 65 = .ok (.invokevirtual 262, 3) := by rw [cc_133]; decide +kernel
theorem D133_68 : decode (cod 133) 68 = .ok (.aload_n 3, 1) := by rw [cc_133]; decide +kernel
theorem D133_69 : decode (cod 133) 69 = .ok (.aload_n 0, 1) := by rw [cc_133]; decide +kernel
theorem D133_70 : decode (cod 133) 70 = .ok (.getfield 61, 3) := by rw [cc_133]; decide +kernel
theorem D133_73 : decode (cod 133) 73 = .ok (.getfield 269, 3) := by rw [cc_133]; decide +kernel
theorem D133_76 : decode (cod 133) 76 = .ok (.aload_n 0, 1) := by rw [cc_133]; decide +kernel
theorem D133_77 : decode (cod 133) 77 = .ok (.aload_n 3, 1) := by rw [cc_133]; decide +kernel
theorem D133_78 : decode (cod 133) 78 = .ok (.iconst 3, 1) := by rw [cc_133]; decide +kernel
theorem D133_79 : decode (cod 133) 79 = .ok (.invokevirtual 272, 3) := by rw [cc_133]; decide +kernel
theorem D133_82 : decode (cod 133) 82 = .ok (.invokevirtual 276, 3) := by rw [cc_133]; decide +kernel
theorem D133_85 : decode (cod 133) 85 = .ok (.aload_n 0, 1) := by rw [cc_133]; decide +kernel
theorem D133_86 : decode (cod 133) 86 = .ok (.aload_n 3, 1) := by rw [cc_133]; decide +kernel
theorem D133_87 : decode (cod 133) 87 = .ok (.aload_n 1, 1) := by rw [cc_133]; decide +kernel
theorem D133_88 : decode (cod 133) 88 = .ok (.getfield 342, 3) := by rw [cc_133]; decide +kernel
theorem D133_91 : decode (cod 133) 91 = .ok (.invokevirtual 143, 3) := by rw [cc_133]; decide +kernel
theorem D133_94 : decode (cod 133) 94 = .ok (.aload_n 2, 1) := by rw [cc_133]; decide +kernel
theorem D133_95 : decode (cod 133) 95 = .ok (.getfield 481, 3) := by rw [cc_133]; decide +kernel
theorem D133_98 : decode (cod 133) 98 = .ok (.iconst (-1), 1) := by rw [cc_133]; decide +kernel
theorem D133_99 : decode (cod 133) 99 = .ok (.if_icmp .ne 7, 3) := by rw [cc_133]; decide +kernel
theorem D133_102 : decode (cod 133) 102 = .ok (.iconst (-1), 1) := by rw [cc_133]; decide +kernel
theorem D133_103 : decode (cod 133) 103 = .ok (.goto 7, 3) := by rw [cc_133]; decide +kernel
theorem D133_106 : decode (cod 133) 106 = .ok (.aload_n 1, 1) := by rw [cc_133]; decide +kernel
theorem D133_107 : decode (cod 133) 107 = .ok (.getfield 346, 3) := by rw [cc_133]; decide +kernel
theorem D133_110 : decode (cod 133) 110 = .ok (.istore 4, 2) := by rw [cc_133]; decide +kernel
theorem D133_112 : decode (cod 133) 112 = .ok (.aload_n 0, 1) := by rw [cc_133]; decide +kernel
theorem D133_113 : decode (cod 133) 113 = .ok (.aload_n 3, 1) := by rw [cc_133]; decide +kernel
theorem D133_114 : decode (cod 133) 114 = .ok (.aload_n 1, 1) := by rw [cc_133]; decide +kernel
theorem D133_115 : decode (cod 133) 115 = .ok (.getfield 345, 3) := by rw [cc_133]; decide +kernel
theorem D133_118 : decode (cod 133) 118 = .ok (.aload_n 2, 1) := by rw [cc_133]; decide +kernel
theorem D133_119 : decode (cod 133) 119 = .ok (.getfield 482, 3) := by rw [cc_133]; decide +kernel
theorem D133_122 : decode (cod 133) 122 = .ok (.ifCond .eq 7, 3) := by rw [cc_133]; decide +kernel
theorem D133_125 : decode (cod 133) 125 = .ok (.iconst 1, 1) := by rw [cc_133]; decide +kernel
theorem D133_126 : decode (cod 133) 126 = .ok (.goto 4, 3) := by rw [cc_133]; decide +kernel
theorem D133_129 : decode (cod 133) 129 = .ok (.iconst 0, 1) := by rw [cc_133]; decide +kernel
theorem D133_130 : decode (cod 133) 130 = .ok (.iload 4, 2) := by rw [cc_133]; decide +kernel
theorem D133_132 : decode (cod 133) 132 = .ok (.iconst 0, 1) := by rw [cc_133]; decide +kernel
theorem D133_133 : decode (cod 133) 133 = .ok (.aload_n 2, 1) := by rw [cc_133]; decide +kernel
theorem D133_134 : decode (cod 133) 134 = .ok (.getfield 481, 3) := by rw [cc_133]; decide +kernel
theorem D133_137 : decode (cod 133) 137 = .ok (.invokestatic 318, 3) := by rw [cc_133]; decide +kernel
theorem D133_140 : decode (cod 133) 140 = .ok (.invokevirtual 183, 3) := by rw [cc_133]; decide +kernel
theorem D133_143 : decode (cod 133) 143 = .ok (.return_, 1) := by rw [cc_133]; decide +kernel
theorem b133_0 {d : Nat} {i0 i1 i2 : Nat} {I L : Nat → Nat → Nat → Int} {t : Nat → Nat} : Res (d + 1) 133 0 [vr 11 i0, vr 10 i1, vr 9 i2, vx, vx] [] (mk I L t) = (Cal d 22 [vr 3 60, vr 3 (20 + i1)] (mk I L t)).bind fun v => Res (d + 1) 133 16 [vr 11 i0, vr 10 i1, vr 9 i2, vr 3 60, vx] (psh 22 v.1 []) v.2 :=
  Eq.trans (e_aload_n D133_0 rfl rfl) <| Eq.trans (e_getP (p := (0, 0)) D133_1 rfl o_133 f_11_61 (sh_11 _) (by decide) (pp_11_9 _ _)) <| Eq.trans (e_getP (p := (3, 60)) D133_4 rfl o_133 f_11_472 (sh_0 _) (by decide) (pp_0_8 _ _)) <| Eq.trans (e_astore_n (ls1 := [vr 11 i0, vr 10 i1, vr 9 i2, vr 3 60, vx]) D133_7 rfl (show 3 < 5 by decide) rfl) <| Eq.trans (e_aload_n D133_8 rfl rfl) <| Eq.trans (e_aload_n D133_9 rfl rfl) <| Eq.trans (e_getP (p := (3, 20 + i1)) D133_10 rfl o_133 f_11_338 (sh_10 _) (by decide) (pp_10_0 _ _)) <| e_callV D133_13 rfl o_133 m_11_473 (by decide) rfl rfl
theorem b133_16 {d : Nat} {i0 i1 i2 i3 : Nat} {I L : Nat → Nat → Nat → Int} {t : Nat → Nat} : Res (d + 1) 133 16 [vr 11 i0, vr 10 i1, vr 9 i2, vr 3 i3, vx] [] (mk I L t) = (Cal d 118 [vr 11 i0, vr 3 i3] (mk (up3 I 3 i3 8 0) L t)).bind fun v => Res (d + 1) 133 28 [vr 11 i0, vr 10 i1, vr 9 i2, vr 3 i3, vx] (psh 118 v.1 [vr 3 i3, vr 11 i0]) v.2 :=
  Eq.trans (e_aload_n D133_16 rfl rfl) <| Eq.trans (e_iconst (x := 0) D133_17 rfl rfl) <| Eq.trans (e_putI D133_18 rfl o_133 f_11_250 (sh_3 _) rfl (by decide) (Or.inl (by decide))) <| Eq.trans (e_aload_n D133_21 rfl rfl) <| Eq.trans (e_aload_n D133_22 rfl rfl) <| Eq.trans (e_aload_n D133_23 rfl rfl) <| Eq.trans (e_aload_n D133_24 rfl rfl) <| e_callV D133_25 rfl o_133 m_11_158 (by decide) rfl rfl
theorem b133_28 {d : Nat} {i0 i1 i2 i3 is2 rs2 is1 is0 : Nat} {I L : Nat → Nat → Nat → Int} {t : Nat → Nat} : Res (d + 1) 133 28 [vr 11 i0, vr 10 i1, vr 9 i2, vr 3 i3, vx] [vr rs2 is2, vr 3 is1, vr 11 is0] (mk I L t) = (Cal d 119 [vr 11 is0, vr 3 is1, vr rs2 is2] (mk I L t)).bind fun v => Res (d + 1) 133 31 [vr 11 i0, vr 10 i1, vr 9 i2, vr 3 i3, vx] (psh 119 v.1 []) v.2 :=
  e_callV D133_28 rfl o_133 m_11_162 (by decide) rfl rfl
theorem b133_31 {d : Nat} {i0 i1 i2 i3 : Nat} {I L : Nat → Nat → Nat → Int} {t : Nat → Nat} : Res d 133 31 [vr 11 i0, vr 10 i1, vr 9 i2, vr 3 i3, vx] [] (mk I L t) = if I 9 i2 3 = -1 then Res d 133 85 [vr 11 i0, vr 10 i1, vr 9 i2, vr 3 i3, vx] [] (mk I L t) else Res d 133 39 [vr 11 i0, vr 10 i1, vr 9 i2, vr 3 i3, vx] [] (mk I L t) :=
  Eq.trans (e_aload_n D133_31 rfl rfl) <| Eq.trans (e_getI D133_32 rfl o_133 f_11_476 (sh_9 _) (by decide)) <| Eq.trans (e_iconst (x := -1) D133_35 rfl rfl) <| e_iceq D133_36 rfl rfl
theorem b133_39 {d : Nat} {i0 i1 i2 i3 : Nat} {I L : Nat → Nat → Nat → Int} {t : Nat → Nat} (g1 : 0 ≤ I 9 i2 3 ∧ I 9 i2 3 < 6) : Res (d + 1) 133 39 [vr 11 i0, vr 10 i1, vr 9 i2, vr 3 i3, vx] [] (mk I L t) = (Cal d 27 [vr 4 ((I 9 i2 3).toNat)] (mk I L t)).bind fun v => Res (d + 1) 133 51 [vr 11 i0, vr 10 i1, vr 9 i2, vr 3 i3, vx] (psh 27 v.1 []) v.2 :=
  Eq.trans (e_aload_n D133_39 rfl rfl) <| Eq.trans (e_getP (p := (42, i0)) D133_40 rfl o_133 f_11_22 (sh_11 _) (by decide) (pp_11_2 _ _)) <| Eq.trans (e_aload_n D133_43 rfl rfl) <| Eq.trans (e_getI D133_44 rfl o_133 f_11_476 (sh_9 _) (by decide)) <| Eq.trans (e_aald (p := (4, (I 9 i2 3).toNat)) D133_47 rfl (ae_42 _) (aq_42 _) (pa_42 _ _ _) g1) <| e_callV D133_48 rfl o_133 m_11_258 (by decide) rfl rfl
theorem b133_51 {d : Nat} {i0 i1 i2 i3 : Nat} {xs0 : Int} {I L : Nat → Nat → Nat → Int} {t : Nat → Nat} : Res d 133 51 [vr 11 i0, vr 10 i1, vr 9 i2, vr 3 i3, vx] [vi xs0] (mk I L t) = if xs0 ≤ 0 then Res d 133 85 [vr 11 i0, vr 10 i1, vr 9 i2, vr 3 i3, vx] [] (mk I L t) else Res d 133 54 [vr 11 i0, vr 10 i1, vr 9 i2, vr 3 i3, vx] [] (mk I L t) :=
  e_ifle D133_51 rfl rfl
theorem b133_54 {d : Nat} {i0 i1 i2 i3 : Nat} {I L : Nat → Nat → Nat → Int} {t : Nat → Nat} (g1 : 0 ≤ I 9 i2 3 ∧ I 9 i2 3 < 6) : Res (d + 1) 133 54 [vr 11 i0, vr 10 i1, vr 9 i2, vr 3 i3, vx] [] (mk I L t) = (Cal d 122 [vr 11 i0, vr 3 i3, vr 4 ((I 9 i2 3).toNat)] (mk I L t)).bind fun v => Res (d + 1) 133 68 [vr 11 i0, vr 10 i1, vr 9 i2, vr 3 i3, vx] (psh 122 v.1 []) v.2 :=
  Eq.trans (e_aload_n D133_54 rfl rfl) <| Eq.trans (e_aload_n D133_55 rfl rfl) <| Eq.trans (e_aload_n D133_56 rfl rfl) <| Eq.trans (e_getP (p := (42, i0)) D133_57 rfl o_133 f_11_22 (sh_11 _) (by decide) (pp_11_2 _ _)) <| Eq.trans (e_aload_n D133_60 rfl rfl) <| Eq.trans (e_getI D133_61 rfl o_133 f_11_476 (sh_9 _) (by decide)) <| Eq.trans (e_aald (p := (4, (I 9 i2 3).toNat)) D133_64 rfl (ae_42 _) (aq_42 _) (pa_42 _ _ _) g1) <| e_callV D133_65 rfl o_133 m_11_262 (by decide) rfl rfl
theorem b133_68 {d : Nat} {i0 i1 i2 i3 : Nat} {I L : Nat → Nat → Nat → Int} {t : Nat → Nat} : Res (d + 1) 133 68 [vr 11 i0, vr 10 i1, vr 9 i2, vr 3 i3, vx] [] (mk I L t) = (Cal d 114 [vr 11 i0, vr 3 i3, vi 3] (mk I L t)).bind fun v => Res (d + 1) 133 82 [vr 11 i0, vr 10 i1, vr 9 i2, vr 3 i3, vx] (psh 114 v.1 [vr 16 0, vr 3 i3]) v.2 :=
  Eq.trans (e_aload_n D133_68 rfl rfl) <| Eq.trans (e_aload_n D133_69 rfl rfl) <| Eq.trans (e_getP (p := (0, 0)) D133_70 rfl o_133 f_11_61 (sh_11 _) (by decide) (pp_11_9 _ _)) <| Eq.trans (e_getP (p := (16, 0)) D133_73 rfl o_133 f_11_269 (sh_0 _) (by decide) (pp_0_3 _ _)) <| Eq.trans (e_aload_n D133_76 rfl rfl) <| Eq.trans (e_aload_n D133_77 rfl rfl) <| Eq.trans (e_iconst (x := 3) D133_78 rfl rfl) <| e_callV D133_79 rfl o_133 m_11_272 (by decide) rfl rfl
theorem b133_82 {d : Nat} {i0 i1 i2 i3 is1 is0 : Nat} {xs2 : Int} {I L : Nat → Nat → Nat → Int} {t : Nat → Nat} : Res (d + 1) 133 82 [vr 11 i0, vr 10 i1, vr 9 i2, vr 3 i3, vx] [vi xs2, vr 16 is1, vr 3 is0] (mk I L t) = (Cal d 23 [vr 3 is0, vr 16 is1, vi xs2] (mk I L t)).bind fun v => Res (d + 1) 133 85 [vr 11 i0, vr 10 i1, vr 9 i2, vr 3 i3, vx] (psh 23 v.1 []) v.2 :=
  e_callV D133_82 rfl o_133 m_11_276 (by decide) rfl rfl
theorem b133_85 {d : Nat} {i0 i1 i2 i3 : Nat} {I L : Nat → Nat → Nat → Int} {t : Nat → Nat} : Res (d + 1) 133 85 [vr 11 i0, vr 10 i1, vr 9 i2, vr 3 i3, vx] [] (mk I L t) = (Cal d 120 [vr 11 i0, vr 3 i3, vi (I 10 i1 2)] (mk I L t)).bind fun v => Res (d + 1) 133 94 [vr 11 i0, vr 10 i1, vr 9 i2, vr 3 i3, vx] (psh 120 v.1 []) v.2 :=
  Eq.trans (e_aload_n D133_85 rfl rfl) <| Eq.trans (e_aload_n D133_86 rfl rfl) <| Eq.trans (e_aload_n D133_87 rfl rfl) <| Eq.trans (e_getI D133_88 rfl o_133 f_11_342 (sh_10 _) (by decide)) <| e_callV D133_91 rfl o_133 m_11_143 (by decide) rfl rfl
theorem b133_94 {d : Nat} {i0 i1 i2 i3 : Nat} {I L : Nat → Nat → Nat → Int} {t : Nat → Nat} : Res d 133 94 [vr 11 i0, vr 10 i1, vr 9 i2, vr 3 i3, vx] [] (mk I L t) = if ¬ I 9 i2 2 = -1 then Res d 133 106 [vr 11 i0, vr 10 i1, vr 9 i2, vr 3 i3, vx] [] (mk I L t) else Res d 133 102 [vr 11 i0, vr 10 i1, vr 9 i2, vr 3 i3, vx] [] (mk I L t) :=
  Eq.trans (e_aload_n D133_94 rfl rfl) <| Eq.trans (e_getI D133_95 rfl o_133 f_11_481 (sh_9 _) (by decide)) <| Eq.trans (e_iconst (x := -1) D133_98 rfl rfl) <| e_icne D133_99 rfl rfl
theorem b133_102 {d : Nat} {i0 i1 i2 i3 : Nat} {I L : Nat → Nat → Nat → Int} {t : Nat → Nat} : Res d 133 102 [vr 11 i0, vr 10 i1, vr 9 i2, vr 3 i3, vx] [] (mk I L t) = Res d 133 110 [vr 11 i0, vr 10 i1, vr 9 i2, vr 3 i3, vx] [vi (-1)] (mk I L t) :=
  Eq.trans (e_iconst (x := -1) D133_102 rfl rfl) <| e_goto (q1 := 110) D133_103 rfl
theorem b133_106 {d : Nat} {i0 i1 i2 i3 : Nat} {I L : Nat → Nat → Nat → Int} {t : Nat → Nat} : Res d 133 106 [vr 11 i0, vr 10 i1, vr 9 i2, vr 3 i3, vx] [] (mk I L t) = Res d 133 110 [vr 11 i0, vr 10 i1, vr 9 i2, vr 3 i3, vx] [vi (I 10 i1 3)] (mk I L t) :=
  Eq.trans (e_aload_n D133_106 rfl rfl) <| e_getI D133_107 rfl o_133 f_11_346 (sh_10 _) (by decide)
theorem b133_110 {d : Nat} {i0 i1 i2 i3 : Nat} {xs0 : Int} {I L : Nat → Nat → Nat → Int} {t : Nat → Nat} : Res d 133 110 [vr 11 i0, vr 10 i1, vr 9 i2, vr 3 i3, vx] [vi xs0] (mk I L t) = if I 9 i2 0 = 0 then Res d 133 129 [vr 11 i0, vr 10 i1, vr 9 i2, vr 3 i3, vi xs0] [vr 4 (106 + i1), vr 3 i3, vr 11 i0] (mk I L t) else Res d 133 125 [vr 11 i0, vr 10 i1, vr 9 i2, vr 3 i3, vi xs0] [vr 4 (106 + i1), vr 3 i3, vr 11 i0] (mk I L t) :=
  Eq.trans (e_istore (ls1 := [vr 11 i0, vr 10 i1, vr 9 i2, vr 3 i3, vi xs0]) D133_110 rfl (show 4 < 5 by decide) rfl) <| Eq.trans (e_aload_n D133_112 rfl rfl) <| Eq.trans (e_aload_n D133_113 rfl rfl) <| Eq.trans (e_aload_n D133_114 rfl rfl) <| Eq.trans (e_getP (p := (4, 106 + i1)) D133_115 rfl o_133 f_11_345 (sh_10 _) (by decide) (pp_10_1 _ _)) <| Eq.trans (e_aload_n D133_118 rfl rfl) <| Eq.trans (e_getI D133_119 rfl o_133 f_11_482 (sh_9 _) (by decide)) <| e_ifeq D133_122 rfl rfl
theorem b133_125 {d : Nat} {i0 i1 i2 i3 is2 is1 is0 : Nat} {x4 : Int} {I L : Nat → Nat → Nat → Int} {t : Nat → Nat} : Res d 133 125 [vr 11 i0, vr 10 i1, vr 9 i2, vr 3 i3, vi x4] [vr 4 is2, vr 3 is1, vr 11 is0] (mk I L t) = Res d 133 130 [vr 11 i0, vr 10 i1, vr 9 i2, vr 3 i3, vi x4] [vi 1, vr 4 is2, vr 3 is1, vr 11 is0] (mk I L t) :=
  Eq.trans (e_iconst (x := 1) D133_125 rfl rfl) <| e_goto (q1 := 130) D133_126 rfl
theorem b133_129 {d : Nat} {i0 i1 i2 i3 is2 is1 is0 : Nat} {x4 : Int} {I L : Nat → Nat → Nat → Int} {t : Nat → Nat} : Res d 133 129 [vr 11 i0, vr 10 i1, vr 9 i2, vr 3 i3, vi x4] [vr 4 is2, vr 3 is1, vr 11 is0] (mk I L t) = Res d 133 130 [vr 11 i0, vr 10 i1, vr 9 i2, vr 3 i3, vi x4] [vi 0, vr 4 is2, vr 3 is1, vr 11 is0] (mk I L t) :=
  e_iconst (x := 0) D133_129 rfl rfl
theorem b133_130 {d : Nat} {i0 i1 i2 i3 is2 is1 is0 : Nat} {x4 xs3 : Int} {I L : Nat → Nat → Nat → Int} {t : Nat → Nat} : Res (d + 1) 133 130 [vr 11 i0, vr 10 i1, vr 9 i2, vr 3 i3, vi x4] [vi xs3, vr 4 is2, vr 3 is1, vr 11 is0] (mk I L t) = (Cal d 127 [vr 11 is0, vr 3 is1, vr 4 is2, vi xs3, vi x4, vi ((if 0 < I 9 i2 2 then I 9 i2 2 else 0))] (mk I L t)).bind fun v => Res (d + 1) 133 143 [vr 11 i0, vr 10 i1, vr 9 i2, vr 3 i3, vi x4] (psh 127 v.1 []) v.2 :=
  Eq.trans (e_iload D133_130 rfl rfl) <| Eq.trans (e_iconst (x := 0) D133_132 rfl rfl) <| Eq.trans (e_aload_n D133_133 rfl rfl) <| Eq.trans (e_getI D133_134 rfl o_133 f_11_481 (sh_9 _) (by decide)) <| Eq.trans (e_max (by omega) D133_137 rfl o_133 m_11_318 (by simp [cw])) <| e_callV D133_140 rfl o_133 m_11_183 (by decide) rfl rfl
theorem b133_143 {d : Nat} {i0 i1 i2 i3 : Nat} {x4 : Int} {I L : Nat → Nat → Nat → Int} {t : Nat → Nat} : Res d 133 143 [vr 11 i0, vr 10 i1, vr 9 i2, vr 3 i3, vi x4] [] (mk I L t) = some (vx, (mk I L t)) :=
  e_vret D133_143 rfl
/-! x_shareOf -/
theorem cc_134 : cod 134 = cX11_shareOf := rfl
theorem D134_0 : decode (cod 134) 0 = .ok (.iload_n 2, 1) := by rw [cc_134]; decide +kernel
theorem D134_1 : decode (cod 134) 1 = .ok (.iconst 3, 1) := by rw [cc_134]; decide +kernel
theorem D134_2 : decode (cod 134) 2 = .ok (.if_icmp .ne 12, 3) := by rw [cc_134]; decide +kernel
theorem D134_5 : decode (cod 134) 5 = .ok (.aload_n 0, 1) := by rw [cc_134]; decide +kernel
theorem D134_6 : decode (cod 134) 6 = .ok (.getfield 61, 3) := by rw [cc_134]; decide +kernel
theorem D134_9 : decode (cod 134) 9 = .ok (.iconst (-1), 1) := by rw [cc_134]; decide +kernel
theorem D134_10 : decode (cod 134) 10 = .ok (.invokevirtual 187, 3) := by rw [cc_134]; decide +kernel
theorem D134_13 : decode (cod 134) 13 = .ok (.ireturn, 1) := by rw [cc_134]; decide +kernel
theorem D134_14 : decode (cod 134) 14 = .ok (.iconst 0, 1) := by rw [cc_134]; decide +kernel
theorem D134_15 : decode (cod 134) 15 = .ok (.istore_n 3, 1) := by rw [cc_134]; decide +kernel
theorem D134_16 : decode (cod 134) 16 = .ok (.iconst 0, 1) := by rw [cc_134]; decide +kernel
theorem D134_17 : decode (cod 134) 17 = .ok (.istore 4, 2) := by rw [cc_134]; decide +kernel
theorem D134_19 : decode (cod 134) 19 = .ok (.iload 4, 2) := by rw [cc_134]; decide +kernel
theorem D134_21 : decode (cod 134) 21 = .ok (.bipush 9, 2) := by rw [cc_134]; decide +kernel
theorem D134_23 : decode (cod 134) 23 = .ok (.if_icmp .ge 50, 3) := by rw [cc_134]; decide +kernel
theorem D134_26 : decode (cod 134) 26 = .ok (.aload_n 1, 1) := by rw [cc_134]; decide +kernel
theorem D134_27 : decode (cod 134) 27 = .ok (.getfield 345, 3) := by rw [cc_134]; decide +kernel
theorem D134_30 : decode (cod 134) 30 = .ok (.iload 4, 2) := by rw [cc_134]; decide +kernel
theorem D134_32 : decode (cod 134) 32 = .ok (.invokevirtual 247, 3) := by rw [cc_134]; decide +kernel
theorem D134_35 : decode (cod 134) 35 = .ok (.istore 5, 2) := by rw [cc_134]; decide +kernel
theorem D134_37 : decode (cod 134) 37 = .ok (.iload 5, 2) := by rw [cc_134]; decide +kernel
theorem D134_39 : decode (cod 134) 39 = .ok (.iconst (-1), 1) := by rw [cc_134]; decide +kernel
theorem D134_40 : decode (cod 134) 40 = .ok (.if_icmp .eq 27, 3) := by rw [cc_134]; decide +kernel
theorem D134_43 : decode (cod 134) 43 = .ok (.aload_n 1, 1) := by rw [cc_134]; decide +kernel
theorem D134_44 : decode (cod 134) 44 = .ok (.iload 4, 2) := by rw [cc_134]; decide +kernel
theorem D134_46 : decode (cod 134) 46 = .ok (.iload 5, 2) := by rw [cc_134]; decide +kernel
theorem D134_48 : decode (cod 134) 48 = .ok (.invokevirtual 486, 3) := by rw [cc_134]; decide +kernel
theorem D134_51 : decode (cod 134) 51 = .ok (.iload_n 2, 1) := by rw [cc_134]; decide +kernel
theorem D134_52 : decode (cod 134) 52 = .ok (.if_icmp .ne 15, 3) := by rw [cc_134]; decide +kernel
theorem D134_55 : decode (cod 134) 55 = .ok (.iload_n 3, 1) := by rw [cc_134]; decide +kernel
theorem D134_56 : decode (cod 134) 56 = .ok (.aload_n 0, 1) := by rw [cc_134]; decide +kernel
theorem D134_57 : decode (cod 134) 57 = .ok (.getfield 61, 3) := by rw [cc_134]; decide +kernel
theorem D134_60 : decode (cod 134) 60 = .ok (.iload 4, 2) := by rw [cc_134]; decide +kernel
theorem D134_62 : decode (cod 134) 62 = .ok (.invokevirtual 187, 3) := by rw [cc_134]; decide +kernel
theorem D134_65 : decode (cod 134) 65 = .ok (.iadd, 1) := by rw [cc_134]; decide +kernel
theorem D134_66 : decode (cod 134) 66 = .ok (.istore_n 3, 1) := by rw [cc_134]; decide +kernel
theorem D134_67 : decode (cod 134) 67 = .ok (.iinc 4 1, 3) := by rw [cc_134]; decide +kernel
theorem D134_70 : decode (cod 134) 70 = .ok (.goto (-51), 3) := by rw [cc_134]; decide +kernel
theorem D134_73 : decode (cod 134) 73 = .ok (.iload_n 3, 1) := by rw [cc_134]; decide +kernel
theorem D134_74 : decode (cod 134) 74 = .ok (.ireturn, 1) := by rw [cc_134]; decide +kernel
theorem b134_0 {d : Nat} {i0 i1 : Nat} {x2 : Int} {I L : Nat → Nat → Nat → Int} {t : Nat → Nat} : Res d 134 0 [vr 11 i0, vr 10 i1, vi x2, vx, vx, vx] [] (mk I L t) = if ¬ x2 = 3 then Res d 134 14 [vr 11 i0, vr 10 i1, vi x2, vx, vx, vx] [] (mk I L t) else Res d 134 5 [vr 11 i0, vr 10 i1, vi x2, vx, vx, vx] [] (mk I L t) :=
  Eq.trans (e_iload_n D134_0 rfl rfl) <| Eq.trans (e_iconst (x := 3) D134_1 rfl rfl) <| e_icne D134_2 rfl rfl
theorem b134_5 {d : Nat} {i0 i1 : Nat} {x2 : Int} {I L : Nat → Nat → Nat → Int} {t : Nat → Nat} : Res (d + 1) 134 5 [vr 11 i0, vr 10 i1, vi x2, vx, vx, vx] [] (mk I L t) = (Cal d 1 [vr 0 0, vi (-1)] (mk I L t)).bind fun v => Res (d + 1) 134 13 [vr 11 i0, vr 10 i1, vi x2, vx, vx, vx] (psh 1 v.1 []) v.2 :=
  Eq.trans (e_aload_n D134_5 rfl rfl) <| Eq.trans (e_getP (p := (0, 0)) D134_6 rfl o_134 f_11_61 (sh_11 _) (by decide) (pp_11_9 _ _)) <| Eq.trans (e_iconst (x := -1) D134_9 rfl rfl) <| e_callV D134_10 rfl o_134 m_11_187 (by decide) rfl rfl
theorem b134_13 {d : Nat} {i0 i1 : Nat} {x2 xs0 : Int} {I L : Nat → Nat → Nat → Int} {t : Nat → Nat} : Res d 134 13 [vr 11 i0, vr 10 i1, vi x2, vx, vx, vx] [vi xs0] (mk I L t) = some (vi xs0, (mk I L t)) :=
  e_iret D134_13 rfl
theorem b134_14 {d : Nat} {i0 i1 : Nat} {x2 : Int} {I L : Nat → Nat → Nat → Int} {t : Nat → Nat} : Res d 134 14 [vr 11 i0, vr 10 i1, vi x2, vx, vx, vx] [] (mk I L t) = Res d 134 19 [vr 11 i0, vr 10 i1, vi x2, vi 0, vi 0, vx] [] (mk I L t) :=
  Eq.trans (e_iconst (x := 0) D134_14 rfl rfl) <| Eq.trans (e_istore_n (ls1 := [vr 11 i0, vr 10 i1, vi x2, vi 0, vx, vx]) D134_15 rfl (show 3 < 6 by decide) rfl) <| Eq.trans (e_iconst (x := 0) D134_16 rfl rfl) <| e_istore (ls1 := [vr 11 i0, vr 10 i1, vi x2, vi 0, vi 0, vx]) D134_17 rfl (show 4 < 6 by decide) rfl
theorem b134_19 {d : Nat} {i0 i1 : Nat} {x2 x3 x4 : Int} {u5 : MV} {I L : Nat → Nat → Nat → Int} {t : Nat → Nat} : Res d 134 19 [vr 11 i0, vr 10 i1, vi x2, vi x3, vi x4, u5] [] (mk I L t) = if 9 ≤ x4 then Res d 134 73 [vr 11 i0, vr 10 i1, vi x2, vi x3, vi x4, u5] [] (mk I L t) else Res d 134 26 [vr 11 i0, vr 10 i1, vi x2, vi x3, vi x4, u5] [] (mk I L t) :=
  Eq.trans (e_iload D134_19 rfl rfl) <| Eq.trans (e_bipush (x := 9) D134_21 rfl rfl) <| e_icge D134_23 rfl rfl
theorem b134_26 {d : Nat} {i0 i1 : Nat} {x2 x3 x4 : Int} {u5 : MV} {I L : Nat → Nat → Nat → Int} {t : Nat → Nat} : Res (d + 1) 134 26 [vr 11 i0, vr 10 i1, vi x2, vi x3, vi x4, u5] [] (mk I L t) = (Cal d 26 [vr 4 (106 + i1), vi x4] (mk I L t)).bind fun v => Res (d + 1) 134 35 [vr 11 i0, vr 10 i1, vi x2, vi x3, vi x4, u5] (psh 26 v.1 []) v.2 :=
  Eq.trans (e_aload_n D134_26 rfl rfl) <| Eq.trans (e_getP (p := (4, 106 + i1)) D134_27 rfl o_134 f_11_345 (sh_10 _) (by decide) (pp_10_1 _ _)) <| Eq.trans (e_iload D134_30 rfl rfl) <| e_callV D134_32 rfl o_134 m_11_247 (by decide) rfl rfl
theorem b134_35 {d : Nat} {i0 i1 : Nat} {x2 x3 x4 xs0 : Int} {u5 : MV} {I L : Nat → Nat → Nat → Int} {t : Nat → Nat} : Res d 134 35 [vr 11 i0, vr 10 i1, vi x2, vi x3, vi x4, u5] [vi xs0] (mk I L t) = if xs0 = -1 then Res d 134 67 [vr 11 i0, vr 10 i1, vi x2, vi x3, vi x4, vi xs0] [] (mk I L t) else Res d 134 43 [vr 11 i0, vr 10 i1, vi x2, vi x3, vi x4, vi xs0] [] (mk I L t) :=
  Eq.trans (e_istore (ls1 := [vr 11 i0, vr 10 i1, vi x2, vi x3, vi x4, vi xs0]) D134_35 rfl (show 5 < 6 by decide) rfl) <| Eq.trans (e_iload D134_37 rfl rfl) <| Eq.trans (e_iconst (x := -1) D134_39 rfl rfl) <| e_iceq D134_40 rfl rfl
theorem b134_43 {d : Nat} {i0 i1 : Nat} {x2 x3 x4 x5 : Int} {I L : Nat → Nat → Nat → Int} {t : Nat → Nat} : Res (d + 1) 134 43 [vr 11 i0, vr 10 i1, vi x2, vi x3, vi x4, vi x5] [] (mk I L t) = (Cal d 69 [vr 10 i1, vi x4, vi x5] (mk I L t)).bind fun v => Res (d + 1) 134 51 [vr 11 i0, vr 10 i1, vi x2, vi x3, vi x4, vi x5] (psh 69 v.1 []) v.2 :=
  Eq.trans (e_aload_n D134_43 rfl rfl) <| Eq.trans (e_iload D134_44 rfl rfl) <| Eq.trans (e_iload D134_46 rfl rfl) <| e_callV D134_48 rfl o_134 m_11_486 (by decide) rfl rfl
theorem b134_51 {d : Nat} {i0 i1 : Nat} {x2 x3 x4 x5 xs0 : Int} {I L : Nat → Nat → Nat → Int} {t : Nat → Nat} : Res d 134 51 [vr 11 i0, vr 10 i1, vi x2, vi x3, vi x4, vi x5] [vi xs0] (mk I L t) = if ¬ xs0 = x2 then Res d 134 67 [vr 11 i0, vr 10 i1, vi x2, vi x3, vi x4, vi x5] [] (mk I L t) else Res d 134 55 [vr 11 i0, vr 10 i1, vi x2, vi x3, vi x4, vi x5] [] (mk I L t) :=
  Eq.trans (e_iload_n D134_51 rfl rfl) <| e_icne D134_52 rfl rfl
theorem b134_55 {d : Nat} {i0 i1 : Nat} {x2 x3 x4 x5 : Int} {I L : Nat → Nat → Nat → Int} {t : Nat → Nat} : Res (d + 1) 134 55 [vr 11 i0, vr 10 i1, vi x2, vi x3, vi x4, vi x5] [] (mk I L t) = (Cal d 1 [vr 0 0, vi x4] (mk I L t)).bind fun v => Res (d + 1) 134 65 [vr 11 i0, vr 10 i1, vi x2, vi x3, vi x4, vi x5] (psh 1 v.1 [vi x3]) v.2 :=
  Eq.trans (e_iload_n D134_55 rfl rfl) <| Eq.trans (e_aload_n D134_56 rfl rfl) <| Eq.trans (e_getP (p := (0, 0)) D134_57 rfl o_134 f_11_61 (sh_11 _) (by decide) (pp_11_9 _ _)) <| Eq.trans (e_iload D134_60 rfl rfl) <| e_callV D134_62 rfl o_134 m_11_187 (by decide) rfl rfl
theorem b134_65 {d : Nat} {i0 i1 : Nat} {x2 x3 x4 x5 xs1 xs0 : Int} {I L : Nat → Nat → Nat → Int} {t : Nat → Nat} : Res d 134 65 [vr 11 i0, vr 10 i1, vi x2, vi x3, vi x4, vi x5] [vi xs1, vi xs0] (mk I L t) = Res d 134 67 [vr 11 i0, vr 10 i1, vi x2, vi (w32 (xs0 + xs1)), vi x4, vi x5] [] (mk I L t) :=
  Eq.trans (e_iadd D134_65 rfl) <| e_istore_n (ls1 := [vr 11 i0, vr 10 i1, vi x2, vi (w32 (xs0 + xs1)), vi x4, vi x5]) D134_66 rfl (show 3 < 6 by decide) rfl
theorem b134_67 {d : Nat} {i0 i1 : Nat} {x2 x3 x4 x5 : Int} {I L : Nat → Nat → Nat → Int} {t : Nat → Nat} : Res d 134 67 [vr 11 i0, vr 10 i1, vi x2, vi x3, vi x4, vi x5] [] (mk I L t) = Res d 134 19 [vr 11 i0, vr 10 i1, vi x2, vi x3, vi (w32 (x4 + 1)), vi x5] [] (mk I L t) :=
  Eq.trans (e_iinc (ls1 := [vr 11 i0, vr 10 i1, vi x2, vi x3, vi (w32 (x4 + 1)), vi x5]) D134_67 rfl rfl rfl) <| e_goto (q1 := 19) D134_70 rfl
theorem b134_73 {d : Nat} {i0 i1 : Nat} {x2 x3 x4 : Int} {u5 : MV} {I L : Nat → Nat → Nat → Int} {t : Nat → Nat} : Res d 134 73 [vr 11 i0, vr 10 i1, vi x2, vi x3, vi x4, u5] [] (mk I L t) = some (vi x3, (mk I L t)) :=
  Eq.trans (e_iload_n D134_73 rfl rfl) <| e_iret D134_74 rfl
/-! x_sumUp -/
theorem cc_135 : cod 135 = cX11_sumUp := rfl
theorem D135_0 : decode (cod 135) 0 = .ok (.aload_n 0, 1) := by rw [cc_135]; decide +kernel
theorem D135_1 : decode (cod 135) 1 = .ok (.getfield 61, 3) := by rw [cc_135]; decide +kernel
theorem D135_4 : decode (cod 135) 4 = .ok (.getfield 366, 3) := by rw [cc_135]; decide +kernel
theorem D135_7 : decode (cod 135) 7 = .ok (.iload_n 1, 1) := by rw [cc_135]; decide +kernel
theorem D135_8 : decode (cod 135) 8 = .ok (.lconst 0, 1) := by rw [cc_135]; decide +kernel
theorem D135_9 : decode (cod 135) 9 = .ok (.lastore, 1) := by rw [cc_135]; decide +kernel
theorem D135_10 : decode (cod 135) 10 = .ok (.aload_n 0, 1) := by rw [cc_135]; decide +kernel
theorem D135_11 : decode (cod 135) 11 = .ok (.getfield 61, 3) := by rw [cc_135]; decide +kernel
theorem D135_14 : decode (cod 135) 14 = .ok (.getfield 370, 3) := by rw [cc_135]; decide +kernel
theorem D135_17 : decode (cod 135) 17 = .ok (.iload_n 1, 1) := by rw [cc_135]; decide +kernel
theorem D135_18 : decode (cod 135) 18 = .ok (.lconst 0, 1) := by rw [cc_135]; decide +kernel
theorem D135_19 : decode (cod 135) 19 = .ok (.lastore, 1) := by rw [cc_135]; decide +kernel
theorem D135_20 : decode (cod 135) 20 = .ok (.iconst 0, 1) := by rw [cc_135]; decide +kernel
theorem D135_21 : decode (cod 135) 21 = .ok (.istore_n 2, 1) := by rw [cc_135]; decide +kernel
theorem D135_22 : decode (cod 135) 22 = .ok (.iload_n 2, 1) := by rw [cc_135]; decide +kernel
theorem D135_23 : decode (cod 135) 23 = .ok (.aload_n 0, 1) := by rw [cc_135]; decide +kernel
theorem D135_24 : decode (cod 135) 24 = .ok (.getfield 335, 3) := by rw [cc_135]; decide +kernel
theorem D135_27 : decode (cod 135) 27 = .ok (.if_icmp .ge 76, 3) := by rw [cc_135]; decide +kernel
theorem D135_30 : decode (cod 135) 30 = .ok (.aload_n 0, 1) := by rw [cc_135]; decide +kernel
theorem D135_31 : decode (cod 135) 31 = .ok (.aload_n 0, 1) := by rw [cc_135]; decide +kernel
theorem D135_32 : decode (cod 135) 32 = .ok (.getfield 47, 3) := by rw [cc_135]; decide +kernel
theorem D135_35 : decode (cod 135) 35 = .ok (.iload_n 2, 1) := by rw [cc_135]; decide +kernel
theorem D135_36 : decode (cod 135) 36 = .ok (.aaload, 1) := by rw [cc_135]; decide +kernel
theorem D135_37 : decode (cod 135) 37 = .ok (.aload_n 0, 1) := by rw [cc_135]; decide +kernel
theorem D135_38 : decode (cod 135) 38 = .ok (.getfield 29, 3) := by rw [cc_135]; decide +kernel
theorem D135_41 : decode (cod 135) 41 = .ok (.getfield 349, 3) := by rw [cc_135]; decide +kernel
theorem D135_44 : decode (cod 135) 44 = .ok (.iload_n 1, 1) := by rw [cc_135]; decide +kernel
theorem D135_45 : decode (cod 135) 45 = .ok (.aaload, 1) := by rw [cc_135]; decide +kernel
theorem D135_46 : decode (cod 135) 46 = .ok (.invokevirtual 353, 3) := by rw [cc_135]; decide +kernel
theorem D135_49 : decode (cod 135) 49 = .ok (.aload_n 0, 1) := by rw [cc_135]; decide +kernel
theorem D135_50 : decode (cod 135) 50 = .ok (.getfield 61, 3) := by rw [cc_135]; decide +kernel
theorem D135_53 : decode (cod 135) 53 = .ok (.getfield 366, 3) := by rw [cc_135]; decide +kernel
theorem D135_56 : decode (cod 135) 56 = .ok (.iload_n 1, 1) := by rw [cc_135]; decide +kernel
theorem D135_57 : decode (cod 135) 57 = .ok (.dup2, 1) := by rw [cc_135]; decide +kernel
theorem D135_58 : decode (cod 135) 58 = .ok (.laload, 1) := by rw [cc_135]; decide +kernel
theorem D135_59 : decode (cod 135) 59 = .ok (.aload_n 0, 1) := by rw [cc_135]; decide +kernel
theorem D135_60 : decode (cod 135) 60 = .ok (.aload_n 0, 1) := by rw [cc_135]; decide +kernel
theorem D135_61 : decode (cod 135) 61 = .ok (.getfield 47, 3) := by rw [cc_135]; decide +kernel
theorem D135_64 : decode (cod 135) 64 = .ok (.iload_n 2, 1) := by rw [cc_135]; decide +kernel
theorem D135_65 : decode (cod 135) 65 = .ok (.aaload, 1) := by rw [cc_135]; decide +kernel
theorem D135_66 : decode (cod 135) 66 = .ok (.iconst 0, 1) := by rw [cc_135]; decide +kernel
theorem D135_67 : decode (cod 135) 67 = .ok (.invokevirtual 357, 3) := by rw [cc_135]; decide +kernel
theorem D135_70 : decode (cod 135) 70 = .ok (.i2l, 1) := by rw [cc_135]; decide +kernel
theorem D135_71 : decode (cod 135) 71 = .ok (.ladd, 1) := by rw [cc_135]; decide +kernel
theorem D135_72 : decode (cod 135) 72 = .ok (.lastore, 1) := by rw [cc_135]; decide +kernel
theorem D135_73 : decode (cod 135) 73 = .ok (.aload_n 0, 1) := by rw [cc_135]; decide +kernel
theorem D135_74 : decode (cod 135) 74 = .ok (.getfield 61, 3) := by rw [cc_135]; decide +kernel
theorem D135_77 : decode (cod 135) 77 = .ok (.getfield 370, 3) := by rw [cc_135]; decide +kernel
theorem D135_80 : decode (cod 135) 80 = .ok (.iload_n 1, 1) := by rw [cc_135]; decide +kernel
theorem D135_81 : decode (cod 135) 81 = .ok (.dup2, 1) := by rw [cc_135]; decide +kernel
theorem D135_82 : decode (cod 135) 82 = .ok (.laload, 1) := by rw [cc_135]; decide +kernel
theorem D135_83 : decode (cod 135) 83 = .ok (.aload_n 0, 1) := by rw [cc_135]; decide +kernel
theorem D135_84 : decode (cod 135) 84 = .ok (.aload_n 0, 1) := by rw [cc_135]; decide +kernel
theorem D135_85 : decode (cod 135) 85 = .ok (.getfield 47, 3) := by rw [cc_135]; decide +kernel
theorem D135_88 : decode (cod 135) 88 = .ok (.iload_n 2, 1) := by rw [cc_135]; decide +kernel
theorem D135_89 : decode (cod 135) 89 = .ok (.aaload, 1) := by rw [cc_135]; decide +kernel
theorem D135_90 : decode (cod 135) 90 = .ok (.iconst 1, 1) := by rw [cc_135]; decide +kernel
theorem D135_91 : decode (cod 135) 91 = .ok (.invokevirtual 357, 3) := by rw [cc_135]; decide +kernel
theorem D135_94 : decode (cod 135) 94 = .ok (.i2l, 1) := by rw [cc_135]; decide +kernel
theorem D135_95 : decode (cod 135) 95 = .ok (.ladd, 1) := by rw [cc_135]; decide +kernel
theorem D135_96 : decode (cod 135) 96 = .ok (.lastore, 1) := by rw [cc_135]; decide +kernel
theorem D135_97 : decode (cod 135) 97 = .ok (.iinc 2 1, 3) := by rw [cc_135]; decide +kernel
theorem D135_100 : decode (cod 135) 100 = .ok (.goto (-78), 3) := by rw [cc_135]; decide +kernel
theorem D135_103 : decode (cod 135) 103 = .ok (.return_, 1) := by rw [cc_135]; decide +kernel
theorem b135_0 {d : Nat} {i0 : Nat} {x1 : Int} {I L : Nat → Nat → Nat → Int} {t : Nat → Nat} (g1 : 0 ≤ x1 ∧ x1 < 4) : Res d 135 0 [vr 11 i0, vi x1, vx] [] (mk I L t) = Res d 135 22 [vr 11 i0, vi x1, vi 0] [] (mk I (up3 (up3 L 19 0 x1.toNat 0) 20 0 x1.toNat 0) t) :=
  Eq.trans (e_aload_n D135_0 rfl rfl) <| Eq.trans (e_getP (p := (0, 0)) D135_1 rfl o_135 f_11_61 (sh_11 _) (by decide) (pp_11_9 _ _)) <| Eq.trans (e_getP (p := (19, 0)) D135_4 rfl o_135 f_11_366 (sh_0 _) (by decide) (pp_0_6 _ _)) <| Eq.trans (e_iload_n D135_7 rfl rfl) <| Eq.trans (e_lconst (x := 0) D135_8 rfl rfl) <| Eq.trans (e_last D135_9 rfl (al_19 _) rfl g1) <| Eq.trans (e_aload_n D135_10 rfl rfl) <| Eq.trans (e_getP (p := (0, 0)) D135_11 rfl o_135 f_11_61 (sh_11 _) (by decide) (pp_11_9 _ _)) <| Eq.trans (e_getP (p := (20, 0)) D135_14 rfl o_135 f_11_370 (sh_0 _) (by decide) (pp_0_7 _ _)) <| Eq.trans (e_iload_n D135_17 rfl rfl) <| Eq.trans (e_lconst (x := 0) D135_18 rfl rfl) <| Eq.trans (e_last D135_19 rfl (al_20 _) rfl g1) <| Eq.trans (e_iconst (x := 0) D135_20 rfl rfl) <| e_istore_n (ls1 := [vr 11 i0, vi x1, vi 0]) D135_21 rfl (show 2 < 3 by decide) rfl
theorem b135_22 {d : Nat} {i0 : Nat} {x1 x2 : Int} {I L : Nat → Nat → Nat → Int} {t : Nat → Nat} : Res d 135 22 [vr 11 i0, vi x1, vi x2] [] (mk I L t) = if I 11 i0 14 ≤ x2 then Res d 135 103 [vr 11 i0, vi x1, vi x2] [] (mk I L t) else Res d 135 30 [vr 11 i0, vi x1, vi x2] [] (mk I L t) :=
  Eq.trans (e_iload_n D135_22 rfl rfl) <| Eq.trans (e_aload_n D135_23 rfl rfl) <| Eq.trans (e_getI D135_24 rfl o_135 f_11_335 (sh_11 _) (by decide)) <| e_icge D135_27 rfl rfl
theorem b135_30 {d : Nat} {i0 : Nat} {x1 x2 : Int} {I L : Nat → Nat → Nat → Int} {t : Nat → Nat} (g1 : 0 ≤ x2 ∧ x2 < 40) (g2 : 0 ≤ x1 ∧ x1 < 4) : Res (d + 1) 135 30 [vr 11 i0, vi x1, vi x2] [] (mk I L t) = (Cal d 133 [vr 11 i0, vr 10 x2.toNat, vr 9 (t (5 + x1.toNat))] (mk I L t)).bind fun v => Res (d + 1) 135 49 [vr 11 i0, vi x1, vi x2] (psh 133 v.1 []) v.2 :=
  Eq.trans (e_aload_n D135_30 rfl rfl) <| Eq.trans (e_aload_n D135_31 rfl rfl) <| Eq.trans (e_getP (p := (45, i0)) D135_32 rfl o_135 f_11_47 (sh_11 _) (by decide) (pp_11_6 _ _)) <| Eq.trans (e_iload_n D135_35 rfl rfl) <| Eq.trans (e_aald (p := (10, x2.toNat)) D135_36 rfl (ae_45 _) (aq_45 _) (pa_45 _ _ _) g1) <| Eq.trans (e_aload_n D135_37 rfl rfl) <| Eq.trans (e_getP (p := (8, 0)) D135_38 rfl o_135 f_11_29 (sh_11 _) (by decide) (pp_11_3 _ _)) <| Eq.trans (e_getP (p := (39, 0)) D135_41 rfl o_135 f_11_349 (sh_8 _) (by decide) (pp_8_2 _)) <| Eq.trans (e_iload_n D135_44 rfl rfl) <| Eq.trans (e_aald (p := (9, t (5 + x1.toNat))) D135_45 rfl (ae_39 _) (aq_39 _) (pa_39 _ (tn4 g2)) g2) <| e_callV D135_46 rfl o_135 m_11_353 (by decide) rfl rfl
theorem b135_49 {d : Nat} {i0 : Nat} {x1 x2 : Int} {I L : Nat → Nat → Nat → Int} {t : Nat → Nat} (g1 : 0 ≤ x1 ∧ x1 < 4) (g2 : 0 ≤ x2 ∧ x2 < 40) : Res (d + 1) 135 49 [vr 11 i0, vi x1, vi x2] [] (mk I L t) = (Cal d 134 [vr 11 i0, vr 10 x2.toNat, vi 0] (mk I L t)).bind fun v => Res (d + 1) 135 70 [vr 11 i0, vi x1, vi x2] (psh 134 v.1 [vl (L 19 0 x1.toNat), vi x1, vr 19 0]) v.2 :=
  Eq.trans (e_aload_n D135_49 rfl rfl) <| Eq.trans (e_getP (p := (0, 0)) D135_50 rfl o_135 f_11_61 (sh_11 _) (by decide) (pp_11_9 _ _)) <| Eq.trans (e_getP (p := (19, 0)) D135_53 rfl o_135 f_11_366 (sh_0 _) (by decide) (pp_0_6 _ _)) <| Eq.trans (e_iload_n D135_56 rfl rfl) <| Eq.trans (e_dup2 D135_57 rfl) <| Eq.trans (e_lald D135_58 rfl (al_19 _) g1) <| Eq.trans (e_aload_n D135_59 rfl rfl) <| Eq.trans (e_aload_n D135_60 rfl rfl) <| Eq.trans (e_getP (p := (45, i0)) D135_61 rfl o_135 f_11_47 (sh_11 _) (by decide) (pp_11_6 _ _)) <| Eq.trans (e_iload_n D135_64 rfl rfl) <| Eq.trans (e_aald (p := (10, x2.toNat)) D135_65 rfl (ae_45 _) (aq_45 _) (pa_45 _ _ _) g2) <| Eq.trans (e_iconst (x := 0) D135_66 rfl rfl) <| e_callV D135_67 rfl o_135 m_11_357 (by decide) rfl rfl
theorem b135_70 {d : Nat} {i0 is0 : Nat} {x1 x2 xs3 xs2 xs1 : Int} {I L : Nat → Nat → Nat → Int} {t : Nat → Nat} (g1 : 0 ≤ xs1 ∧ xs1 < 4) (g2 : 0 ≤ x1 ∧ x1 < 4) (g3 : 0 ≤ x2 ∧ x2 < 40) : Res (d + 1) 135 70 [vr 11 i0, vi x1, vi x2] [vi xs3, vl xs2, vi xs1, vr 19 is0] (mk I L t) = (Cal d 134 [vr 11 i0, vr 10 x2.toNat, vi 1] (mk I (up3 L 19 is0 xs1.toNat (w64 (xs2 + xs3))) t)).bind fun v => Res (d + 1) 135 94 [vr 11 i0, vi x1, vi x2] (psh 134 v.1 [vl ((up3 L 19 is0 xs1.toNat (w64 (xs2 + xs3))) 20 0 x1.toNat), vi x1, vr 20 0]) v.2 :=
  Eq.trans (e_i2l D135_70 rfl) <| Eq.trans (e_ladd D135_71 rfl) <| Eq.trans (e_last D135_72 rfl (al_19 _) rfl g1) <| Eq.trans (e_aload_n D135_73 rfl rfl) <| Eq.trans (e_getP (p := (0, 0)) D135_74 rfl o_135 f_11_61 (sh_11 _) (by decide) (pp_11_9 _ _)) <| Eq.trans (e_getP (p := (20, 0)) D135_77 rfl o_135 f_11_370 (sh_0 _) (by decide) (pp_0_7 _ _)) <| Eq.trans (e_iload_n D135_80 rfl rfl) <| Eq.trans (e_dup2 D135_81 rfl) <| Eq.trans (e_lald D135_82 rfl (al_20 _) g2) <| Eq.trans (e_aload_n D135_83 rfl rfl) <| Eq.trans (e_aload_n D135_84 rfl rfl) <| Eq.trans (e_getP (p := (45, i0)) D135_85 rfl o_135 f_11_47 (sh_11 _) (by decide) (pp_11_6 _ _)) <| Eq.trans (e_iload_n D135_88 rfl rfl) <| Eq.trans (e_aald (p := (10, x2.toNat)) D135_89 rfl (ae_45 _) (aq_45 _) (pa_45 _ _ _) g3) <| Eq.trans (e_iconst (x := 1) D135_90 rfl rfl) <| e_callV D135_91 rfl o_135 m_11_357 (by decide) rfl rfl
theorem b135_94 {d : Nat} {i0 is0 : Nat} {x1 x2 xs3 xs2 xs1 : Int} {I L : Nat → Nat → Nat → Int} {t : Nat → Nat} (g1 : 0 ≤ xs1 ∧ xs1 < 4) : Res d 135 94 [vr 11 i0, vi x1, vi x2] [vi xs3, vl xs2, vi xs1, vr 20 is0] (mk I L t) = Res d 135 22 [vr 11 i0, vi x1, vi (w32 (x2 + 1))] [] (mk I (up3 L 20 is0 xs1.toNat (w64 (xs2 + xs3))) t) :=
  Eq.trans (e_i2l D135_94 rfl) <| Eq.trans (e_ladd D135_95 rfl) <| Eq.trans (e_last D135_96 rfl (al_20 _) rfl g1) <| Eq.trans (e_iinc (ls1 := [vr 11 i0, vi x1, vi (w32 (x2 + 1))]) D135_97 rfl rfl rfl) <| e_goto (q1 := 22) D135_100 rfl
theorem b135_103 {d : Nat} {i0 : Nat} {x1 x2 : Int} {I L : Nat → Nat → Nat → Int} {t : Nat → Nat} : Res d 135 103 [vr 11 i0, vi x1, vi x2] [] (mk I L t) = some (vx, (mk I L t)) :=
  e_vret D135_103 rfl
/-! x_allInBin -/
theorem cc_136 : cod 136 = cX11_allInBin := rfl
theorem D136_0 : decode (cod 136) 0 = .ok (.lconst 0, 1) := by rw [cc_136]; decide +kernel
theorem D136_1 : decode (cod 136) 1 = .ok (.lstore 4, 2) := by rw [cc_136]; decide +kernel
theorem D136_3 : decode (cod 136) 3 = .ok (.iconst 0, 1) := by rw [cc_136]; decide +kernel
theorem D136_4 : decode (cod 136) 4 = .ok (.istore 6, 2) := by rw [cc_136]; decide +kernel
theorem D136_6 : decode (cod 136) 6 = .ok (.iload 6, 2) := by rw [cc_136]; decide +kernel
theorem D136_8 : decode (cod 136) 8 = .ok (.aload_n 0, 1) := by rw [cc_136]; decide +kernel
theorem D136_9 : decode (cod 136) 9 = .ok (.getfield 335, 3) := by rw [cc_136]; decide +kernel
theorem D136_12 : decode (cod 136) 12 = .ok (.if_icmp .ge 78, 3) := by rw [cc_136]; decide +kernel
theorem D136_15 : decode (cod 136) 15 = .ok (.aload_n 0, 1) := by rw [cc_136]; decide +kernel
theorem D136_16 : decode (cod 136) 16 = .ok (.aload_n 0, 1) := by rw [cc_136]; decide +kernel
theorem D136_17 : decode (cod 136) 17 = .ok (.getfield 47, 3) := by rw [cc_136]; decide +kernel
theorem D136_20 : decode (cod 136) 20 = .ok (.iload 6, 2) := by rw [cc_136]; decide +kernel
theorem D136_22 : decode (cod 136) 22 = .ok (.aaload, 1) := by rw [cc_136]; decide +kernel
theorem D136_23 : decode (cod 136) 23 = .ok (.aload_n 0, 1) := by rw [cc_136]; decide +kernel
theorem D136_24 : decode (cod 136) 24 = .ok (.getfield 29, 3) := by rw [cc_136]; decide +kernel
theorem D136_27 : decode (cod 136) 27 = .ok (.getfield 349, 3) := by rw [cc_136]; decide +kernel
theorem D136_30 : decode (cod 136) 30 = .ok (.iload_n 1, 1) := by rw [cc_136]; decide +kernel
theorem D136_31 : decode (cod 136) 31 = .ok (.aaload, 1) := by rw [cc_136]; decide +kernel
theorem D136_32 : decode (cod 136) 32 = .ok (.invokevirtual 353, 3) := by rw [cc_136]; decide +kernel
theorem D136_35 : decode (cod 136) 35 = .ok (.aload_n 0, 1) := by rw [cc_136]; decide +kernel
theorem D136_36 : decode (cod 136) 36 = .ok (.getfield 61, 3) := by rw [cc_136]; decide +kernel
theorem D136_39 : decode (cod 136) 39 = .ok (.getfield 472, 3) := by rw [cc_136]; decide +kernel
theorem D136_42 : decode (cod 136) 42 = .ok (.aload_n 0, 1) := by rw [cc_136]; decide +kernel
theorem D136_43 : decode (cod 136) 43 = .ok (.getfield 29, 3) := by rw [cc_136]; decide +kernel
theorem D136_46 : decode (cod 136) 46 = .ok (.getfield 349, 3) := by rw [cc_136]; decide +kernel
theorem D136_49 : decode (cod 136) 49 = .ok (.iload_n 1, 1) := by rw [cc_136]; decide +kernel
theorem D136_50 : decode (cod 136) 50 = .ok (.aaload, 1) := by rw [cc_136]; decide +kernel
theorem D136_51 : decode (cod 136) 51 = .ok (.getfield 489, 3) := by rw [cc_136]; decide +kernel
theorem D136_54 : decode (cod 136) 54 = .ok (.ifCond .eq 7, 3) := by rw [cc_136]; decide +kernel
theorem D136_57 : decode (cod 136) 57 = .ok (.iconst 1, 1) := by rw [cc_136]; decide +kernel
theorem D136_58 : decode (cod 136) 58 = .ok (.goto 4, 3) := by rw [cc_136]; decide +kernel
theorem D136_61 : decode (cod 136) 61 = .ok (.iconst 0, 1) := by rw [cc_136]; decide +kernel
theorem D136_62 : decode (cod 136) 62 = .ok (.putfield 250, 3) := by rw [cc_136]; decide +kernel
theorem D136_65 : decode (cod 136) 65 = .ok (.lload 4, 2) := by rw [cc_136]; decide +kernel
theorem D136_67 : decode (cod 136) 67 = .ok (.aload_n 0, 1) := by rw [cc_136]; decide +kernel
theorem D136_68 : decode (cod 136) 68 = .ok (.aload_n 0, 1) := by rw [cc_136]; decide +kernel
theorem D136_69 : decode (cod 136) 69 = .ok (.getfield 47, 3) := by rw [cc_136]; decide +kernel
theorem D136_72 : decode (cod 136) 72 = .ok (.iload 6, 2) := by rw [cc_136]; decide +kernel
theorem D136_74 : decode (cod 136) 74 = .ok (.aaload, 1) := by rw [cc_136]; decide +kernel
theorem D136_75 : decode (cod 136) 75 = .ok (.iload_n 2, 1) := by rw [cc_136]; decide +kernel
theorem D136_76 : decode (cod 136) 76 = .ok (.iload_n 3, 1) := by rw [cc_136]; decide +kernel
theorem D136_77 : decode (cod 136) 77 = .ok (.invokevirtual 492, 3) := by rw [cc_136]; decide +kernel
theorem D136_80 : decode (cod 136) 80 = .ok (.i2l, 1) := by rw [cc_136]; decide +kernel
theorem D136_81 : decode (cod 136) 81 = .ok (.ladd, 1) := by rw [cc_136]; decide +kernel
theorem D136_82 : decode (cod 136) 82 = .ok (.lstore 4, 2) := by rw [cc_136]; decide +kernel
theorem D136_84 : decode (cod 136) 84 = .ok (.iinc 6 1, 3) := by rw [cc_136]; decide +kernel
theorem D136_87 : decode (cod 136) 87 = .ok (.goto (-81), 3) := by rw [cc_136]; decide +kernel
theorem D136_90 : decode (cod 136) 90 = .ok (.lload 4, 2) := by rw [cc_136]; decide +kernel
theorem D136_92 : decode (cod 136) 92 = .ok (.lreturn, 1) := by rw [cc_136]; decide +kernel
theorem b136_0 {d : Nat} {i0 : Nat} {x1 x2 x3 : Int} {I L : Nat → Nat → Nat → Int} {t : Nat → Nat} : Res d 136 0 [vr 11 i0, vi x1, vi x2, vi x3, vx, vx, vx] [] (mk I L t) = Res d 136 6 [vr 11 i0, vi x1, vi x2, vi x3, vl 0, vx, vi 0] [] (mk I L t) :=
  Eq.trans (e_lconst (x := 0) D136_0 rfl rfl) <| Eq.trans (e_lstore (ls1 := [vr 11 i0, vi x1, vi x2, vi x3, vl 0, vx, vx]) D136_1 rfl (show 5 < 7 by decide) rfl) <| Eq.trans (e_iconst (x := 0) D136_3 rfl rfl) <| e_istore (ls1 := [vr 11 i0, vi x1, vi x2, vi x3, vl 0, vx, vi 0]) D136_4 rfl (show 6 < 7 by decide) rfl
theorem b136_6 {d : Nat} {i0 : Nat} {x1 x2 x3 x4 x6 : Int} {I L : Nat → Nat → Nat → Int} {t : Nat → Nat} : Res d 136 6 [vr 11 i0, vi x1, vi x2, vi x3, vl x4, vx, vi x6] [] (mk I L t) = if I 11 i0 14 ≤ x6 then Res d 136 90 [vr 11 i0, vi x1, vi x2, vi x3, vl x4, vx, vi x6] [] (mk I L t) else Res d 136 15 [vr 11 i0, vi x1, vi x2, vi x3, vl x4, vx, vi x6] [] (mk I L t) :=
  Eq.trans (e_iload D136_6 rfl rfl) <| Eq.trans (e_aload_n D136_8 rfl rfl) <| Eq.trans (e_getI D136_9 rfl o_136 f_11_335 (sh_11 _) (by decide)) <| e_icge D136_12 rfl rfl
theorem b136_15 {d : Nat} {i0 : Nat} {x1 x2 x3 x4 x6 : Int} {I L : Nat → Nat → Nat → Int} {t : Nat → Nat} (g1 : 0 ≤ x6 ∧ x6 < 40) (g2 : 0 ≤ x1 ∧ x1 < 4) : Res (d + 1) 136 15 [vr 11 i0, vi x1, vi x2, vi x3, vl x4, vx, vi x6] [] (mk I L t) = (Cal d 133 [vr 11 i0, vr 10 x6.toNat, vr 9 (t (5 + x1.toNat))] (mk I L t)).bind fun v => Res (d + 1) 136 35 [vr 11 i0, vi x1, vi x2, vi x3, vl x4, vx, vi x6] (psh 133 v.1 []) v.2 :=
  Eq.trans (e_aload_n D136_15 rfl rfl) <| Eq.trans (e_aload_n D136_16 rfl rfl) <| Eq.trans (e_getP (p := (45, i0)) D136_17 rfl o_136 f_11_47 (sh_11 _) (by decide) (pp_11_6 _ _)) <| Eq.trans (e_iload D136_20 rfl rfl) <| Eq.trans (e_aald (p := (10, x6.toNat)) D136_22 rfl (ae_45 _) (aq_45 _) (pa_45 _ _ _) g1) <| Eq.trans (e_aload_n D136_23 rfl rfl) <| Eq.trans (e_getP (p := (8, 0)) D136_24 rfl o_136 f_11_29 (sh_11 _) (by decide) (pp_11_3 _ _)) <| Eq.trans (e_getP (p := (39, 0)) D136_27 rfl o_136 f_11_349 (sh_8 _) (by decide) (pp_8_2 _)) <| Eq.trans (e_iload_n D136_30 rfl rfl) <| Eq.trans (e_aald (p := (9, t (5 + x1.toNat))) D136_31 rfl (ae_39 _) (aq_39 _) (pa_39 _ (tn4 g2)) g2) <| e_callV D136_32 rfl o_136 m_11_353 (by decide) rfl rfl
theorem b136_35 {d : Nat} {i0 : Nat} {x1 x2 x3 x4 x6 : Int} {I L : Nat → Nat → Nat → Int} {t : Nat → Nat} (g1 : 0 ≤ x1 ∧ x1 < 4) : Res d 136 35 [vr 11 i0, vi x1, vi x2, vi x3, vl x4, vx, vi x6] [] (mk I L t) = if I 9 (t (5 + x1.toNat)) 1 = 0 then Res d 136 61 [vr 11 i0, vi x1, vi x2, vi x3, vl x4, vx, vi x6] [vr 3 60] (mk I L t) else Res d 136 57 [vr 11 i0, vi x1, vi x2, vi x3, vl x4, vx, vi x6] [vr 3 60] (mk I L t) :=
  Eq.trans (e_aload_n D136_35 rfl rfl) <| Eq.trans (e_getP (p := (0, 0)) D136_36 rfl o_136 f_11_61 (sh_11 _) (by decide) (pp_11_9 _ _)) <| Eq.trans (e_getP (p := (3, 60)) D136_39 rfl o_136 f_11_472 (sh_0 _) (by decide) (pp_0_8 _ _)) <| Eq.trans (e_aload_n D136_42 rfl rfl) <| Eq.trans (e_getP (p := (8, 0)) D136_43 rfl o_136 f_11_29 (sh_11 _) (by decide) (pp_11_3 _ _)) <| Eq.trans (e_getP (p := (39, 0)) D136_46 rfl o_136 f_11_349 (sh_8 _) (by decide) (pp_8_2 _)) <| Eq.trans (e_iload_n D136_49 rfl rfl) <| Eq.trans (e_aald (p := (9, t (5 + x1.toNat))) D136_50 rfl (ae_39 _) (aq_39 _) (pa_39 _ (tn4 g1)) g1) <| Eq.trans (e_getI D136_51 rfl o_136 f_11_489 (sh_9 _) (by decide)) <| e_ifeq D136_54 rfl rfl
theorem b136_57 {d : Nat} {i0 is0 : Nat} {x1 x2 x3 x4 x6 : Int} {I L : Nat → Nat → Nat → Int} {t : Nat → Nat} : Res d 136 57 [vr 11 i0, vi x1, vi x2, vi x3, vl x4, vx, vi x6] [vr 3 is0] (mk I L t) = Res d 136 62 [vr 11 i0, vi x1, vi x2, vi x3, vl x4, vx, vi x6] [vi 1, vr 3 is0] (mk I L t) :=
  Eq.trans (e_iconst (x := 1) D136_57 rfl rfl) <| e_goto (q1 := 62) D136_58 rfl
theorem b136_61 {d : Nat} {i0 is0 : Nat} {x1 x2 x3 x4 x6 : Int} {I L : Nat → Nat → Nat → Int} {t : Nat → Nat} : Res d 136 61 [vr 11 i0, vi x1, vi x2, vi x3, vl x4, vx, vi x6] [vr 3 is0] (mk I L t) = Res d 136 62 [vr 11 i0, vi x1, vi x2, vi x3, vl x4, vx, vi x6] [vi 0, vr 3 is0] (mk I L t) :=
  e_iconst (x := 0) D136_61 rfl rfl
theorem b136_62 {d : Nat} {i0 is0 : Nat} {x1 x2 x3 x4 x6 xs1 : Int} {I L : Nat → Nat → Nat → Int} {t : Nat → Nat} (g1 : 0 ≤ x6 ∧ x6 < 40) : Res (d + 1) 136 62 [vr 11 i0, vi x1, vi x2, vi x3, vl x4, vx, vi x6] [vi xs1, vr 3 is0] (mk I L t) = (Cal d 137 [vr 11 i0, vr 10 x6.toNat, vi x2, vi x3] (mk (up3 I 3 is0 8 xs1) L t)).bind fun v => Res (d + 1) 136 80 [vr 11 i0, vi x1, vi x2, vi x3, vl x4, vx, vi x6] (psh 137 v.1 [vl x4]) v.2 :=
  Eq.trans (e_putI D136_62 rfl o_136 f_11_250 (sh_3 _) rfl (by decide) (Or.inl (by decide))) <| Eq.trans (e_lload D136_65 rfl rfl) <| Eq.trans (e_aload_n D136_67 rfl rfl) <| Eq.trans (e_aload_n D136_68 rfl rfl) <| Eq.trans (e_getP (p := (45, i0)) D136_69 rfl o_136 f_11_47 (sh_11 _) (by decide) (pp_11_6 _ _)) <| Eq.trans (e_iload D136_72 rfl rfl) <| Eq.trans (e_aald (p := (10, x6.toNat)) D136_74 rfl (ae_45 _) (aq_45 _) (pa_45 _ _ _) g1) <| Eq.trans (e_iload_n D136_75 rfl rfl) <| Eq.trans (e_iload_n D136_76 rfl rfl) <| e_callV D136_77 rfl o_136 m_11_492 (by decide) rfl rfl
theorem b136_80 {d : Nat} {i0 : Nat} {x1 x2 x3 x4 x6 xs1 xs0 : Int} {I L : Nat → Nat → Nat → Int} {t : Nat → Nat} : Res d 136 80 [vr 11 i0, vi x1, vi x2, vi x3, vl x4, vx, vi x6] [vi xs1, vl xs0] (mk I L t) = Res d 136 6 [vr 11 i0, vi x1, vi x2, vi x3, vl (w64 (xs0 + xs1)), vx, vi (w32 (x6 + 1))] [] (mk I L t) :=
  Eq.trans (e_i2l D136_80 rfl) <| Eq.trans (e_ladd D136_81 rfl) <| Eq.trans (e_lstore (ls1 := [vr 11 i0, vi x1, vi x2, vi x3, vl (w64 (xs0 + xs1)), vx, vi x6]) D136_82 rfl (show 5 < 7 by decide) rfl) <| Eq.trans (e_iinc (ls1 := [vr 11 i0, vi x1, vi x2, vi x3, vl (w64 (xs0 + xs1)), vx, vi (w32 (x6 + 1))]) D136_84 rfl rfl rfl) <| e_goto (q1 := 6) D136_87 rfl
theorem b136_90 {d : Nat} {i0 : Nat} {x1 x2 x3 x4 x6 : Int} {I L : Nat → Nat → Nat → Int} {t : Nat → Nat} : Res d 136 90 [vr 11 i0, vi x1, vi x2, vi x3, vl x4, vx, vi x6] [] (mk I L t) = some (vl x4, (mk I L t)) :=
  Eq.trans (e_lload D136_90 rfl rfl) <| e_lret D136_92 rfl
/-! x_shareInBin -/
theorem cc_137 : cod 137 = cX11_shareInBin := rfl
theorem D137_0 : decode (cod 137) 0 = .ok (.iconst 0, 1) := by rw [cc_137]; decide +kernel
theorem D137_1 : decode (cod 137) 1 = .ok (.istore 4, 2) := by rw [cc_137]; decide +kernel
theorem D137_3 : decode (cod 137) 3 = .ok (.iconst 0, 1) := by rw [cc_137]; decide +kernel
theorem D137_4 : decode (cod 137) 4 = .ok (.istore 5, 2) := by rw [cc_137]; decide +kernel
theorem D137_6 : decode (cod 137) 6 = .ok (.iload 5, 2) := by rw [cc_137]; decide +kernel
theorem D137_8 : decode (cod 137) 8 = .ok (.bipush 9, 2) := by rw [cc_137]; decide +kernel
theorem D137_10 : decode (cod 137) 10 = .ok (.if_icmp .ge 97, 3) := by rw [cc_137]; decide +kernel
theorem D137_13 : decode (cod 137) 13 = .ok (.aload_n 1, 1) := by rw [cc_137]; decide +kernel
theorem D137_14 : decode (cod 137) 14 = .ok (.getfield 345, 3) := by rw [cc_137]; decide +kernel
theorem D137_17 : decode (cod 137) 17 = .ok (.iload 5, 2) := by rw [cc_137]; decide +kernel
theorem D137_19 : decode (cod 137) 19 = .ok (.invokevirtual 247, 3) := by rw [cc_137]; decide +kernel
theorem D137_22 : decode (cod 137) 22 = .ok (.istore 6, 2) := by rw [cc_137]; decide +kernel
theorem D137_24 : decode (cod 137) 24 = .ok (.iload 6, 2) := by rw [cc_137]; decide +kernel
theorem D137_26 : decode (cod 137) 26 = .ok (.iconst (-1), 1) := by rw [cc_137]; decide +kernel
theorem D137_27 : decode (cod 137) 27 = .ok (.if_icmp .eq 74, 3) := by rw [cc_137]; decide +kernel
theorem D137_30 : decode (cod 137) 30 = .ok (.iload 6, 2) := by rw [cc_137]; decide +kernel
theorem D137_32 : decode (cod 137) 32 = .ok (.aload_n 1, 1) := by rw [cc_137]; decide +kernel
theorem D137_33 : decode (cod 137) 33 = .ok (.getfield 338, 3) := by rw [cc_137]; decide +kernel
theorem D137_36 : decode (cod 137) 36 = .ok (.getfield 266, 3) := by rw [cc_137]; decide +kernel
theorem D137_39 : decode (cod 137) 39 = .ok (.if_icmp .ne 7, 3) := by rw [cc_137]; decide +kernel
theorem D137_42 : decode (cod 137) 42 = .ok (.iconst 1, 1) := by rw [cc_137]; decide +kernel
theorem D137_43 : decode (cod 137) 43 = .ok (.goto 4, 3) := by rw [cc_137]; decide +kernel
theorem D137_46 : decode (cod 137) 46 = .ok (.iconst 0, 1) := by rw [cc_137]; decide +kernel
theorem D137_47 : decode (cod 137) 47 = .ok (.iload_n 3, 1) := by rw [cc_137]; decide +kernel
theorem D137_48 : decode (cod 137) 48 = .ok (.if_icmp .ne 53, 3) := by rw [cc_137]; decide +kernel
theorem D137_51 : decode (cod 137) 51 = .ok (.aload_n 0, 1) := by rw [cc_137]; decide +kernel
theorem D137_52 : decode (cod 137) 52 = .ok (.aload_n 0, 1) := by rw [cc_137]; decide +kernel
theorem D137_53 : decode (cod 137) 53 = .ok (.getfield 61, 3) := by rw [cc_137]; decide +kernel
theorem D137_56 : decode (cod 137) 56 = .ok (.getfield 472, 3) := by rw [cc_137]; decide +kernel
theorem D137_59 : decode (cod 137) 59 = .ok (.aload_n 1, 1) := by rw [cc_137]; decide +kernel
theorem D137_60 : decode (cod 137) 60 = .ok (.getfield 345, 3) := by rw [cc_137]; decide +kernel
theorem D137_63 : decode (cod 137) 63 = .ok (.iload 5, 2) := by rw [cc_137]; decide +kernel
theorem D137_65 : decode (cod 137) 65 = .ok (.invokevirtual 230, 3) := by rw [cc_137]; decide +kernel
theorem D137_68 : decode (cod 137) 68 = .ok (.istore 7, 2) := by rw [cc_137]; decide +kernel
theorem D137_70 : decode (cod 137) 70 = .ok (.iload 4, 2) := by rw [cc_137]; decide +kernel
theorem D137_72 : decode (cod 137) 72 = .ok (.iconst 4, 1) := by rw [cc_137]; decide +kernel
theorem D137_73 : decode (cod 137) 73 = .ok (.iload 7, 2) := by rw [cc_137]; decide +kernel
theorem D137_75 : decode (cod 137) 75 = .ok (.bipush 20, 2) := by rw [cc_137]; decide +kernel
theorem D137_77 : decode (cod 137) 77 = .ok (.idiv, 1) := by rw [cc_137]; decide +kernel
theorem D137_78 : decode (cod 137) 78 = .ok (.invokestatic 253, 3) := by rw [cc_137]; decide +kernel
theorem D137_81 : decode (cod 137) 81 = .ok (.iload_n 2, 1) := by rw [cc_137]; decide +kernel
theorem D137_82 : decode (cod 137) 82 = .ok (.if_icmp .ne 15, 3) := by rw [cc_137]; decide +kernel
theorem D137_85 : decode (cod 137) 85 = .ok (.aload_n 0, 1) := by rw [cc_137]; decide +kernel
theorem D137_86 : decode (cod 137) 86 = .ok (.getfield 61, 3) := by rw [cc_137]; decide +kernel
theorem D137_89 : decode (cod 137) 89 = .ok (.iload 5, 2) := by rw [cc_137]; decide +kernel
theorem D137_91 : decode (cod 137) 91 = .ok (.invokevirtual 187, 3) := by rw [cc_137]; decide +kernel
theorem D137_94 : decode (cod 137) 94 = .ok (.goto 4, 3) := by rw [cc_137]; decide +kernel
theorem D137_97 : decode (cod 137) 97 = .ok (.iconst 0, 1) := by rw [cc_137]; decide +kernel
theorem D137_98 : decode (cod 137) 98 = .ok (.iadd, 1) := by rw [cc_137]; decide +kernel
theorem D137_99 : decode (cod 137) 99 = .ok (.istore 4, 2) := by rw [cc_137]; decide +kernel
theorem D137_101 : decode (cod 137) 101 = .ok (.iinc 5 1, 3) := by rw [cc_137]; decide +kernel
theorem D137_104 : decode (cod 137) 104 = .ok (.goto (-98), 3) := by rw [cc_137]; decide +kernel
theorem D137_107 : decode (cod 137) 107 = .ok (.iload 4, 2) := by rw [cc_137]; decide +kernel
theorem D137_109 : decode (cod 137) 109 = .ok (.ireturn, 1) := by rw [cc_137]; decide +kernel
theorem b137_0 {d : Nat} {i0 i1 : Nat} {x2 x3 : Int} {I L : Nat → Nat → Nat → Int} {t : Nat → Nat} : Res d 137 0 [vr 11 i0, vr 10 i1, vi x2, vi x3, vx, vx, vx, vx] [] (mk I L t) = Res d 137 6 [vr 11 i0, vr 10 i1, vi x2, vi x3, vi 0, vi 0, vx, vx] [] (mk I L t) :=
  Eq.trans (e_iconst (x := 0) D137_0 rfl rfl) <| Eq.trans (e_istore (ls1 := [vr 11 i0, vr 10 i1, vi x2, vi x3, vi 0, vx, vx, vx]) D137_1 rfl (show 4 < 8 by decide) rfl) <| Eq.trans (e_iconst (x := 0) D137_3 rfl rfl) <| e_istore (ls1 := [vr 11 i0, vr 10 i1, vi x2, vi x3, vi 0, vi 0, vx, vx]) D137_4 rfl (show 5 < 8 by decide) rfl
theorem b137_6 {d : Nat} {i0 i1 : Nat} {x2 x3 x4 x5 : Int} {u6 u7 : MV} {I L : Nat → Nat → Nat → Int} {t : Nat → Nat} : Res d 137 6 [vr 11 i0, vr 10 i1, vi x2, vi x3, vi x4, vi x5, u6, u7] [] (mk I L t) = if 9 ≤ x5 then Res d 137 107 [vr 11 i0, vr 10 i1, vi x2, vi x3, vi x4, vi x5, u6, u7] [] (mk I L t) else Res d 137 13 [vr 11 i0, vr 10 i1, vi x2, vi x3, vi x4, vi x5, u6, u7] [] (mk I L t) :=
  Eq.trans (e_iload D137_6 rfl rfl) <| Eq.trans (e_bipush (x := 9) D137_8 rfl rfl) <| e_icge D137_10 rfl rfl
theorem b137_13 {d : Nat} {i0 i1 : Nat} {x2 x3 x4 x5 : Int} {u6 u7 : MV} {I L : Nat → Nat → Nat → Int} {t : Nat → Nat} : Res (d + 1) 137 13 [vr 11 i0, vr 10 i1, vi x2, vi x3, vi x4, vi x5, u6, u7] [] (mk I L t) = (Cal d 26 [vr 4 (106 + i1), vi x5] (mk I L t)).bind fun v => Res (d + 1) 137 22 [vr 11 i0, vr 10 i1, vi x2, vi x3, vi x4, vi x5, u6, u7] (psh 26 v.1 []) v.2 :=
  Eq.trans (e_aload_n D137_13 rfl rfl) <| Eq.trans (e_getP (p := (4, 106 + i1)) D137_14 rfl o_137 f_11_345 (sh_10 _) (by decide) (pp_10_1 _ _)) <| Eq.trans (e_iload D137_17 rfl rfl) <| e_callV D137_19 rfl o_137 m_11_247 (by decide) rfl rfl
theorem b137_22 {d : Nat} {i0 i1 : Nat} {x2 x3 x4 x5 xs0 : Int} {u6 u7 : MV} {I L : Nat → Nat → Nat → Int} {t : Nat → Nat} : Res d 137 22 [vr 11 i0, vr 10 i1, vi x2, vi x3, vi x4, vi x5, u6, u7] [vi xs0] (mk I L t) = if xs0 = -1 then Res d 137 101 [vr 11 i0, vr 10 i1, vi x2, vi x3, vi x4, vi x5, vi xs0, u7] [] (mk I L t) else Res d 137 30 [vr 11 i0, vr 10 i1, vi x2, vi x3, vi x4, vi x5, vi xs0, u7] [] (mk I L t) :=
  Eq.trans (e_istore (ls1 := [vr 11 i0, vr 10 i1, vi x2, vi x3, vi x4, vi x5, vi xs0, u7]) D137_22 rfl (show 6 < 8 by decide) rfl) <| Eq.trans (e_iload D137_24 rfl rfl) <| Eq.trans (e_iconst (x := -1) D137_26 rfl rfl) <| e_iceq D137_27 rfl rfl
theorem b137_30 {d : Nat} {i0 i1 : Nat} {x2 x3 x4 x5 x6 : Int} {u7 : MV} {I L : Nat → Nat → Nat → Int} {t : Nat → Nat} : Res d 137 30 [vr 11 i0, vr 10 i1, vi x2, vi x3, vi x4, vi x5, vi x6, u7] [] (mk I L t) = if ¬ x6 = I 3 (20 + i1) 4 then Res d 137 46 [vr 11 i0, vr 10 i1, vi x2, vi x3, vi x4, vi x5, vi x6, u7] [] (mk I L t) else Res d 137 42 [vr 11 i0, vr 10 i1, vi x2, vi x3, vi x4, vi x5, vi x6, u7] [] (mk I L t) :=
  Eq.trans (e_iload D137_30 rfl rfl) <| Eq.trans (e_aload_n D137_32 rfl rfl) <| Eq.trans (e_getP (p := (3, 20 + i1)) D137_33 rfl o_137 f_11_338 (sh_10 _) (by decide) (pp_10_0 _ _)) <| Eq.trans (e_getI D137_36 rfl o_137 f_11_266 (sh_3 _) (by decide)) <| e_icne D137_39 rfl rfl
theorem b137_42 {d : Nat} {i0 i1 : Nat} {x2 x3 x4 x5 x6 : Int} {u7 : MV} {I L : Nat → Nat → Nat → Int} {t : Nat → Nat} : Res d 137 42 [vr 11 i0, vr 10 i1, vi x2, vi x3, vi x4, vi x5, vi x6, u7] [] (mk I L t) = Res d 137 47 [vr 11 i0, vr 10 i1, vi x2, vi x3, vi x4, vi x5, vi x6, u7] [vi 1] (mk I L t) :=
  Eq.trans (e_iconst (x := 1) D137_42 rfl rfl) <| e_goto (q1 := 47) D137_43 rfl
theorem b137_46 {d : Nat} {i0 i1 : Nat} {x2 x3 x4 x5 x6 : Int} {u7 : MV} {I L : Nat → Nat → Nat → Int} {t : Nat → Nat} : Res d 137 46 [vr 11 i0, vr 10 i1, vi x2, vi x3, vi x4, vi x5, vi x6, u7] [] (mk I L t) = Res d 137 47 [vr 11 i0, vr 10 i1, vi x2, vi x3, vi x4, vi x5, vi x6, u7] [vi 0] (mk I L t) :=
  e_iconst (x := 0) D137_46 rfl rfl
theorem b137_47 {d : Nat} {i0 i1 : Nat} {x2 x3 x4 x5 x6 xs0 : Int} {u7 : MV} {I L : Nat → Nat → Nat → Int} {t : Nat → Nat} : Res d 137 47 [vr 11 i0, vr 10 i1, vi x2, vi x3, vi x4, vi x5, vi x6, u7] [vi xs0] (mk I L t) = if ¬ xs0 = x3 then Res d 137 101 [vr 11 i0, vr 10 i1, vi x2, vi x3, vi x4, vi x5, vi x6, u7] [] (mk I L t) else Res d 137 51 [vr 11 i0, vr 10 i1, vi x2, vi x3, vi x4, vi x5, vi x6, u7] [] (mk I L t) :=
  Eq.trans (e_iload_n D137_47 rfl rfl) <| e_icne D137_48 rfl rfl
theorem b137_51 {d : Nat} {i0 i1 : Nat} {x2 x3 x4 x5 x6 : Int} {u7 : MV} {I L : Nat → Nat → Nat → Int} {t : Nat → Nat} : Res (d + 1) 137 51 [vr 11 i0, vr 10 i1, vi x2, vi x3, vi x4, vi x5, vi x6, u7] [] (mk I L t) = (Cal d 116 [vr 11 i0, vr 3 60, vr 4 (106 + i1), vi x5] (mk I L t)).bind fun v => Res (d + 1) 137 68 [vr 11 i0, vr 10 i1, vi x2, vi x3, vi x4, vi x5, vi x6, u7] (psh 116 v.1 []) v.2 :=
  Eq.trans (e_aload_n D137_51 rfl rfl) <| Eq.trans (e_aload_n D137_52 rfl rfl) <| Eq.trans (e_getP (p := (0, 0)) D137_53 rfl o_137 f_11_61 (sh_11 _) (by decide) (pp_11_9 _ _)) <| Eq.trans (e_getP (p := (3, 60)) D137_56 rfl o_137 f_11_472 (sh_0 _) (by decide) (pp_0_8 _ _)) <| Eq.trans (e_aload_n D137_59 rfl rfl) <| Eq.trans (e_getP (p := (4, 106 + i1)) D137_60 rfl o_137 f_11_345 (sh_10 _) (by decide) (pp_10_1 _ _)) <| Eq.trans (e_iload D137_63 rfl rfl) <| e_callV D137_65 rfl o_137 m_11_230 (by decide) rfl rfl
theorem b137_68 {d : Nat} {i0 i1 : Nat} {x2 x3 x4 x5 x6 xs0 : Int} {u7 : MV} {I L : Nat → Nat → Nat → Int} {t : Nat → Nat} : Res (d + 1) 137 68 [vr 11 i0, vr 10 i1, vi x2, vi x3, vi x4, vi x5, vi x6, u7] [vi xs0] (mk I L t) = if ¬ (if vIdiv xs0 20 < 4 then vIdiv xs0 20 else 4) = x2 then Res (d + 1) 137 97 [vr 11 i0, vr 10 i1, vi x2, vi x3, vi x4, vi x5, vi x6, vi xs0] [vi x4] (mk I L t) else Res (d + 1) 137 85 [vr 11 i0, vr 10 i1, vi x2, vi x3, vi x4, vi x5, vi x6, vi xs0] [vi x4] (mk I L t) :=
  Eq.trans (e_istore (ls1 := [vr 11 i0, vr 10 i1, vi x2, vi x3, vi x4, vi x5, vi x6, vi xs0]) D137_68 rfl (show 7 < 8 by decide) rfl) <| Eq.trans (e_iload D137_70 rfl rfl) <| Eq.trans (e_iconst (x := 4) D137_72 rfl rfl) <| Eq.trans (e_iload D137_73 rfl rfl) <| Eq.trans (e_bipush (x := 20) D137_75 rfl rfl) <| Eq.trans (e_idiv D137_77 rfl (by decide)) <| Eq.trans (e_min (by omega) D137_78 rfl o_137 m_11_253 (by simp [cw])) <| Eq.trans (e_iload_n D137_81 rfl rfl) <| e_icne D137_82 rfl rfl
theorem b137_85 {d : Nat} {i0 i1 : Nat} {x2 x3 x4 x5 x6 x7 xs0 : Int} {I L : Nat → Nat → Nat → Int} {t : Nat → Nat} : Res (d + 1) 137 85 [vr 11 i0, vr 10 i1, vi x2, vi x3, vi x4, vi x5, vi x6, vi x7] [vi xs0] (mk I L t) = (Cal d 1 [vr 0 0, vi x5] (mk I L t)).bind fun v => Res (d + 1) 137 94 [vr 11 i0, vr 10 i1, vi x2, vi x3, vi x4, vi x5, vi x6, vi x7] (psh 1 v.1 [vi xs0]) v.2 :=
  Eq.trans (e_aload_n D137_85 rfl rfl) <| Eq.trans (e_getP (p := (0, 0)) D137_86 rfl o_137 f_11_61 (sh_11 _) (by decide) (pp_11_9 _ _)) <| Eq.trans (e_iload D137_89 rfl rfl) <| e_callV D137_91 rfl o_137 m_11_187 (by decide) rfl rfl
theorem b137_94 {d : Nat} {i0 i1 : Nat} {x2 x3 x4 x5 x6 x7 xs1 xs0 : Int} {I L : Nat → Nat → Nat → Int} {t : Nat → Nat} : Res d 137 94 [vr 11 i0, vr 10 i1, vi x2, vi x3, vi x4, vi x5, vi x6, vi x7] [vi xs1, vi xs0] (mk I L t) = Res d 137 98 [vr 11 i0, vr 10 i1, vi x2, vi x3, vi x4, vi x5, vi x6, vi x7] [vi xs1, vi xs0] (mk I L t) :=
  e_goto (q1 := 98) D137_94 rfl
theorem b137_97 {d : Nat} {i0 i1 : Nat} {x2 x3 x4 x5 x6 x7 xs0 : Int} {I L : Nat → Nat → Nat → Int} {t : Nat → Nat} : Res d 137 97 [vr 11 i0, vr 10 i1, vi x2, vi x3, vi x4, vi x5, vi x6, vi x7] [vi xs0] (mk I L t) = Res d 137 98 [vr 11 i0, vr 10 i1, vi x2, vi x3, vi x4, vi x5, vi x6, vi x7] [vi 0, vi xs0] (mk I L t) :=
  e_iconst (x := 0) D137_97 rfl rfl
theorem b137_98 {d : Nat} {i0 i1 : Nat} {x2 x3 x4 x5 x6 x7 xs1 xs0 : Int} {I L : Nat → Nat → Nat → Int} {t : Nat → Nat} : Res d 137 98 [vr 11 i0, vr 10 i1, vi x2, vi x3, vi x4, vi x5, vi x6, vi x7] [vi xs1, vi xs0] (mk I L t) = Res d 137 101 [vr 11 i0, vr 10 i1, vi x2, vi x3, vi (w32 (xs0 + xs1)), vi x5, vi x6, vi x7] [] (mk I L t) :=
  Eq.trans (e_iadd D137_98 rfl) <| e_istore (ls1 := [vr 11 i0, vr 10 i1, vi x2, vi x3, vi (w32 (xs0 + xs1)), vi x5, vi x6, vi x7]) D137_99 rfl (show 4 < 8 by decide) rfl
theorem b137_101 {d : Nat} {i0 i1 : Nat} {x2 x3 x4 x5 x6 : Int} {u7 : MV} {I L : Nat → Nat → Nat → Int} {t : Nat → Nat} : Res d 137 101 [vr 11 i0, vr 10 i1, vi x2, vi x3, vi x4, vi x5, vi x6, u7] [] (mk I L t) = Res d 137 6 [vr 11 i0, vr 10 i1, vi x2, vi x3, vi x4, vi (w32 (x5 + 1)), vi x6, u7] [] (mk I L t) :=
  Eq.trans (e_iinc (ls1 := [vr 11 i0, vr 10 i1, vi x2, vi x3, vi x4, vi (w32 (x5 + 1)), vi x6, u7]) D137_101 rfl rfl rfl) <| e_goto (q1 := 6) D137_104 rfl
theorem b137_107 {d : Nat} {i0 i1 : Nat} {x2 x3 x4 x5 : Int} {u6 u7 : MV} {I L : Nat → Nat → Nat → Int} {t : Nat → Nat} : Res d 137 107 [vr 11 i0, vr 10 i1, vi x2, vi x3, vi x4, vi x5, u6, u7] [] (mk I L t) = some (vi x4, (mk I L t)) :=
  Eq.trans (e_iload D137_107 rfl rfl) <| e_iret D137_109 rfl
/-! x_allMissed -/
theorem cc_138 : cod 138 = cX11_allMissed := rfl
theorem D138_0 : decode (cod 138) 0 = .ok (.lconst 0, 1) := by rw [cc_138]; decide +kernel
theorem D138_1 : decode (cod 138) 1 = .ok (.lstore_n 3, 1) := by rw [cc_138]; decide +kernel
theorem D138_2 : decode (cod 138) 2 = .ok (.iconst 0, 1) := by rw [cc_138]; decide +kernel
theorem D138_3 : decode (cod 138) 3 = .ok (.istore 5, 2) := by rw [cc_138]; decide +kernel
theorem D138_5 : decode (cod 138) 5 = .ok (.iload 5, 2) := by rw [cc_138]; decide +kernel
theorem D138_7 : decode (cod 138) 7 = .ok (.aload_n 0, 1) := by rw [cc_138]; decide +kernel
theorem D138_8 : decode (cod 138) 8 = .ok (.getfield 335, 3) := by rw [cc_138]; decide +kernel
theorem D138_11 : decode (cod 138) 11 = .ok (.if_icmp .ge 92, 3) := by rw [cc_138]; decide +kernel
theorem D138_14 : decode (cod 138) 14 = .ok (.aload_n 0, 1) := by rw [cc_138]; decide +kernel
theorem D138_15 : decode (cod 138) 15 = .ok (.getfield 47, 3) := by rw [cc_138]; decide +kernel
theorem D138_18 : decode (cod 138) 18 = .ok (.iload 5, 2) := by rw [cc_138]; decide +kernel
theorem D138_20 : decode (cod 138) 20 = .ok (.aaload, 1) := by rw [cc_138]; decide +kernel
theorem D138_21 : decode (cod 138) 21 = .ok (.astore 6, 2) := by rw [cc_138]; decide +kernel
theorem D138_23 : decode (cod 138) 23 = .ok (.aload_n 0, 1) := by rw [cc_138]; decide +kernel
theorem D138_24 : decode (cod 138) 24 = .ok (.getfield 11, 3) := by rw [cc_138]; decide +kernel
theorem D138_27 : decode (cod 138) 27 = .ok (.aload 6, 2) := by rw [cc_138]; decide +kernel
theorem D138_29 : decode (cod 138) 29 = .ok (.getfield 338, 3) := by rw [cc_138]; decide +kernel
theorem D138_32 : decode (cod 138) 32 = .ok (.getfield 266, 3) := by rw [cc_138]; decide +kernel
theorem D138_35 : decode (cod 138) 35 = .ok (.aaload, 1) := by rw [cc_138]; decide +kernel
theorem D138_36 : decode (cod 138) 36 = .ok (.getfield 84, 3) := by rw [cc_138]; decide +kernel
theorem D138_39 : decode (cod 138) 39 = .ok (.aload 6, 2) := by rw [cc_138]; decide +kernel
theorem D138_41 : decode (cod 138) 41 = .ok (.getfield 338, 3) := by rw [cc_138]; decide +kernel
theorem D138_44 : decode (cod 138) 44 = .ok (.getfield 421, 3) := by rw [cc_138]; decide +kernel
theorem D138_47 : decode (cod 138) 47 = .ok (.if_icmp .ne 7, 3) := by rw [cc_138]; decide +kernel
theorem D138_50 : decode (cod 138) 50 = .ok (.iconst 1, 1) := by rw [cc_138]; decide +kernel
theorem D138_51 : decode (cod 138) 51 = .ok (.goto 4, 3) := by rw [cc_138]; decide +kernel
theorem D138_54 : decode (cod 138) 54 = .ok (.iconst 0, 1) := by rw [cc_138]; decide +kernel
theorem D138_55 : decode (cod 138) 55 = .ok (.istore 7, 2) := by rw [cc_138]; decide +kernel
theorem D138_57 : decode (cod 138) 57 = .ok (.iload 7, 2) := by rw [cc_138]; decide +kernel
theorem D138_59 : decode (cod 138) 59 = .ok (.iload_n 2, 1) := by rw [cc_138]; decide +kernel
theorem D138_60 : decode (cod 138) 60 = .ok (.if_icmp .ne 37, 3) := by rw [cc_138]; decide +kernel
theorem D138_63 : decode (cod 138) 63 = .ok (.aload_n 0, 1) := by rw [cc_138]; decide +kernel
theorem D138_64 : decode (cod 138) 64 = .ok (.aload 6, 2) := by rw [cc_138]; decide +kernel
theorem D138_66 : decode (cod 138) 66 = .ok (.aload_n 0, 1) := by rw [cc_138]; decide +kernel
theorem D138_67 : decode (cod 138) 67 = .ok (.getfield 29, 3) := by rw [cc_138]; decide +kernel
theorem D138_70 : decode (cod 138) 70 = .ok (.getfield 349, 3) := by rw [cc_138]; decide +kernel
theorem D138_73 : decode (cod 138) 73 = .ok (.iload_n 1, 1) := by rw [cc_138]; decide +kernel
theorem D138_74 : decode (cod 138) 74 = .ok (.aaload, 1) := by rw [cc_138]; decide +kernel
theorem D138_75 : decode (cod 138) 75 = .ok (.invokevirtual 353, 3) := by rw [cc_138]; decide +kernel
theorem D138_78 : decode (cod 138) 78 = .ok (.lload_n 3, 1) := by rw [cc_138]; decide +kernel
theorem D138_79 : decode (cod 138) 79 = .ok (.aload_n 0, 1) := by rw [cc_138]; decide +kernel
theorem D138_80 : decode (cod 138) 80 = .ok (.aload 6, 2) := by rw [cc_138]; decide +kernel
theorem D138_82 : decode (cod 138) 82 = .ok (.iconst 1, 1) := by rw [cc_138]; decide +kernel
theorem D138_83 : decode (cod 138) 83 = .ok (.invokevirtual 357, 3) := by rw [cc_138]; decide +kernel
theorem D138_86 : decode (cod 138) 86 = .ok (.aload_n 0, 1) := by rw [cc_138]; decide +kernel
theorem D138_87 : decode (cod 138) 87 = .ok (.aload 6, 2) := by rw [cc_138]; decide +kernel
theorem D138_89 : decode (cod 138) 89 = .ok (.iconst 2, 1) := by rw [cc_138]; decide +kernel
theorem D138_90 : decode (cod 138) 90 = .ok (.invokevirtual 357, 3) := by rw [cc_138]; decide +kernel
theorem D138_93 : decode (cod 138) 93 = .ok (.iadd, 1) := by rw [cc_138]; decide +kernel
theorem D138_94 : decode (cod 138) 94 = .ok (.i2l, 1) := by rw [cc_138]; decide +kernel
theorem D138_95 : decode (cod 138) 95 = .ok (.ladd, 1) := by rw [cc_138]; decide +kernel
theorem D138_96 : decode (cod 138) 96 = .ok (.lstore_n 3, 1) := by rw [cc_138]; decide +kernel
theorem D138_97 : decode (cod 138) 97 = .ok (.iinc 5 1, 3) := by rw [cc_138]; decide +kernel
theorem D138_100 : decode (cod 138) 100 = .ok (.goto (-95), 3) := by rw [cc_138]; decide +kernel
theorem D138_103 : decode (cod 138) 103 = .ok (.lload_n 3, 1) := by rw [cc_138]; decide +kernel
theorem D138_104 : decode (cod 138) 104 = .ok (.lreturn, 1) := by rw [cc_138]; decide +kernel
theorem b138_0 {d : Nat} {i0 : Nat} {x1 x2 : Int} {I L : Nat → Nat → Nat → Int} {t : Nat → Nat} : Res d 138 0 [vr 11 i0, vi x1, vi x2, vx, vx, vx, vx, vx] [] (mk I L t) = Res d 138 5 [vr 11 i0, vi x1, vi x2, vl 0, vx, vi 0, vx, vx] [] (mk I L t) :=
  Eq.trans (e_lconst (x := 0) D138_0 rfl rfl) <| Eq.trans (e_lstore_n (ls1 := [vr 11 i0, vi x1, vi x2, vl 0, vx, vx, vx, vx]) D138_1 rfl (show 4 < 8 by decide) rfl) <| Eq.trans (e_iconst (x := 0) D138_2 rfl rfl) <| e_istore (ls1 := [vr 11 i0, vi x1, vi x2, vl 0, vx, vi 0, vx, vx]) D138_3 rfl (show 5 < 8 by decide) rfl
theorem b138_5 {d : Nat} {i0 : Nat} {x1 x2 x3 x5 : Int} {u6 u7 : MV} {I L : Nat → Nat → Nat → Int} {t : Nat → Nat} : Res d 138 5 [vr 11 i0, vi x1, vi x2, vl x3, vx, vi x5, u6, u7] [] (mk I L t) = if I 11 i0 14 ≤ x5 then Res d 138 103 [vr 11 i0, vi x1, vi x2, vl x3, vx, vi x5, u6, u7] [] (mk I L t) else Res d 138 14 [vr 11 i0, vi x1, vi x2, vl x3, vx, vi x5, u6, u7] [] (mk I L t) :=
  Eq.trans (e_iload D138_5 rfl rfl) <| Eq.trans (e_aload_n D138_7 rfl rfl) <| Eq.trans (e_getI D138_8 rfl o_138 f_11_335 (sh_11 _) (by decide)) <| e_icge D138_11 rfl rfl
theorem b138_14 {d : Nat} {i0 : Nat} {x1 x2 x3 x5 : Int} {u6 u7 : MV} {I L : Nat → Nat → Nat → Int} {t : Nat → Nat} (g1 : 0 ≤ x5 ∧ x5 < 40) (g2 : 0 ≤ I 3 (20 + x5.toNat) 4 ∧ I 3 (20 + x5.toNat) 4 < 120) : Res d 138 14 [vr 11 i0, vi x1, vi x2, vl x3, vx, vi x5, u6, u7] [] (mk I L t) = if ¬ I 1 ((I 3 (20 + x5.toNat) 4).toNat) 1 = I 3 (20 + x5.toNat) 3 then Res d 138 54 [vr 11 i0, vi x1, vi x2, vl x3, vx, vi x5, vr 10 x5.toNat, u7] [] (mk I L t) else Res d 138 50 [vr 11 i0, vi x1, vi x2, vl x3, vx, vi x5, vr 10 x5.toNat, u7] [] (mk I L t) :=
  Eq.trans (e_aload_n D138_14 rfl rfl) <| Eq.trans (e_getP (p := (45, i0)) D138_15 rfl o_138 f_11_47 (sh_11 _) (by decide) (pp_11_6 _ _)) <| Eq.trans (e_iload D138_18 rfl rfl) <| Eq.trans (e_aald (p := (10, x5.toNat)) D138_20 rfl (ae_45 _) (aq_45 _) (pa_45 _ _ _) g1) <| Eq.trans (e_astore (ls1 := [vr 11 i0, vi x1, vi x2, vl x3, vx, vi x5, vr 10 x5.toNat, u7]) D138_21 rfl (show 6 < 8 by decide) rfl) <| Eq.trans (e_aload_n D138_23 rfl rfl) <| Eq.trans (e_getP (p := (40, i0)) D138_24 rfl o_138 f_11_11 (sh_11 _) (by decide) (pp_11_0 _ _)) <| Eq.trans (e_aload D138_27 rfl rfl) <| Eq.trans (e_getP (p := (3, 20 + x5.toNat)) D138_29 rfl o_138 f_11_338 (sh_10 _) (by decide) (pp_10_0 _ _)) <| Eq.trans (e_getI D138_32 rfl o_138 f_11_266 (sh_3 _) (by decide)) <| Eq.trans (e_aald (p := (1, (I 3 (20 + x5.toNat) 4).toNat)) D138_35 rfl (ae_40 _) (aq_40 _) (pa_40 _ _ _) g2) <| Eq.trans (e_getI D138_36 rfl o_138 f_11_84 (sh_1 _) (by decide)) <| Eq.trans (e_aload D138_39 rfl rfl) <| Eq.trans (e_getP (p := (3, 20 + x5.toNat)) D138_41 rfl o_138 f_11_338 (sh_10 _) (by decide) (pp_10_0 _ _)) <| Eq.trans (e_getI D138_44 rfl o_138 f_11_421 (sh_3 _) (by decide)) <| e_icne D138_47 rfl rfl
theorem b138_50 {d : Nat} {i0 i6 : Nat} {x1 x2 x3 x5 : Int} {u7 : MV} {I L : Nat → Nat → Nat → Int} {t : Nat → Nat} : Res d 138 50 [vr 11 i0, vi x1, vi x2, vl x3, vx, vi x5, vr 10 i6, u7] [] (mk I L t) = Res d 138 55 [vr 11 i0, vi x1, vi x2, vl x3, vx, vi x5, vr 10 i6, u7] [vi 1] (mk I L t) :=
  Eq.trans (e_iconst (x := 1) D138_50 rfl rfl) <| e_goto (q1 := 55) D138_51 rfl
theorem b138_54 {d : Nat} {i0 i6 : Nat} {x1 x2 x3 x5 : Int} {u7 : MV} {I L : Nat → Nat → Nat → Int} {t : Nat → Nat} : Res d 138 54 [vr 11 i0, vi x1, vi x2, vl x3, vx, vi x5, vr 10 i6, u7] [] (mk I L t) = Res d 138 55 [vr 11 i0, vi x1, vi x2, vl x3, vx, vi x5, vr 10 i6, u7] [vi 0] (mk I L t) :=
  e_iconst (x := 0) D138_54 rfl rfl
theorem b138_55 {d : Nat} {i0 i6 : Nat} {x1 x2 x3 x5 xs0 : Int} {u7 : MV} {I L : Nat → Nat → Nat → Int} {t : Nat → Nat} : Res d 138 55 [vr 11 i0, vi x1, vi x2, vl x3, vx, vi x5, vr 10 i6, u7] [vi xs0] (mk I L t) = if ¬ xs0 = x2 then Res d 138 97 [vr 11 i0, vi x1, vi x2, vl x3, vx, vi x5, vr 10 i6, vi xs0] [] (mk I L t) else Res d 138 63 [vr 11 i0, vi x1, vi x2, vl x3, vx, vi x5, vr 10 i6, vi xs0] [] (mk I L t) :=
  Eq.trans (e_istore (ls1 := [vr 11 i0, vi x1, vi x2, vl x3, vx, vi x5, vr 10 i6, vi xs0]) D138_55 rfl (show 7 < 8 by decide) rfl) <| Eq.trans (e_iload D138_57 rfl rfl) <| Eq.trans (e_iload_n D138_59 rfl rfl) <| e_icne D138_60 rfl rfl
theorem b138_63 {d : Nat} {i0 i6 : Nat} {x1 x2 x3 x5 x7 : Int} {I L : Nat → Nat → Nat → Int} {t : Nat → Nat} (g1 : 0 ≤ x1 ∧ x1 < 4) : Res (d + 1) 138 63 [vr 11 i0, vi x1, vi x2, vl x3, vx, vi x5, vr 10 i6, vi x7] [] (mk I L t) = (Cal d 133 [vr 11 i0, vr 10 i6, vr 9 (t (5 + x1.toNat))] (mk I L t)).bind fun v => Res (d + 1) 138 78 [vr 11 i0, vi x1, vi x2, vl x3, vx, vi x5, vr 10 i6, vi x7] (psh 133 v.1 []) v.2 :=
  Eq.trans (e_aload_n D138_63 rfl rfl) <| Eq.trans (e_aload D138_64 rfl rfl) <| Eq.trans (e_aload_n D138_66 rfl rfl) <| Eq.trans (e_getP (p := (8, 0)) D138_67 rfl o_138 f_11_29 (sh_11 _) (by decide) (pp_11_3 _ _)) <| Eq.trans (e_getP (p := (39, 0)) D138_70 rfl o_138 f_11_349 (sh_8 _) (by decide) (pp_8_2 _)) <| Eq.trans (e_iload_n D138_73 rfl rfl) <| Eq.trans (e_aald (p := (9, t (5 + x1.toNat))) D138_74 rfl (ae_39 _) (aq_39 _) (pa_39 _ (tn4 g1)) g1) <| e_callV D138_75 rfl o_138 m_11_353 (by decide) rfl rfl
theorem b138_78 {d : Nat} {i0 i6 : Nat} {x1 x2 x3 x5 x7 : Int} {I L : Nat → Nat → Nat → Int} {t : Nat → Nat} : Res (d + 1) 138 78 [vr 11 i0, vi x1, vi x2, vl x3, vx, vi x5, vr 10 i6, vi x7] [] (mk I L t) = (Cal d 134 [vr 11 i0, vr 10 i6, vi 1] (mk I L t)).bind fun v => Res (d + 1) 138 86 [vr 11 i0, vi x1, vi x2, vl x3, vx, vi x5, vr 10 i6, vi x7] (psh 134 v.1 [vl x3]) v.2 :=
  Eq.trans (e_lload_n D138_78 rfl rfl) <| Eq.trans (e_aload_n D138_79 rfl rfl) <| Eq.trans (e_aload D138_80 rfl rfl) <| Eq.trans (e_iconst (x := 1) D138_82 rfl rfl) <| e_callV D138_83 rfl o_138 m_11_357 (by decide) rfl rfl
theorem b138_86 {d : Nat} {i0 i6 : Nat} {x1 x2 x3 x5 x7 xs1 xs0 : Int} {I L : Nat → Nat → Nat → Int} {t : Nat → Nat} : Res (d + 1) 138 86 [vr 11 i0, vi x1, vi x2, vl x3, vx, vi x5, vr 10 i6, vi x7] [vi xs1, vl xs0] (mk I L t) = (Cal d 134 [vr 11 i0, vr 10 i6, vi 2] (mk I L t)).bind fun v => Res (d + 1) 138 93 [vr 11 i0, vi x1, vi x2, vl x3, vx, vi x5, vr 10 i6, vi x7] (psh 134 v.1 [vi xs1, vl xs0]) v.2 :=
  Eq.trans (e_aload_n D138_86 rfl rfl) <| Eq.trans (e_aload D138_87 rfl rfl) <| Eq.trans (e_iconst (x := 2) D138_89 rfl rfl) <| e_callV D138_90 rfl o_138 m_11_357 (by decide) rfl rfl
theorem b138_93 {d : Nat} {i0 i6 : Nat} {x1 x2 x3 x5 x7 xs2 xs1 xs0 : Int} {I L : Nat → Nat → Nat → Int} {t : Nat → Nat} : Res d 138 93 [vr 11 i0, vi x1, vi x2, vl x3, vx, vi x5, vr 10 i6, vi x7] [vi xs2, vi xs1, vl xs0] (mk I L t) = Res d 138 97 [vr 11 i0, vi x1, vi x2, vl (w64 (xs0 + (w32 (xs1 + xs2)))), vx, vi x5, vr 10 i6, vi x7] [] (mk I L t) :=
  Eq.trans (e_iadd D138_93 rfl) <| Eq.trans (e_i2l D138_94 rfl) <| Eq.trans (e_ladd D138_95 rfl) <| e_lstore_n (ls1 := [vr 11 i0, vi x1, vi x2, vl (w64 (xs0 + (w32 (xs1 + xs2)))), vx, vi x5, vr 10 i6, vi x7]) D138_96 rfl (show 4 < 8 by decide) rfl
theorem b138_97 {d : Nat} {i0 i6 : Nat} {x1 x2 x3 x5 x7 : Int} {I L : Nat → Nat → Nat → Int} {t : Nat → Nat} : Res d 138 97 [vr 11 i0, vi x1, vi x2, vl x3, vx, vi x5, vr 10 i6, vi x7] [] (mk I L t) = Res d 138 5 [vr 11 i0, vi x1, vi x2, vl x3, vx, vi (w32 (x5 + 1)), vr 10 i6, vi x7] [] (mk I L t) :=
  Eq.trans (e_iinc (ls1 := [vr 11 i0, vi x1, vi x2, vl x3, vx, vi (w32 (x5 + 1)), vr 10 i6, vi x7]) D138_97 rfl rfl rfl) <| e_goto (q1 := 5) D138_100 rfl
theorem b138_103 {d : Nat} {i0 : Nat} {x1 x2 x3 x5 : Int} {u6 u7 : MV} {I L : Nat → Nat → Nat → Int} {t : Nat → Nat} : Res d 138 103 [vr 11 i0, vi x1, vi x2, vl x3, vx, vi x5, u6, u7] [] (mk I L t) = some (vl x3, (mk I L t)) :=
  Eq.trans (e_lload_n D138_103 rfl rfl) <| e_lret D138_104 rfl
/-! x_keepDeed -/
theorem cc_139 : cod 139 = cX11_keepDeed := rfl
theorem D139_0 : decode (cod 139) 0 = .ok (.aload_n 0, 1) := by rw [cc_139]; decide +kernel
theorem D139_1 : decode (cod 139) 1 = .ok (.getfield 496, 3) := by rw [cc_139]; decide +kernel
theorem D139_4 : decode (cod 139) 4 = .ok (.aload_n 0, 1) := by rw [cc_139]; decide +kernel
theorem D139_5 : decode (cod 139) 5 = .ok (.getfield 51, 3) := by rw [cc_139]; decide +kernel
theorem D139_8 : decode (cod 139) 8 = .ok (.arraylength, 1) := by rw [cc_139]; decide +kernel
theorem D139_9 : decode (cod 139) 9 = .ok (.if_icmp .ge 36, 3) := by rw [cc_139]; decide +kernel
theorem D139_12 : decode (cod 139) 12 = .ok (.aload_n 0, 1) := by rw [cc_139]; decide +kernel
theorem D139_13 : decode (cod 139) 13 = .ok (.getfield 51, 3) := by rw [cc_139]; decide +kernel
theorem D139_16 : decode (cod 139) 16 = .ok (.aload_n 0, 1) := by rw [cc_139]; decide +kernel
theorem D139_17 : decode (cod 139) 17 = .ok (.getfield 496, 3) := by rw [cc_139]; decide +kernel
theorem D139_20 : decode (cod 139) 20 = .ok (.iload_n 1, 1) := by rw [cc_139]; decide +kernel
theorem D139_21 : decode (cod 139) 21 = .ok (.iastore, 1) := by rw [cc_139]; decide +kernel
theorem D139_22 : decode (cod 139) 22 = .ok (.aload_n 0, 1) := by rw [cc_139]; decide +kernel
theorem D139_23 : decode (cod 139) 23 = .ok (.getfield 55, 3) := by rw [cc_139]; decide +kernel
theorem D139_26 : decode (cod 139) 26 = .ok (.aload_n 0, 1) := by rw [cc_139]; decide +kernel
theorem D139_27 : decode (cod 139) 27 = .ok (.getfield 496, 3) := by rw [cc_139]; decide +kernel
theorem D139_30 : decode (cod 139) 30 = .ok (.aload_n 0, 1) := by rw [cc_139]; decide +kernel
theorem D139_31 : decode (cod 139) 31 = .ok (.getfield 137, 3) := by rw [cc_139]; decide +kernel
theorem D139_34 : decode (cod 139) 34 = .ok (.iastore, 1) := by rw [cc_139]; decide +kernel
theorem D139_35 : decode (cod 139) 35 = .ok (.aload_n 0, 1) := by rw [cc_139]; decide +kernel
theorem D139_36 : decode (cod 139) 36 = .ok (.dup, 1) := by rw [cc_139]; decide +kernel
theorem D139_37 : decode (cod 139) 37 = .ok (.getfield 496, 3) := by rw [cc_139]; decide +kernel
theorem D139_40 : decode (cod 139) 40 = .ok (.iconst 1, 1) := by rw [cc_139]; decide +kernel
theorem D139_41 : decode (cod 139) 41 = .ok (.iadd, 1) := by rw [cc_139]; decide +kernel
theorem D139_42 : decode (cod 139) 42 = .ok (.putfield 496, 3) := by rw [cc_139]; decide +kernel
theorem D139_45 : decode (cod 139) 45 = .ok (.return_, 1) := by rw [cc_139]; decide +kernel
theorem b139_0 {d : Nat} {i0 : Nat} {x1 : Int} {I L : Nat → Nat → Nat → Int} {t : Nat → Nat} : Res d 139 0 [vr 11 i0, vi x1] [] (mk I L t) = if 220 ≤ I 11 i0 15 then Res d 139 45 [vr 11 i0, vi x1] [] (mk I L t) else Res d 139 12 [vr 11 i0, vi x1] [] (mk I L t) :=
  Eq.trans (e_aload_n D139_0 rfl rfl) <| Eq.trans (e_getI D139_1 rfl o_139 f_11_496 (sh_11 _) (by decide)) <| Eq.trans (e_aload_n D139_4 rfl rfl) <| Eq.trans (e_getP (p := (46, i0)) D139_5 rfl o_139 f_11_51 (sh_11 _) (by decide) (pp_11_7 _ _)) <| Eq.trans (e_alen (n := 220) D139_8 rfl rfl rfl rfl (by decide)) <| e_icge D139_9 rfl rfl
theorem b139_12 {d : Nat} {i0 : Nat} {x1 : Int} {I L : Nat → Nat → Nat → Int} {t : Nat → Nat} (g1 : 0 ≤ I 11 i0 15 ∧ I 11 i0 15 < 220) (g2 : 0 ≤ (up3 I 46 i0 (I 11 i0 15).toNat x1) 11 i0 15 ∧ (up3 I 46 i0 (I 11 i0 15).toNat x1) 11 i0 15 < 220) : Res d 139 12 [vr 11 i0, vi x1] [] (mk I L t) = Res d 139 45 [vr 11 i0, vi x1] [] (mk (up3 (up3 (up3 I 46 i0 (I 11 i0 15).toNat x1) 47 i0 ((up3 I 46 i0 (I 11 i0 15).toNat x1) 11 i0 15).toNat ((up3 I 46 i0 (I 11 i0 15).toNat x1) 11 i0 16)) 11 i0 15 (w32 (((up3 (up3 I 46 i0 (I 11 i0 15).toNat x1) 47 i0 ((up3 I 46 i0 (I 11 i0 15).toNat x1) 11 i0 15).toNat ((up3 I 46 i0 (I 11 i0 15).toNat x1) 11 i0 16)) 11 i0 15) + 1))) L t) :=
  Eq.trans (e_aload_n D139_12 rfl rfl) <| Eq.trans (e_getP (p := (46, i0)) D139_13 rfl o_139 f_11_51 (sh_11 _) (by decide) (pp_11_7 _ _)) <| Eq.trans (e_aload_n D139_16 rfl rfl) <| Eq.trans (e_getI D139_17 rfl o_139 f_11_496 (sh_11 _) (by decide)) <| Eq.trans (e_iload_n D139_20 rfl rfl) <| Eq.trans (e_iast D139_21 rfl (al_46 _) rfl g1) <| Eq.trans (e_aload_n D139_22 rfl rfl) <| Eq.trans (e_getP (p := (47, i0)) D139_23 rfl o_139 f_11_55 (sh_11 _) (by decide) (pp_11_8 _ _)) <| Eq.trans (e_aload_n D139_26 rfl rfl) <| Eq.trans (e_getI D139_27 rfl o_139 f_11_496 (sh_11 _) (by decide)) <| Eq.trans (e_aload_n D139_30 rfl rfl) <| Eq.trans (e_getI D139_31 rfl o_139 f_11_137 (sh_11 _) (by decide)) <| Eq.trans (e_iast D139_34 rfl (al_47 _) rfl g2) <| Eq.trans (e_aload_n D139_35 rfl rfl) <| Eq.trans (e_dup D139_36 rfl) <| Eq.trans (e_getI D139_37 rfl o_139 f_11_496 (sh_11 _) (by decide)) <| Eq.trans (e_iconst (x := 1) D139_40 rfl rfl) <| Eq.trans (e_iadd D139_41 rfl) <| e_putI D139_42 rfl o_139 f_11_496 (sh_11 _) rfl (by decide) (Or.inl (by decide))
theorem b139_45 {d : Nat} {i0 : Nat} {x1 : Int} {I L : Nat → Nat → Nat → Int} {t : Nat → Nat} : Res d 139 45 [vr 11 i0, vi x1] [] (mk I L t) = some (vx, (mk I L t)) :=
  e_vret D139_45 rfl
/-! x_whoseDeed -/
theorem cc_140 : cod 140 = cX11_whoseDeed := rfl
theorem D140_0 : decode (cod 140) 0 = .ok (.aload_n 0, 1) := by rw [cc_140]; decide +kernel
theorem D140_1 : decode (cod 140) 1 = .ok (.iload_n 1, 1) := by rw [cc_140]; decide +kernel
theorem D140_2 : decode (cod 140) 2 = .ok (.invokevirtual 244, 3) := by rw [cc_140]; decide +kernel
theorem D140_5 : decode (cod 140) 5 = .ok (.ifCond .eq 13, 3) := by rw [cc_140]; decide +kernel
theorem D140_8 : decode (cod 140) 8 = .ok (.aload_n 0, 1) := by rw [cc_140]; decide +kernel
theorem D140_9 : decode (cod 140) 9 = .ok (.getfield 41, 3) := by rw [cc_140]; decide +kernel
theorem D140_12 : decode (cod 140) 12 = .ok (.iload_n 1, 1) := by rw [cc_140]; decide +kernel
theorem D140_13 : decode (cod 140) 13 = .ok (.aaload, 1) := by rw [cc_140]; decide +kernel
theorem D140_14 : decode (cod 140) 14 = .ok (.getfield 197, 3) := by rw [cc_140]; decide +kernel
theorem D140_17 : decode (cod 140) 17 = .ok (.ireturn, 1) := by rw [cc_140]; decide +kernel
theorem D140_18 : decode (cod 140) 18 = .ok (.aload_n 0, 1) := by rw [cc_140]; decide +kernel
theorem D140_19 : decode (cod 140) 19 = .ok (.iconst (-1), 1) := by rw [cc_140]; decide +kernel
theorem D140_20 : decode (cod 140) 20 = .ok (.iload_n 1, 1) := by rw [cc_140]; decide +kernel
theorem D140_21 : decode (cod 140) 21 = .ok (.isub, 1) := by rw [cc_140]; decide +kernel
theorem D140_22 : decode (cod 140) 22 = .ok (.invokevirtual 94, 3) := by rw [cc_140]; decide +kernel
theorem D140_25 : decode (cod 140) 25 = .ok (.ifCond .eq 17, 3) := by rw [cc_140]; decide +kernel
theorem D140_28 : decode (cod 140) 28 = .ok (.aload_n 0, 1) := by rw [cc_140]; decide +kernel
theorem D140_29 : decode (cod 140) 29 = .ok (.getfield 11, 3) := by rw [cc_140]; decide +kernel
theorem D140_32 : decode (cod 140) 32 = .ok (.iconst (-1), 1) := by rw [cc_140]; decide +kernel
theorem D140_33 : decode (cod 140) 33 = .ok (.iload_n 1, 1) := by rw [cc_140]; decide +kernel
theorem D140_34 : decode (cod 140) 34 = .ok (.isub, 1) := by rw [cc_140]; decide +kernel
theorem D140_35 : decode (cod 140) 35 = .ok (.aaload, 1) := by rw [cc_140]; decide +kernel
theorem D140_36 : decode (cod 140) 36 = .ok (.getfield 87, 3) := by rw [cc_140]; decide +kernel
theorem D140_39 : decode (cod 140) 39 = .ok (.goto 4, 3) := by rw [cc_140]; decide +kernel
theorem D140_42 : decode (cod 140) 42 = .ok (.iconst (-1), 1) := by rw [cc_140]; decide +kernel
theorem D140_43 : decode (cod 140) 43 = .ok (.ireturn, 1) := by rw [cc_140]; decide +kernel
theorem b140_0 {d : Nat} {i0 : Nat} {x1 : Int} {I L : Nat → Nat → Nat → Int} {t : Nat → Nat} : Res (d + 1) 140 0 [vr 11 i0, vi x1] [] (mk I L t) = (Cal d 107 [vr 11 i0, vi x1] (mk I L t)).bind fun v => Res (d + 1) 140 5 [vr 11 i0, vi x1] (psh 107 v.1 []) v.2 :=
  Eq.trans (e_aload_n D140_0 rfl rfl) <| Eq.trans (e_iload_n D140_1 rfl rfl) <| e_callV D140_2 rfl o_140 m_11_244 (by decide) rfl rfl
theorem b140_5 {d : Nat} {i0 : Nat} {x1 xs0 : Int} {I L : Nat → Nat → Nat → Int} {t : Nat → Nat} : Res d 140 5 [vr 11 i0, vi x1] [vi xs0] (mk I L t) = if xs0 = 0 then Res d 140 18 [vr 11 i0, vi x1] [] (mk I L t) else Res d 140 8 [vr 11 i0, vi x1] [] (mk I L t) :=
  e_ifeq D140_5 rfl rfl
theorem b140_8 {d : Nat} {i0 : Nat} {x1 : Int} {I L : Nat → Nat → Nat → Int} {t : Nat → Nat} (g1 : 0 ≤ x1 ∧ x1 < 100) : Res d 140 8 [vr 11 i0, vi x1] [] (mk I L t) = some (vi (I 6 x1.toNat 1), (mk I L t)) :=
  Eq.trans (e_aload_n D140_8 rfl rfl) <| Eq.trans (e_getP (p := (44, i0)) D140_9 rfl o_140 f_11_41 (sh_11 _) (by decide) (pp_11_5 _ _)) <| Eq.trans (e_iload_n D140_12 rfl rfl) <| Eq.trans (e_aald (p := (6, x1.toNat)) D140_13 rfl (ae_44 _) (aq_44 _) (pa_44 _ _ _) g1) <| Eq.trans (e_getI D140_14 rfl o_140 f_11_197 (sh_6 _) (by decide)) <| e_iret D140_17 rfl
theorem b140_18 {d : Nat} {i0 : Nat} {x1 : Int} {I L : Nat → Nat → Nat → Int} {t : Nat → Nat} : Res (d + 1) 140 18 [vr 11 i0, vi x1] [] (mk I L t) = (Cal d 104 [vr 11 i0, vi (w32 ((-1) - x1))] (mk I L t)).bind fun v => Res (d + 1) 140 25 [vr 11 i0, vi x1] (psh 104 v.1 []) v.2 :=
  Eq.trans (e_aload_n D140_18 rfl rfl) <| Eq.trans (e_iconst (x := -1) D140_19 rfl rfl) <| Eq.trans (e_iload_n D140_20 rfl rfl) <| Eq.trans (e_isub D140_21 rfl) <| e_callV D140_22 rfl o_140 m_11_94 (by decide) rfl rfl
theorem b140_25 {d : Nat} {i0 : Nat} {x1 xs0 : Int} {I L : Nat → Nat → Nat → Int} {t : Nat → Nat} : Res d 140 25 [vr 11 i0, vi x1] [vi xs0] (mk I L t) = if xs0 = 0 then Res d 140 42 [vr 11 i0, vi x1] [] (mk I L t) else Res d 140 28 [vr 11 i0, vi x1] [] (mk I L t) :=
  e_ifeq D140_25 rfl rfl
theorem b140_28 {d : Nat} {i0 : Nat} {x1 : Int} {I L : Nat → Nat → Nat → Int} {t : Nat → Nat} (g1 : 0 ≤ w32 ((-1) - x1) ∧ w32 ((-1) - x1) < 120) : Res d 140 28 [vr 11 i0, vi x1] [] (mk I L t) = Res d 140 43 [vr 11 i0, vi x1] [vi (I 1 ((w32 ((-1) - x1)).toNat) 2)] (mk I L t) :=
  Eq.trans (e_aload_n D140_28 rfl rfl) <| Eq.trans (e_getP (p := (40, i0)) D140_29 rfl o_140 f_11_11 (sh_11 _) (by decide) (pp_11_0 _ _)) <| Eq.trans (e_iconst (x := -1) D140_32 rfl rfl) <| Eq.trans (e_iload_n D140_33 rfl rfl) <| Eq.trans (e_isub D140_34 rfl) <| Eq.trans (e_aald (p := (1, (w32 ((-1) - x1)).toNat)) D140_35 rfl (ae_40 _) (aq_40 _) (pa_40 _ _ _) g1) <| Eq.trans (e_getI D140_36 rfl o_140 f_11_87 (sh_1 _) (by decide)) <| e_goto (q1 := 43) D140_39 rfl
theorem b140_42 {d : Nat} {i0 : Nat} {x1 : Int} {I L : Nat → Nat → Nat → Int} {t : Nat → Nat} : Res d 140 42 [vr 11 i0, vi x1] [] (mk I L t) = Res d 140 43 [vr 11 i0, vi x1] [vi (-1)] (mk I L t) :=
  e_iconst (x := -1) D140_42 rfl rfl
theorem b140_43 {d : Nat} {i0 : Nat} {x1 xs0 : Int} {I L : Nat → Nat → Nat → Int} {t : Nat → Nat} : Res d 140 43 [vr 11 i0, vi x1] [vi xs0] (mk I L t) = some (vi xs0, (mk I L t)) :=
  e_iret D140_43 rfl
/-! x_replay -/
theorem cc_141 : cod 141 = cX11_replay := rfl
theorem D141_0 : decode (cod 141) 0 = .ok (.aload_n 0, 1) := by rw [cc_141]; decide +kernel
theorem D141_1 : decode (cod 141) 1 = .ok (.getfield 41, 3) := by rw [cc_141]; decide +kernel
theorem D141_4 : decode (cod 141) 4 = .ok (.iload_n 1, 1) := by rw [cc_141]; decide +kernel
theorem D141_5 : decode (cod 141) 5 = .ok (.aaload, 1) := by rw [cc_141]; decide +kernel
theorem D141_6 : decode (cod 141) 6 = .ok (.astore_n 3, 1) := by rw [cc_141]; decide +kernel
theorem D141_7 : decode (cod 141) 7 = .ok (.aload_n 0, 1) := by rw [cc_141]; decide +kernel
theorem D141_8 : decode (cod 141) 8 = .ok (.getfield 61, 3) := by rw [cc_141]; decide +kernel
theorem D141_11 : decode (cod 141) 11 = .ok (.getfield 472, 3) := by rw [cc_141]; decide +kernel
theorem D141_14 : decode (cod 141) 14 = .ok (.astore 4, 2) := by rw [cc_141]; decide +kernel
theorem D141_16 : decode (cod 141) 16 = .ok (.aload_n 0, 1) := by rw [cc_141]; decide +kernel
theorem D141_17 : decode (cod 141) 17 = .ok (.getfield 35, 3) := by rw [cc_141]; decide +kernel
theorem D141_20 : decode (cod 141) 20 = .ok (.aload_n 3, 1) := by rw [cc_141]; decide +kernel
theorem D141_21 : decode (cod 141) 21 = .ok (.getfield 197, 3) := by rw [cc_141]; decide +kernel
theorem D141_24 : decode (cod 141) 24 = .ok (.aaload, 1) := by rw [cc_141]; decide +kernel
theorem D141_25 : decode (cod 141) 25 = .ok (.astore 5, 2) := by rw [cc_141]; decide +kernel
theorem D141_27 : decode (cod 141) 27 = .ok (.aload 4, 2) := by rw [cc_141]; decide +kernel
theorem D141_29 : decode (cod 141) 29 = .ok (.aload 5, 2) := by rw [cc_141]; decide +kernel
theorem D141_31 : decode (cod 141) 31 = .ok (.invokevirtual 473, 3) := by rw [cc_141]; decide +kernel
theorem D141_34 : decode (cod 141) 34 = .ok (.aload 4, 2) := by rw [cc_141]; decide +kernel
theorem D141_36 : decode (cod 141) 36 = .ok (.aload 5, 2) := by rw [cc_141]; decide +kernel
theorem D141_38 : decode (cod 141) 38 = .ok (.getfield 250, 3) := by rw [cc_141]; decide +kernel
theorem D141_41 : decode (cod 141) 41 = .ok (.putfield 250, 3) := by rw [cc_141]; decide +kernel
theorem D141_44 : decode (cod 141) 44 = .ok (.aload_n 0, 1) := by rw [cc_141]; decide +kernel
theorem D141_45 : decode (cod 141) 45 = .ok (.aload 4, 2) := by rw [cc_141]; decide +kernel
theorem D141_47 : decode (cod 141) 47 = .ok (.aload 5, 2) := by rw [cc_141]; decide +kernel
theorem D141_49 : decode (cod 141) 49 = .ok (.getfield 447, 3) := by rw [cc_141]; decide +kernel
theorem D141_52 : decode (cod 141) 52 = .ok (.invokevirtual 162, 3) := by rw [cc_141]; decide +kernel
theorem D141_55 : decode (cod 141) 55 = .ok (.iconst 0, 1) := by rw [cc_141]; decide +kernel
theorem D141_56 : decode (cod 141) 56 = .ok (.istore 6, 2) := by rw [cc_141]; decide +kernel
theorem D141_58 : decode (cod 141) 58 = .ok (.iload 6, 2) := by rw [cc_141]; decide +kernel
theorem D141_60 : decode (cod 141) 60 = .ok (.aload_n 0, 1) := by rw [cc_141]; decide +kernel
theorem D141_61 : decode (cod 141) 61 = .ok (.getfield 496, 3) := by rw [cc_141]; decide +kernel
theorem D141_64 : decode (cod 141) 64 = .ok (.if_icmp .ge 74, 3) := by rw [cc_141]; decide +kernel
theorem D141_67 : decode (cod 141) 67 = .ok (.aload_n 0, 1) := by rw [cc_141]; decide +kernel
theorem D141_68 : decode (cod 141) 68 = .ok (.getfield 51, 3) := by rw [cc_141]; decide +kernel
theorem D141_71 : decode (cod 141) 71 = .ok (.iload 6, 2) := by rw [cc_141]; decide +kernel
theorem D141_73 : decode (cod 141) 73 = .ok (.iaload, 1) := by rw [cc_141]; decide +kernel
theorem D141_74 : decode (cod 141) 74 = .ok (.istore 7, 2) := by rw [cc_141]; decide +kernel
theorem D141_76 : decode (cod 141) 76 = .ok (.aload_n 0, 1) := by rw [cc_141]; decide +kernel
theorem D141_77 : decode (cod 141) 77 = .ok (.iload 7, 2) := by rw [cc_141]; decide +kernel
theorem D141_79 : decode (cod 141) 79 = .ok (.invokevirtual 499, 3) := by rw [cc_141]; decide +kernel
theorem D141_82 : decode (cod 141) 82 = .ok (.aload_n 3, 1) := by rw [cc_141]; decide +kernel
theorem D141_83 : decode (cod 141) 83 = .ok (.getfield 197, 3) := by rw [cc_141]; decide +kernel
theorem D141_86 : decode (cod 141) 86 = .ok (.if_icmp .ne 46, 3) := by rw [cc_141]; decide +kernel
theorem D141_89 : decode (cod 141) 89 = .ok (.aload_n 0, 1) := by rw [cc_141]; decide +kernel
theorem D141_90 : decode (cod 141) 90 = .ok (.aload 4, 2) := by rw [cc_141]; decide +kernel
theorem D141_92 : decode (cod 141) 92 = .ok (.aload_n 0, 1) := by rw [cc_141]; decide +kernel
theorem D141_93 : decode (cod 141) 93 = .ok (.getfield 55, 3) := by rw [cc_141]; decide +kernel
theorem D141_96 : decode (cod 141) 96 = .ok (.iload 6, 2) := by rw [cc_141]; decide +kernel
theorem D141_98 : decode (cod 141) 98 = .ok (.iaload, 1) := by rw [cc_141]; decide +kernel
theorem D141_99 : decode (cod 141) 99 = .ok (.aload 5, 2) := by rw [cc_141]; decide +kernel
theorem D141_101 : decode (cod 141) 101 = .ok (.getfield 155, 3) := by rw [cc_141]; decide +kernel
theorem D141_104 : decode (cod 141) 104 = .ok (.isub, 1) := by rw [cc_141]; decide +kernel
theorem D141_105 : decode (cod 141) 105 = .ok (.aload 4, 2) := by rw [cc_141]; decide +kernel
theorem D141_107 : decode (cod 141) 107 = .ok (.getfield 414, 3) := by rw [cc_141]; decide +kernel
theorem D141_110 : decode (cod 141) 110 = .ok (.isub, 1) := by rw [cc_141]; decide +kernel
theorem D141_111 : decode (cod 141) 111 = .ok (.invokevirtual 143, 3) := by rw [cc_141]; decide +kernel
theorem D141_114 : decode (cod 141) 114 = .ok (.iload 7, 2) := by rw [cc_141]; decide +kernel
theorem D141_116 : decode (cod 141) 116 = .ok (.iload_n 1, 1) := by rw [cc_141]; decide +kernel
theorem D141_117 : decode (cod 141) 117 = .ok (.if_icmp .ne 6, 3) := by rw [cc_141]; decide +kernel
theorem D141_120 : decode (cod 141) 120 = .ok (.goto 18, 3) := by rw [cc_141]; decide +kernel
theorem D141_123 : decode (cod 141) 123 = .ok (.aload_n 0, 1) := by rw [cc_141]; decide +kernel
theorem D141_124 : decode (cod 141) 124 = .ok (.aload 4, 2) := by rw [cc_141]; decide +kernel
theorem D141_126 : decode (cod 141) 126 = .ok (.iload 7, 2) := by rw [cc_141]; decide +kernel
theorem D141_128 : decode (cod 141) 128 = .ok (.iload_n 2, 1) := by rw [cc_141]; decide +kernel
theorem D141_129 : decode (cod 141) 129 = .ok (.invokevirtual 502, 3) := by rw [cc_141]; decide +kernel
theorem D141_132 : decode (cod 141) 132 = .ok (.iinc 6 1, 3) := by rw [cc_141]; decide +kernel
theorem D141_135 : decode (cod 141) 135 = .ok (.goto (-77), 3) := by rw [cc_141]; decide +kernel
theorem D141_138 : decode (cod 141) 138 = .ok (.aload_n 0, 1) := by rw [cc_141]; decide +kernel
theorem D141_139 : decode (cod 141) 139 = .ok (.aload 4, 2) := by rw [cc_141]; decide +kernel
theorem D141_141 : decode (cod 141) 141 = .ok (.aload_n 3, 1) := by rw [cc_141]; decide +kernel
theorem D141_142 : decode (cod 141) 142 = .ok (.invokevirtual 223, 3) := by rw [cc_141]; decide +kernel
theorem D141_145 : decode (cod 141) 145 = .ok (.ireturn, 1) := by rw [cc_141]; decide +kernel
theorem b141_0 {d : Nat} {i0 : Nat} {x1 x2 : Int} {I L : Nat → Nat → Nat → Int} {t : Nat → Nat} (g1 : 0 ≤ x1 ∧ x1 < 100) (g2 : 0 ≤ I 6 x1.toNat 1 ∧ I 6 x1.toNat 1 < 20) : Res (d + 1) 141 0 [vr 11 i0, vi x1, vi x2, vx, vx, vx, vx, vx] [] (mk I L t) = (Cal d 22 [vr 3 60, vr 3 ((I 6 x1.toNat 1).toNat)] (mk I L t)).bind fun v => Res (d + 1) 141 34 [vr 11 i0, vi x1, vi x2, vr 6 x1.toNat, vr 3 60, vr 3 ((I 6 x1.toNat 1).toNat), vx, vx] (psh 22 v.1 []) v.2 :=
  Eq.trans (e_aload_n D141_0 rfl rfl) <| Eq.trans (e_getP (p := (44, i0)) D141_1 rfl o_141 f_11_41 (sh_11 _) (by decide) (pp_11_5 _ _)) <| Eq.trans (e_iload_n D141_4 rfl rfl) <| Eq.trans (e_aald (p := (6, x1.toNat)) D141_5 rfl (ae_44 _) (aq_44 _) (pa_44 _ _ _) g1) <| Eq.trans (e_astore_n (ls1 := [vr 11 i0, vi x1, vi x2, vr 6 x1.toNat, vx, vx, vx, vx]) D141_6 rfl (show 3 < 8 by decide) rfl) <| Eq.trans (e_aload_n D141_7 rfl rfl) <| Eq.trans (e_getP (p := (0, 0)) D141_8 rfl o_141 f_11_61 (sh_11 _) (by decide) (pp_11_9 _ _)) <| Eq.trans (e_getP (p := (3, 60)) D141_11 rfl o_141 f_11_472 (sh_0 _) (by decide) (pp_0_8 _ _)) <| Eq.trans (e_astore (ls1 := [vr 11 i0, vi x1, vi x2, vr 6 x1.toNat, vr 3 60, vx, vx, vx]) D141_14 rfl (show 4 < 8 by decide) rfl) <| Eq.trans (e_aload_n D141_16 rfl rfl) <| Eq.trans (e_getP (p := (43, i0)) D141_17 rfl o_141 f_11_35 (sh_11 _) (by decide) (pp_11_4 _ _)) <| Eq.trans (e_aload_n D141_20 rfl rfl) <| Eq.trans (e_getI D141_21 rfl o_141 f_11_197 (sh_6 _) (by decide)) <| Eq.trans (e_aald (p := (3, (I 6 x1.toNat 1).toNat)) D141_24 rfl (ae_43 _) (aq_43 _) (pa_43 _ _ _) g2) <| Eq.trans (e_astore (ls1 := [vr 11 i0, vi x1, vi x2, vr 6 x1.toNat, vr 3 60, vr 3 ((I 6 x1.toNat 1).toNat), vx, vx]) D141_25 rfl (show 5 < 8 by decide) rfl) <| Eq.trans (e_aload D141_27 rfl rfl) <| Eq.trans (e_aload D141_29 rfl rfl) <| e_callV D141_31 rfl o_141 m_11_473 (by decide) rfl rfl
theorem b141_34 {d : Nat} {i0 i3 i4 i5 : Nat} {x1 x2 : Int} {I L : Nat → Nat → Nat → Int} {t : Nat → Nat} : Res (d + 1) 141 34 [vr 11 i0, vi x1, vi x2, vr 6 i3, vr 3 i4, vr 3 i5, vx, vx] [] (mk I L t) = (Cal d 119 [vr 11 i0, vr 3 i4, vr 29 i5] (mk (up3 I 3 i4 8 (I 3 i5 8)) L t)).bind fun v => Res (d + 1) 141 55 [vr 11 i0, vi x1, vi x2, vr 6 i3, vr 3 i4, vr 3 i5, vx, vx] (psh 119 v.1 []) v.2 :=
  Eq.trans (e_aload D141_34 rfl rfl) <| Eq.trans (e_aload D141_36 rfl rfl) <| Eq.trans (e_getI D141_38 rfl o_141 f_11_250 (sh_3 _) (by decide)) <| Eq.trans (e_putI D141_41 rfl o_141 f_11_250 (sh_3 _) rfl (by decide) (Or.inl (by decide))) <| Eq.trans (e_aload_n D141_44 rfl rfl) <| Eq.trans (e_aload D141_45 rfl rfl) <| Eq.trans (e_aload D141_47 rfl rfl) <| Eq.trans (e_getP (p := (29, i5)) D141_49 rfl o_141 f_11_447 (sh_3 _) (by decide) (pp_3_1 _ _)) <| e_callV D141_52 rfl o_141 m_11_162 (by decide) rfl rfl
theorem b141_55 {d : Nat} {i0 i3 i4 i5 : Nat} {x1 x2 : Int} {I L : Nat → Nat → Nat → Int} {t : Nat → Nat} : Res d 141 55 [vr 11 i0, vi x1, vi x2, vr 6 i3, vr 3 i4, vr 3 i5, vx, vx] [] (mk I L t) = Res d 141 58 [vr 11 i0, vi x1, vi x2, vr 6 i3, vr 3 i4, vr 3 i5, vi 0, vx] [] (mk I L t) :=
  Eq.trans (e_iconst (x := 0) D141_55 rfl rfl) <| e_istore (ls1 := [vr 11 i0, vi x1, vi x2, vr 6 i3, vr 3 i4, vr 3 i5, vi 0, vx]) D141_56 rfl (show 6 < 8 by decide) rfl
theorem b141_58 {d : Nat} {i0 i3 i4 i5 : Nat} {x1 x2 x6 : Int} {u7 : MV} {I L : Nat → Nat → Nat → Int} {t : Nat → Nat} : Res d 141 58 [vr 11 i0, vi x1, vi x2, vr 6 i3, vr 3 i4, vr 3 i5, vi x6, u7] [] (mk I L t) = if I 11 i0 15 ≤ x6 then Res d 141 138 [vr 11 i0, vi x1, vi x2, vr 6 i3, vr 3 i4, vr 3 i5, vi x6, u7] [] (mk I L t) else Res d 141 67 [vr 11 i0, vi x1, vi x2, vr 6 i3, vr 3 i4, vr 3 i5, vi x6, u7] [] (mk I L t) :=
  Eq.trans (e_iload D141_58 rfl rfl) <| Eq.trans (e_aload_n D141_60 rfl rfl) <| Eq.trans (e_getI D141_61 rfl o_141 f_11_496 (sh_11 _) (by decide)) <| e_icge D141_64 rfl rfl
theorem b141_67 {d : Nat} {i0 i3 i4 i5 : Nat} {x1 x2 x6 : Int} {u7 : MV} {I L : Nat → Nat → Nat → Int} {t : Nat → Nat} (g1 : 0 ≤ x6 ∧ x6 < 220) : Res (d + 1) 141 67 [vr 11 i0, vi x1, vi x2, vr 6 i3, vr 3 i4, vr 3 i5, vi x6, u7] [] (mk I L t) = (Cal d 140 [vr 11 i0, vi (I 46 i0 x6.toNat)] (mk I L t)).bind fun v => Res (d + 1) 141 82 [vr 11 i0, vi x1, vi x2, vr 6 i3, vr 3 i4, vr 3 i5, vi x6, vi (I 46 i0 x6.toNat)] (psh 140 v.1 []) v.2 :=
  Eq.trans (e_aload_n D141_67 rfl rfl) <| Eq.trans (e_getP (p := (46, i0)) D141_68 rfl o_141 f_11_51 (sh_11 _) (by decide) (pp_11_7 _ _)) <| Eq.trans (e_iload D141_71 rfl rfl) <| Eq.trans (e_iald D141_73 rfl (al_46 _) g1) <| Eq.trans (e_istore (ls1 := [vr 11 i0, vi x1, vi x2, vr 6 i3, vr 3 i4, vr 3 i5, vi x6, vi (I 46 i0 x6.toNat)]) D141_74 rfl (show 7 < 8 by decide) rfl) <| Eq.trans (e_aload_n D141_76 rfl rfl) <| Eq.trans (e_iload D141_77 rfl rfl) <| e_callV D141_79 rfl o_141 m_11_499 (by decide) rfl rfl
theorem b141_82 {d : Nat} {i0 i3 i4 i5 : Nat} {x1 x2 x6 x7 xs0 : Int} {I L : Nat → Nat → Nat → Int} {t : Nat → Nat} : Res d 141 82 [vr 11 i0, vi x1, vi x2, vr 6 i3, vr 3 i4, vr 3 i5, vi x6, vi x7] [vi xs0] (mk I L t) = if ¬ xs0 = I 6 i3 1 then Res d 141 132 [vr 11 i0, vi x1, vi x2, vr 6 i3, vr 3 i4, vr 3 i5, vi x6, vi x7] [] (mk I L t) else Res d 141 89 [vr 11 i0, vi x1, vi x2, vr 6 i3, vr 3 i4, vr 3 i5, vi x6, vi x7] [] (mk I L t) :=
  Eq.trans (e_aload_n D141_82 rfl rfl) <| Eq.trans (e_getI D141_83 rfl o_141 f_11_197 (sh_6 _) (by decide)) <| e_icne D141_86 rfl rfl
theorem b141_89 {d : Nat} {i0 i3 i4 i5 : Nat} {x1 x2 x6 x7 : Int} {I L : Nat → Nat → Nat → Int} {t : Nat → Nat} (g1 : 0 ≤ x6 ∧ x6 < 220) : Res (d + 1) 141 89 [vr 11 i0, vi x1, vi x2, vr 6 i3, vr 3 i4, vr 3 i5, vi x6, vi x7] [] (mk I L t) = (Cal d 120 [vr 11 i0, vr 3 i4, vi (w32 ((w32 ((I 47 i0 x6.toNat) - (I 3 i5 9))) - (I 3 i4 10)))] (mk I L t)).bind fun v => Res (d + 1) 141 114 [vr 11 i0, vi x1, vi x2, vr 6 i3, vr 3 i4, vr 3 i5, vi x6, vi x7] (psh 120 v.1 []) v.2 :=
  Eq.trans (e_aload_n D141_89 rfl rfl) <| Eq.trans (e_aload D141_90 rfl rfl) <| Eq.trans (e_aload_n D141_92 rfl rfl) <| Eq.trans (e_getP (p := (47, i0)) D141_93 rfl o_141 f_11_55 (sh_11 _) (by decide) (pp_11_8 _ _)) <| Eq.trans (e_iload D141_96 rfl rfl) <| Eq.trans (e_iald D141_98 rfl (al_47 _) g1) <| Eq.trans (e_aload D141_99 rfl rfl) <| Eq.trans (e_getI D141_101 rfl o_141 f_11_155 (sh_3 _) (by decide)) <| Eq.trans (e_isub D141_104 rfl) <| Eq.trans (e_aload D141_105 rfl rfl) <| Eq.trans (e_getI D141_107 rfl o_141 f_11_414 (sh_3 _) (by decide)) <| Eq.trans (e_isub D141_110 rfl) <| e_callV D141_111 rfl o_141 m_11_143 (by decide) rfl rfl
theorem b141_114 {d : Nat} {i0 i3 i4 i5 : Nat} {x1 x2 x6 x7 : Int} {I L : Nat → Nat → Nat → Int} {t : Nat → Nat} : Res d 141 114 [vr 11 i0, vi x1, vi x2, vr 6 i3, vr 3 i4, vr 3 i5, vi x6, vi x7] [] (mk I L t) = if ¬ x7 = x1 then Res d 141 123 [vr 11 i0, vi x1, vi x2, vr 6 i3, vr 3 i4, vr 3 i5, vi x6, vi x7] [] (mk I L t) else Res d 141 120 [vr 11 i0, vi x1, vi x2, vr 6 i3, vr 3 i4, vr 3 i5, vi x6, vi x7] [] (mk I L t) :=
  Eq.trans (e_iload D141_114 rfl rfl) <| Eq.trans (e_iload_n D141_116 rfl rfl) <| e_icne D141_117 rfl rfl
theorem b141_120 {d : Nat} {i0 i3 i4 i5 : Nat} {x1 x2 x6 x7 : Int} {I L : Nat → Nat → Nat → Int} {t : Nat → Nat} : Res d 141 120 [vr 11 i0, vi x1, vi x2, vr 6 i3, vr 3 i4, vr 3 i5, vi x6, vi x7] [] (mk I L t) = Res d 141 138 [vr 11 i0, vi x1, vi x2, vr 6 i3, vr 3 i4, vr 3 i5, vi x6, vi x7] [] (mk I L t) :=
  e_goto (q1 := 138) D141_120 rfl
theorem b141_123 {d : Nat} {i0 i3 i4 i5 : Nat} {x1 x2 x6 x7 : Int} {I L : Nat → Nat → Nat → Int} {t : Nat → Nat} : Res (d + 1) 141 123 [vr 11 i0, vi x1, vi x2, vr 6 i3, vr 3 i4, vr 3 i5, vi x6, vi x7] [] (mk I L t) = (Cal d 142 [vr 11 i0, vr 3 i4, vi x7, vi x2] (mk I L t)).bind fun v => Res (d + 1) 141 132 [vr 11 i0, vi x1, vi x2, vr 6 i3, vr 3 i4, vr 3 i5, vi x6, vi x7] (psh 142 v.1 []) v.2 :=
  Eq.trans (e_aload_n D141_123 rfl rfl) <| Eq.trans (e_aload D141_124 rfl rfl) <| Eq.trans (e_iload D141_126 rfl rfl) <| Eq.trans (e_iload_n D141_128 rfl rfl) <| e_callV D141_129 rfl o_141 m_11_502 (by decide) rfl rfl
theorem b141_132 {d : Nat} {i0 i3 i4 i5 : Nat} {x1 x2 x6 x7 : Int} {I L : Nat → Nat → Nat → Int} {t : Nat → Nat} : Res d 141 132 [vr 11 i0, vi x1, vi x2, vr 6 i3, vr 3 i4, vr 3 i5, vi x6, vi x7] [] (mk I L t) = Res d 141 58 [vr 11 i0, vi x1, vi x2, vr 6 i3, vr 3 i4, vr 3 i5, vi (w32 (x6 + 1)), vi x7] [] (mk I L t) :=
  Eq.trans (e_iinc (ls1 := [vr 11 i0, vi x1, vi x2, vr 6 i3, vr 3 i4, vr 3 i5, vi (w32 (x6 + 1)), vi x7]) D141_132 rfl rfl rfl) <| e_goto (q1 := 58) D141_135 rfl
theorem b141_138 {d : Nat} {i0 i3 i4 i5 : Nat} {x1 x2 x6 : Int} {u7 : MV} {I L : Nat → Nat → Nat → Int} {t : Nat → Nat} : Res (d + 1) 141 138 [vr 11 i0, vi x1, vi x2, vr 6 i3, vr 3 i4, vr 3 i5, vi x6, u7] [] (mk I L t) = (Cal d 128 [vr 11 i0, vr 3 i4, vr 6 i3] (mk I L t)).bind fun v => Res (d + 1) 141 145 [vr 11 i0, vi x1, vi x2, vr 6 i3, vr 3 i4, vr 3 i5, vi x6, u7] (psh 128 v.1 []) v.2 :=
  Eq.trans (e_aload_n D141_138 rfl rfl) <| Eq.trans (e_aload D141_139 rfl rfl) <| Eq.trans (e_aload_n D141_141 rfl rfl) <| e_callV D141_142 rfl o_141 m_11_223 (by decide) rfl rfl
theorem b141_145 {d : Nat} {i0 i3 i4 i5 : Nat} {x1 x2 x6 xs0 : Int} {u7 : MV} {I L : Nat → Nat → Nat → Int} {t : Nat → Nat} : Res d 141 145 [vr 11 i0, vi x1, vi x2, vr 6 i3, vr 3 i4, vr 3 i5, vi x6, u7] [vi xs0] (mk I L t) = some (vi xs0, (mk I L t)) :=
  e_iret D141_145 rfl
/-! x_repeatDeed -/
theorem cc_142 : cod 142 = cX11_repeatDeed := rfl
theorem D142_0 : decode (cod 142) 0 = .ok (.aload_n 0, 1) := by rw [cc_142]; decide +kernel
theorem D142_1 : decode (cod 142) 1 = .ok (.iconst (-1), 1) := by rw [cc_142]; decide +kernel
theorem D142_2 : decode (cod 142) 2 = .ok (.iload_n 2, 1) := by rw [cc_142]; decide +kernel
theorem D142_3 : decode (cod 142) 3 = .ok (.isub, 1) := by rw [cc_142]; decide +kernel
theorem D142_4 : decode (cod 142) 4 = .ok (.invokevirtual 94, 3) := by rw [cc_142]; decide +kernel
theorem D142_7 : decode (cod 142) 7 = .ok (.ifCond .eq 27, 3) := by rw [cc_142]; decide +kernel
theorem D142_10 : decode (cod 142) 10 = .ok (.aload_n 1, 1) := by rw [cc_142]; decide +kernel
theorem D142_11 : decode (cod 142) 11 = .ok (.aload_n 0, 1) := by rw [cc_142]; decide +kernel
theorem D142_12 : decode (cod 142) 12 = .ok (.getfield 11, 3) := by rw [cc_142]; decide +kernel
theorem D142_15 : decode (cod 142) 15 = .ok (.iconst (-1), 1) := by rw [cc_142]; decide +kernel
theorem D142_16 : decode (cod 142) 16 = .ok (.iload_n 2, 1) := by rw [cc_142]; decide +kernel
theorem D142_17 : decode (cod 142) 17 = .ok (.isub, 1) := by rw [cc_142]; decide +kernel
theorem D142_18 : decode (cod 142) 18 = .ok (.aaload, 1) := by rw [cc_142]; decide +kernel
theorem D142_19 : decode (cod 142) 19 = .ok (.getfield 98, 3) := by rw [cc_142]; decide +kernel
theorem D142_22 : decode (cod 142) 22 = .ok (.aload_n 0, 1) := by rw [cc_142]; decide +kernel
theorem D142_23 : decode (cod 142) 23 = .ok (.aload_n 1, 1) := by rw [cc_142]; decide +kernel
theorem D142_24 : decode (cod 142) 24 = .ok (.iconst 3, 1) := by rw [cc_142]; decide +kernel
theorem D142_25 : decode (cod 142) 25 = .ok (.invokevirtual 272, 3) := by rw [cc_142]; decide +kernel
theorem D142_28 : decode (cod 142) 28 = .ok (.invokevirtual 276, 3) := by rw [cc_142]; decide +kernel
theorem D142_31 : decode (cod 142) 31 = .ok (.goto 27, 3) := by rw [cc_142]; decide +kernel
theorem D142_34 : decode (cod 142) 34 = .ok (.aload_n 0, 1) := by rw [cc_142]; decide +kernel
theorem D142_35 : decode (cod 142) 35 = .ok (.iload_n 2, 1) := by rw [cc_142]; decide +kernel
theorem D142_36 : decode (cod 142) 36 = .ok (.invokevirtual 244, 3) := by rw [cc_142]; decide +kernel
theorem D142_39 : decode (cod 142) 39 = .ok (.ifCond .eq 19, 3) := by rw [cc_142]; decide +kernel
theorem D142_42 : decode (cod 142) 42 = .ok (.iload_n 2, 1) := by rw [cc_142]; decide +kernel
theorem D142_43 : decode (cod 142) 43 = .ok (.iload_n 3, 1) := by rw [cc_142]; decide +kernel
theorem D142_44 : decode (cod 142) 44 = .ok (.if_icmp .eq 14, 3) := by rw [cc_142]; decide +kernel
theorem D142_47 : decode (cod 142) 47 = .ok (.aload_n 0, 1) := by rw [cc_142]; decide +kernel
theorem D142_48 : decode (cod 142) 48 = .ok (.aload_n 1, 1) := by rw [cc_142]; decide +kernel
theorem D142_49 : decode (cod 142) 49 = .ok (.aload_n 0, 1) := by rw [cc_142]; decide +kernel
theorem D142_50 : decode (cod 142) 50 = .ok (.getfield 41, 3) := by rw [cc_142]; decide +kernel
theorem D142_53 : decode (cod 142) 53 = .ok (.iload_n 2, 1) := by rw [cc_142]; decide +kernel
theorem D142_54 : decode (cod 142) 54 = .ok (.aaload, 1) := by rw [cc_142]; decide +kernel
theorem D142_55 : decode (cod 142) 55 = .ok (.invokevirtual 237, 3) := by rw [cc_142]; decide +kernel
theorem D142_58 : decode (cod 142) 58 = .ok (.return_, 1) := by rw [cc_142]; decide +kernel
theorem b142_0 {d : Nat} {i0 i1 : Nat} {x2 x3 : Int} {I L : Nat → Nat → Nat → Int} {t : Nat → Nat} : Res (d + 1) 142 0 [vr 11 i0, vr 3 i1, vi x2, vi x3] [] (mk I L t) = (Cal d 104 [vr 11 i0, vi (w32 ((-1) - x2))] (mk I L t)).bind fun v => Res (d + 1) 142 7 [vr 11 i0, vr 3 i1, vi x2, vi x3] (psh 104 v.1 []) v.2 :=
  Eq.trans (e_aload_n D142_0 rfl rfl) <| Eq.trans (e_iconst (x := -1) D142_1 rfl rfl) <| Eq.trans (e_iload_n D142_2 rfl rfl) <| Eq.trans (e_isub D142_3 rfl) <| e_callV D142_4 rfl o_142 m_11_94 (by decide) rfl rfl
theorem b142_7 {d : Nat} {i0 i1 : Nat} {x2 x3 xs0 : Int} {I L : Nat → Nat → Nat → Int} {t : Nat → Nat} : Res d 142 7 [vr 11 i0, vr 3 i1, vi x2, vi x3] [vi xs0] (mk I L t) = if xs0 = 0 then Res d 142 34 [vr 11 i0, vr 3 i1, vi x2, vi x3] [] (mk I L t) else Res d 142 10 [vr 11 i0, vr 3 i1, vi x2, vi x3] [] (mk I L t) :=
  e_ifeq D142_7 rfl rfl
theorem b142_10 {d : Nat} {i0 i1 : Nat} {x2 x3 : Int} {I L : Nat → Nat → Nat → Int} {t : Nat → Nat} (g1 : 0 ≤ w32 ((-1) - x2) ∧ w32 ((-1) - x2) < 120) : Res (d + 1) 142 10 [vr 11 i0, vr 3 i1, vi x2, vi x3] [] (mk I L t) = (Cal d 114 [vr 11 i0, vr 3 i1, vi 3] (mk I L t)).bind fun v => Res (d + 1) 142 28 [vr 11 i0, vr 3 i1, vi x2, vi x3] (psh 114 v.1 [vr 22 (((w32 ((-1) - x2)).toNat)), vr 3 i1]) v.2 :=
  Eq.trans (e_aload_n D142_10 rfl rfl) <| Eq.trans (e_aload_n D142_11 rfl rfl) <| Eq.trans (e_getP (p := (40, i0)) D142_12 rfl o_142 f_11_11 (sh_11 _) (by decide) (pp_11_0 _ _)) <| Eq.trans (e_iconst (x := -1) D142_15 rfl rfl) <| Eq.trans (e_iload_n D142_16 rfl rfl) <| Eq.trans (e_isub D142_17 rfl) <| Eq.trans (e_aald (p := (1, (w32 ((-1) - x2)).toNat)) D142_18 rfl (ae_40 _) (aq_40 _) (pa_40 _ _ _) g1) <| Eq.trans (e_getP (p := (22, ((w32 ((-1) - x2)).toNat))) D142_19 rfl o_142 f_11_98 (sh_1 _) (by decide) (pp_1_0 _ _)) <| Eq.trans (e_aload_n D142_22 rfl rfl) <| Eq.trans (e_aload_n D142_23 rfl rfl) <| Eq.trans (e_iconst (x := 3) D142_24 rfl rfl) <| e_callV D142_25 rfl o_142 m_11_272 (by decide) rfl rfl
theorem b142_28 {d : Nat} {i0 i1 is1 is0 : Nat} {x2 x3 xs2 : Int} {I L : Nat → Nat → Nat → Int} {t : Nat → Nat} : Res (d + 1) 142 28 [vr 11 i0, vr 3 i1, vi x2, vi x3] [vi xs2, vr 22 is1, vr 3 is0] (mk I L t) = (Cal d 23 [vr 3 is0, vr 22 is1, vi xs2] (mk I L t)).bind fun v => Res (d + 1) 142 31 [vr 11 i0, vr 3 i1, vi x2, vi x3] (psh 23 v.1 []) v.2 :=
  e_callV D142_28 rfl o_142 m_11_276 (by decide) rfl rfl
theorem b142_31 {d : Nat} {i0 i1 : Nat} {x2 x3 : Int} {I L : Nat → Nat → Nat → Int} {t : Nat → Nat} : Res d 142 31 [vr 11 i0, vr 3 i1, vi x2, vi x3] [] (mk I L t) = Res d 142 58 [vr 11 i0, vr 3 i1, vi x2, vi x3] [] (mk I L t) :=
  e_goto (q1 := 58) D142_31 rfl
theorem b142_34 {d : Nat} {i0 i1 : Nat} {x2 x3 : Int} {I L : Nat → Nat → Nat → Int} {t : Nat → Nat} : Res (d + 1) 142 34 [vr 11 i0, vr 3 i1, vi x2, vi x3] [] (mk I L t) = (Cal d 107 [vr 11 i0, vi x2] (mk I L t)).bind fun v => Res (d + 1) 142 39 [vr 11 i0, vr 3 i1, vi x2, vi x3] (psh 107 v.1 []) v.2 :=
  Eq.trans (e_aload_n D142_34 rfl rfl) <| Eq.trans (e_iload_n D142_35 rfl rfl) <| e_callV D142_36 rfl o_142 m_11_244 (by decide) rfl rfl
theorem b142_39 {d : Nat} {i0 i1 : Nat} {x2 x3 xs0 : Int} {I L : Nat → Nat → Nat → Int} {t : Nat → Nat} : Res d 142 39 [vr 11 i0, vr 3 i1, vi x2, vi x3] [vi xs0] (mk I L t) = if xs0 = 0 then Res d 142 58 [vr 11 i0, vr 3 i1, vi x2, vi x3] [] (mk I L t) else Res d 142 42 [vr 11 i0, vr 3 i1, vi x2, vi x3] [] (mk I L t) :=
  e_ifeq D142_39 rfl rfl
theorem b142_42 {d : Nat} {i0 i1 : Nat} {x2 x3 : Int} {I L : Nat → Nat → Nat → Int} {t : Nat → Nat} : Res d 142 42 [vr 11 i0, vr 3 i1, vi x2, vi x3] [] (mk I L t) = if x2 = x3 then Res d 142 58 [vr 11 i0, vr 3 i1, vi x2, vi x3] [] (mk I L t) else Res d 142 47 [vr 11 i0, vr 3 i1, vi x2, vi x3] [] (mk I L t) :=
  Eq.trans (e_iload_n D142_42 rfl rfl) <| Eq.trans (e_iload_n D142_43 rfl rfl) <| e_iceq D142_44 rfl rfl
theorem b142_47 {d : Nat} {i0 i1 : Nat} {x2 x3 : Int} {I L : Nat → Nat → Nat → Int} {t : Nat → Nat} (g1 : 0 ≤ x2 ∧ x2 < 100) : Res (d + 1) 142 47 [vr 11 i0, vr 3 i1, vi x2, vi x3] [] (mk I L t) = (Cal d 121 [vr 11 i0, vr 3 i1, vr 6 x2.toNat] (mk I L t)).bind fun v => Res (d + 1) 142 58 [vr 11 i0, vr 3 i1, vi x2, vi x3] (psh 121 v.1 []) v.2 :=
  Eq.trans (e_aload_n D142_47 rfl rfl) <| Eq.trans (e_aload_n D142_48 rfl rfl) <| Eq.trans (e_aload_n D142_49 rfl rfl) <| Eq.trans (e_getP (p := (44, i0)) D142_50 rfl o_142 f_11_41 (sh_11 _) (by decide) (pp_11_5 _ _)) <| Eq.trans (e_iload_n D142_53 rfl rfl) <| Eq.trans (e_aald (p := (6, x2.toNat)) D142_54 rfl (ae_44 _) (aq_44 _) (pa_44 _ _ _) g1) <| e_callV D142_55 rfl o_142 m_11_237 (by decide) rfl rfl
theorem b142_58 {d : Nat} {i0 i1 : Nat} {x2 x3 : Int} {I L : Nat → Nat → Nat → Int} {t : Nat → Nat} : Res d 142 58 [vr 11 i0, vr 3 i1, vi x2, vi x3] [] (mk I L t) = some (vx, (mk I L t)) :=
  e_vret D142_58 rfl
/-! x_areApart -/
theorem cc_143 : cod 143 = cX11_areApart := rfl
theorem D143_0 : decode (cod 143) 0 = .ok (.iconst 0, 1) := by rw [cc_143]; decide +kernel
theorem D143_1 : decode (cod 143) 1 = .ok (.istore_n 3, 1) := by rw [cc_143]; decide +kernel
theorem D143_2 : decode (cod 143) 2 = .ok (.iload_n 3, 1) := by rw [cc_143]; decide +kernel
theorem D143_3 : decode (cod 143) 3 = .ok (.aload_n 0, 1) := by rw [cc_143]; decide +kernel
theorem D143_4 : decode (cod 143) 4 = .ok (.getfield 191, 3) := by rw [cc_143]; decide +kernel
theorem D143_7 : decode (cod 143) 7 = .ok (.if_icmp .ge 68, 3) := by rw [cc_143]; decide +kernel
theorem D143_10 : decode (cod 143) 10 = .ok (.aload_n 0, 1) := by rw [cc_143]; decide +kernel
theorem D143_11 : decode (cod 143) 11 = .ok (.getfield 41, 3) := by rw [cc_143]; decide +kernel
theorem D143_14 : decode (cod 143) 14 = .ok (.iload_n 3, 1) := by rw [cc_143]; decide +kernel
theorem D143_15 : decode (cod 143) 15 = .ok (.aaload, 1) := by rw [cc_143]; decide +kernel
theorem D143_16 : decode (cod 143) 16 = .ok (.getfield 197, 3) := by rw [cc_143]; decide +kernel
theorem D143_19 : decode (cod 143) 19 = .ok (.istore 4, 2) := by rw [cc_143]; decide +kernel
theorem D143_21 : decode (cod 143) 21 = .ok (.iload 4, 2) := by rw [cc_143]; decide +kernel
theorem D143_23 : decode (cod 143) 23 = .ok (.iload_n 1, 1) := by rw [cc_143]; decide +kernel
theorem D143_24 : decode (cod 143) 24 = .ok (.if_icmp .ne 20, 3) := by rw [cc_143]; decide +kernel
theorem D143_27 : decode (cod 143) 27 = .ok (.aload_n 0, 1) := by rw [cc_143]; decide +kernel
theorem D143_28 : decode (cod 143) 28 = .ok (.aload_n 0, 1) := by rw [cc_143]; decide +kernel
theorem D143_29 : decode (cod 143) 29 = .ok (.getfield 41, 3) := by rw [cc_143]; decide +kernel
theorem D143_32 : decode (cod 143) 32 = .ok (.iload_n 3, 1) := by rw [cc_143]; decide +kernel
theorem D143_33 : decode (cod 143) 33 = .ok (.aaload, 1) := by rw [cc_143]; decide +kernel
theorem D143_34 : decode (cod 143) 34 = .ok (.getfield 206, 3) := by rw [cc_143]; decide +kernel
theorem D143_37 : decode (cod 143) 37 = .ok (.iload_n 2, 1) := by rw [cc_143]; decide +kernel
theorem D143_38 : decode (cod 143) 38 = .ok (.invokevirtual 506, 3) := by rw [cc_143]; decide +kernel
theorem D143_41 : decode (cod 143) 41 = .ok (.ifCond .ne 26, 3) := by rw [cc_143]; decide +kernel
theorem D143_44 : decode (cod 143) 44 = .ok (.iload 4, 2) := by rw [cc_143]; decide +kernel
theorem D143_46 : decode (cod 143) 46 = .ok (.iload_n 2, 1) := by rw [cc_143]; decide +kernel
theorem D143_47 : decode (cod 143) 47 = .ok (.if_icmp .ne 22, 3) := by rw [cc_143]; decide +kernel
theorem D143_50 : decode (cod 143) 50 = .ok (.aload_n 0, 1) := by rw [cc_143]; decide +kernel
theorem D143_51 : decode (cod 143) 51 = .ok (.aload_n 0, 1) := by rw [cc_143]; decide +kernel
theorem D143_52 : decode (cod 143) 52 = .ok (.getfield 41, 3) := by rw [cc_143]; decide +kernel
theorem D143_55 : decode (cod 143) 55 = .ok (.iload_n 3, 1) := by rw [cc_143]; decide +kernel
theorem D143_56 : decode (cod 143) 56 = .ok (.aaload, 1) := by rw [cc_143]; decide +kernel
theorem D143_57 : decode (cod 143) 57 = .ok (.getfield 206, 3) := by rw [cc_143]; decide +kernel
theorem D143_60 : decode (cod 143) 60 = .ok (.iload_n 1, 1) := by rw [cc_143]; decide +kernel
theorem D143_61 : decode (cod 143) 61 = .ok (.invokevirtual 506, 3) := by rw [cc_143]; decide +kernel
theorem D143_64 : decode (cod 143) 64 = .ok (.ifCond .eq 5, 3) := by rw [cc_143]; decide +kernel
theorem D143_67 : decode (cod 143) 67 = .ok (.iconst 0, 1) := by rw [cc_143]; decide +kernel
theorem D143_68 : decode (cod 143) 68 = .ok (.ireturn, 1) := by rw [cc_143]; decide +kernel
theorem D143_69 : decode (cod 143) 69 = .ok (.iinc 3 1, 3) := by rw [cc_143]; decide +kernel
theorem D143_72 : decode (cod 143) 72 = .ok (.goto (-70), 3) := by rw [cc_143]; decide +kernel
theorem D143_75 : decode (cod 143) 75 = .ok (.iconst 1, 1) := by rw [cc_143]; decide +kernel
theorem D143_76 : decode (cod 143) 76 = .ok (.ireturn, 1) := by rw [cc_143]; decide +kernel
theorem b143_0 {d : Nat} {i0 : Nat} {x1 x2 : Int} {I L : Nat → Nat → Nat → Int} {t : Nat → Nat} : Res d 143 0 [vr 11 i0, vi x1, vi x2, vx, vx] [] (mk I L t) = Res d 143 2 [vr 11 i0, vi x1, vi x2, vi 0, vx] [] (mk I L t) :=
  Eq.trans (e_iconst (x := 0) D143_0 rfl rfl) <| e_istore_n (ls1 := [vr 11 i0, vi x1, vi x2, vi 0, vx]) D143_1 rfl (show 3 < 5 by decide) rfl
theorem b143_2 {d : Nat} {i0 : Nat} {x1 x2 x3 : Int} {u4 : MV} {I L : Nat → Nat → Nat → Int} {t : Nat → Nat} : Res d 143 2 [vr 11 i0, vi x1, vi x2, vi x3, u4] [] (mk I L t) = if I 11 i0 13 ≤ x3 then Res d 143 75 [vr 11 i0, vi x1, vi x2, vi x3, u4] [] (mk I L t) else Res d 143 10 [vr 11 i0, vi x1, vi x2, vi x3, u4] [] (mk I L t) :=
  Eq.trans (e_iload_n D143_2 rfl rfl) <| Eq.trans (e_aload_n D143_3 rfl rfl) <| Eq.trans (e_getI D143_4 rfl o_143 f_11_191 (sh_11 _) (by decide)) <| e_icge D143_7 rfl rfl
theorem b143_10 {d : Nat} {i0 : Nat} {x1 x2 x3 : Int} {u4 : MV} {I L : Nat → Nat → Nat → Int} {t : Nat → Nat} (g1 : 0 ≤ x3 ∧ x3 < 100) : Res d 143 10 [vr 11 i0, vi x1, vi x2, vi x3, u4] [] (mk I L t) = if ¬ I 6 x3.toNat 1 = x1 then Res d 143 44 [vr 11 i0, vi x1, vi x2, vi x3, vi (I 6 x3.toNat 1)] [] (mk I L t) else Res d 143 27 [vr 11 i0, vi x1, vi x2, vi x3, vi (I 6 x3.toNat 1)] [] (mk I L t) :=
  Eq.trans (e_aload_n D143_10 rfl rfl) <| Eq.trans (e_getP (p := (44, i0)) D143_11 rfl o_143 f_11_41 (sh_11 _) (by decide) (pp_11_5 _ _)) <| Eq.trans (e_iload_n D143_14 rfl rfl) <| Eq.trans (e_aald (p := (6, x3.toNat)) D143_15 rfl (ae_44 _) (aq_44 _) (pa_44 _ _ _) g1) <| Eq.trans (e_getI D143_16 rfl o_143 f_11_197 (sh_6 _) (by decide)) <| Eq.trans (e_istore (ls1 := [vr 11 i0, vi x1, vi x2, vi x3, vi (I 6 x3.toNat 1)]) D143_19 rfl (show 4 < 5 by decide) rfl) <| Eq.trans (e_iload D143_21 rfl rfl) <| Eq.trans (e_iload_n D143_23 rfl rfl) <| e_icne D143_24 rfl rfl
theorem b143_27 {d : Nat} {i0 : Nat} {x1 x2 x3 x4 : Int} {I L : Nat → Nat → Nat → Int} {t : Nat → Nat} (g1 : 0 ≤ x3 ∧ x3 < 100) : Res (d + 1) 143 27 [vr 11 i0, vi x1, vi x2, vi x3, vi x4] [] (mk I L t) = (Cal d 144 [vr 11 i0, vr 4 (6 + x3.toNat), vi x2] (mk I L t)).bind fun v => Res (d + 1) 143 41 [vr 11 i0, vi x1, vi x2, vi x3, vi x4] (psh 144 v.1 []) v.2 :=
  Eq.trans (e_aload_n D143_27 rfl rfl) <| Eq.trans (e_aload_n D143_28 rfl rfl) <| Eq.trans (e_getP (p := (44, i0)) D143_29 rfl o_143 f_11_41 (sh_11 _) (by decide) (pp_11_5 _ _)) <| Eq.trans (e_iload_n D143_32 rfl rfl) <| Eq.trans (e_aald (p := (6, x3.toNat)) D143_33 rfl (ae_44 _) (aq_44 _) (pa_44 _ _ _) g1) <| Eq.trans (e_getP (p := (4, 6 + x3.toNat)) D143_34 rfl o_143 f_11_206 (sh_6 _) (by decide) (pp_6_0 _ _)) <| Eq.trans (e_iload_n D143_37 rfl rfl) <| e_callV D143_38 rfl o_143 m_11_506 (by decide) rfl rfl
theorem b143_41 {d : Nat} {i0 : Nat} {x1 x2 x3 x4 xs0 : Int} {I L : Nat → Nat → Nat → Int} {t : Nat → Nat} : Res d 143 41 [vr 11 i0, vi x1, vi x2, vi x3, vi x4] [vi xs0] (mk I L t) = if ¬ xs0 = 0 then Res d 143 67 [vr 11 i0, vi x1, vi x2, vi x3, vi x4] [] (mk I L t) else Res d 143 44 [vr 11 i0, vi x1, vi x2, vi x3, vi x4] [] (mk I L t) :=
  e_ifne D143_41 rfl rfl
theorem b143_44 {d : Nat} {i0 : Nat} {x1 x2 x3 x4 : Int} {I L : Nat → Nat → Nat → Int} {t : Nat → Nat} : Res d 143 44 [vr 11 i0, vi x1, vi x2, vi x3, vi x4] [] (mk I L t) = if ¬ x4 = x2 then Res d 143 69 [vr 11 i0, vi x1, vi x2, vi x3, vi x4] [] (mk I L t) else Res d 143 50 [vr 11 i0, vi x1, vi x2, vi x3, vi x4] [] (mk I L t) :=
  Eq.trans (e_iload D143_44 rfl rfl) <| Eq.trans (e_iload_n D143_46 rfl rfl) <| e_icne D143_47 rfl rfl
theorem b143_50 {d : Nat} {i0 : Nat} {x1 x2 x3 x4 : Int} {I L : Nat → Nat → Nat → Int} {t : Nat → Nat} (g1 : 0 ≤ x3 ∧ x3 < 100) : Res (d + 1) 143 50 [vr 11 i0, vi x1, vi x2, vi x3, vi x4] [] (mk I L t) = (Cal d 144 [vr 11 i0, vr 4 (6 + x3.toNat), vi x1] (mk I L t)).bind fun v => Res (d + 1) 143 64 [vr 11 i0, vi x1, vi x2, vi x3, vi x4] (psh 144 v.1 []) v.2 :=
  Eq.trans (e_aload_n D143_50 rfl rfl) <| Eq.trans (e_aload_n D143_51 rfl rfl) <| Eq.trans (e_getP (p := (44, i0)) D143_52 rfl o_143 f_11_41 (sh_11 _) (by decide) (pp_11_5 _ _)) <| Eq.trans (e_iload_n D143_55 rfl rfl) <| Eq.trans (e_aald (p := (6, x3.toNat)) D143_56 rfl (ae_44 _) (aq_44 _) (pa_44 _ _ _) g1) <| Eq.trans (e_getP (p := (4, 6 + x3.toNat)) D143_57 rfl o_143 f_11_206 (sh_6 _) (by decide) (pp_6_0 _ _)) <| Eq.trans (e_iload_n D143_60 rfl rfl) <| e_callV D143_61 rfl o_143 m_11_506 (by decide) rfl rfl
theorem b143_64 {d : Nat} {i0 : Nat} {x1 x2 x3 x4 xs0 : Int} {I L : Nat → Nat → Nat → Int} {t : Nat → Nat} : Res d 143 64 [vr 11 i0, vi x1, vi x2, vi x3, vi x4] [vi xs0] (mk I L t) = if xs0 = 0 then Res d 143 69 [vr 11 i0, vi x1, vi x2, vi x3, vi x4] [] (mk I L t) else Res d 143 67 [vr 11 i0, vi x1, vi x2, vi x3, vi x4] [] (mk I L t) :=
  e_ifeq D143_64 rfl rfl
theorem b143_67 {d : Nat} {i0 : Nat} {x1 x2 x3 x4 : Int} {I L : Nat → Nat → Nat → Int} {t : Nat → Nat} : Res d 143 67 [vr 11 i0, vi x1, vi x2, vi x3, vi x4] [] (mk I L t) = some (vi 0, (mk I L t)) :=
  Eq.trans (e_iconst (x := 0) D143_67 rfl rfl) <| e_iret D143_68 rfl
theorem b143_69 {d : Nat} {i0 : Nat} {x1 x2 x3 x4 : Int} {I L : Nat → Nat → Nat → Int} {t : Nat → Nat} : Res d 143 69 [vr 11 i0, vi x1, vi x2, vi x3, vi x4] [] (mk I L t) = Res d 143 2 [vr 11 i0, vi x1, vi x2, vi (w32 (x3 + 1)), vi x4] [] (mk I L t) :=
  Eq.trans (e_iinc (ls1 := [vr 11 i0, vi x1, vi x2, vi (w32 (x3 + 1)), vi x4]) D143_69 rfl rfl rfl) <| e_goto (q1 := 2) D143_72 rfl
theorem b143_75 {d : Nat} {i0 : Nat} {x1 x2 x3 : Int} {u4 : MV} {I L : Nat → Nat → Nat → Int} {t : Nat → Nat} : Res d 143 75 [vr 11 i0, vi x1, vi x2, vi x3, u4] [] (mk I L t) = some (vi 1, (mk I L t)) :=
  Eq.trans (e_iconst (x := 1) D143_75 rfl rfl) <| e_iret D143_76 rfl
/-! x_hasMadeBy -/
theorem cc_144 : cod 144 = cX11_hasMadeBy := rfl
theorem D144_0 : decode (cod 144) 0 = .ok (.iconst 0, 1) := by rw [cc_144]; decide +kernel
theorem D144_1 : decode (cod 144) 1 = .ok (.istore_n 3, 1) := by rw [cc_144]; decide +kernel
theorem D144_2 : decode (cod 144) 2 = .ok (.iload_n 3, 1) := by rw [cc_144]; decide +kernel
theorem D144_3 : decode (cod 144) 3 = .ok (.bipush 9, 2) := by rw [cc_144]; decide +kernel
theorem D144_5 : decode (cod 144) 5 = .ok (.if_icmp .ge 38, 3) := by rw [cc_144]; decide +kernel
theorem D144_8 : decode (cod 144) 8 = .ok (.aload_n 1, 1) := by rw [cc_144]; decide +kernel
theorem D144_9 : decode (cod 144) 9 = .ok (.iload_n 3, 1) := by rw [cc_144]; decide +kernel
theorem D144_10 : decode (cod 144) 10 = .ok (.invokevirtual 247, 3) := by rw [cc_144]; decide +kernel
theorem D144_13 : decode (cod 144) 13 = .ok (.istore 4, 2) := by rw [cc_144]; decide +kernel
theorem D144_15 : decode (cod 144) 15 = .ok (.iload 4, 2) := by rw [cc_144]; decide +kernel
theorem D144_17 : decode (cod 144) 17 = .ok (.iconst (-1), 1) := by rw [cc_144]; decide +kernel
theorem D144_18 : decode (cod 144) 18 = .ok (.if_icmp .eq 19, 3) := by rw [cc_144]; decide +kernel
theorem D144_21 : decode (cod 144) 21 = .ok (.aload_n 0, 1) := by rw [cc_144]; decide +kernel
theorem D144_22 : decode (cod 144) 22 = .ok (.getfield 11, 3) := by rw [cc_144]; decide +kernel
theorem D144_25 : decode (cod 144) 25 = .ok (.iload 4, 2) := by rw [cc_144]; decide +kernel
theorem D144_27 : decode (cod 144) 27 = .ok (.aaload, 1) := by rw [cc_144]; decide +kernel
theorem D144_28 : decode (cod 144) 28 = .ok (.getfield 87, 3) := by rw [cc_144]; decide +kernel
theorem D144_31 : decode (cod 144) 31 = .ok (.iload_n 2, 1) := by rw [cc_144]; decide +kernel
theorem D144_32 : decode (cod 144) 32 = .ok (.if_icmp .ne 5, 3) := by rw [cc_144]; decide +kernel
theorem D144_35 : decode (cod 144) 35 = .ok (.iconst 1, 1) := by rw [cc_144]; decide +kernel
theorem D144_36 : decode (cod 144) 36 = .ok (.ireturn, 1) := by rw [cc_144]; decide +kernel
theorem D144_37 : decode (cod 144) 37 = .ok (.iinc 3 1, 3) := by rw [cc_144]; decide +kernel
theorem D144_40 : decode (cod 144) 40 = .ok (.goto (-38), 3) := by rw [cc_144]; decide +kernel
theorem D144_43 : decode (cod 144) 43 = .ok (.iconst 0, 1) := by rw [cc_144]; decide +kernel
theorem D144_44 : decode (cod 144) 44 = .ok (.ireturn, 1) := by rw [cc_144]; decide +kernel
theorem b144_0 {d : Nat} {i0 i1 : Nat} {x2 : Int} {I L : Nat → Nat → Nat → Int} {t : Nat → Nat} : Res d 144 0 [vr 11 i0, vr 4 i1, vi x2, vx, vx] [] (mk I L t) = Res d 144 2 [vr 11 i0, vr 4 i1, vi x2, vi 0, vx] [] (mk I L t) :=
  Eq.trans (e_iconst (x := 0) D144_0 rfl rfl) <| e_istore_n (ls1 := [vr 11 i0, vr 4 i1, vi x2, vi 0, vx]) D144_1 rfl (show 3 < 5 by decide) rfl
theorem b144_2 {d : Nat} {i0 i1 : Nat} {x2 x3 : Int} {u4 : MV} {I L : Nat → Nat → Nat → Int} {t : Nat → Nat} : Res d 144 2 [vr 11 i0, vr 4 i1, vi x2, vi x3, u4] [] (mk I L t) = if 9 ≤ x3 then Res d 144 43 [vr 11 i0, vr 4 i1, vi x2, vi x3, u4] [] (mk I L t) else Res d 144 8 [vr 11 i0, vr 4 i1, vi x2, vi x3, u4] [] (mk I L t) :=
  Eq.trans (e_iload_n D144_2 rfl rfl) <| Eq.trans (e_bipush (x := 9) D144_3 rfl rfl) <| e_icge D144_5 rfl rfl
theorem b144_8 {d : Nat} {i0 i1 : Nat} {x2 x3 : Int} {u4 : MV} {I L : Nat → Nat → Nat → Int} {t : Nat → Nat} : Res (d + 1) 144 8 [vr 11 i0, vr 4 i1, vi x2, vi x3, u4] [] (mk I L t) = (Cal d 26 [vr 4 i1, vi x3] (mk I L t)).bind fun v => Res (d + 1) 144 13 [vr 11 i0, vr 4 i1, vi x2, vi x3, u4] (psh 26 v.1 []) v.2 :=
  Eq.trans (e_aload_n D144_8 rfl rfl) <| Eq.trans (e_iload_n D144_9 rfl rfl) <| e_callV D144_10 rfl o_144 m_11_247 (by decide) rfl rfl
theorem b144_13 {d : Nat} {i0 i1 : Nat} {x2 x3 xs0 : Int} {u4 : MV} {I L : Nat → Nat → Nat → Int} {t : Nat → Nat} : Res d 144 13 [vr 11 i0, vr 4 i1, vi x2, vi x3, u4] [vi xs0] (mk I L t) = if xs0 = -1 then Res d 144 37 [vr 11 i0, vr 4 i1, vi x2, vi x3, vi xs0] [] (mk I L t) else Res d 144 21 [vr 11 i0, vr 4 i1, vi x2, vi x3, vi xs0] [] (mk I L t) :=
  Eq.trans (e_istore (ls1 := [vr 11 i0, vr 4 i1, vi x2, vi x3, vi xs0]) D144_13 rfl (show 4 < 5 by decide) rfl) <| Eq.trans (e_iload D144_15 rfl rfl) <| Eq.trans (e_iconst (x := -1) D144_17 rfl rfl) <| e_iceq D144_18 rfl rfl
theorem b144_21 {d : Nat} {i0 i1 : Nat} {x2 x3 x4 : Int} {I L : Nat → Nat → Nat → Int} {t : Nat → Nat} (g1 : 0 ≤ x4 ∧ x4 < 120) : Res d 144 21 [vr 11 i0, vr 4 i1, vi x2, vi x3, vi x4] [] (mk I L t) = if ¬ I 1 x4.toNat 2 = x2 then Res d 144 37 [vr 11 i0, vr 4 i1, vi x2, vi x3, vi x4] [] (mk I L t) else Res d 144 35 [vr 11 i0, vr 4 i1, vi x2, vi x3, vi x4] [] (mk I L t) :=
  Eq.trans (e_aload_n D144_21 rfl rfl) <| Eq.trans (e_getP (p := (40, i0)) D144_22 rfl o_144 f_11_11 (sh_11 _) (by decide) (pp_11_0 _ _)) <| Eq.trans (e_iload D144_25 rfl rfl) <| Eq.trans (e_aald (p := (1, x4.toNat)) D144_27 rfl (ae_40 _) (aq_40 _) (pa_40 _ _ _) g1) <| Eq.trans (e_getI D144_28 rfl o_144 f_11_87 (sh_1 _) (by decide)) <| Eq.trans (e_iload_n D144_31 rfl rfl) <| e_icne D144_32 rfl rfl
theorem b144_35 {d : Nat} {i0 i1 : Nat} {x2 x3 x4 : Int} {I L : Nat → Nat → Nat → Int} {t : Nat → Nat} : Res d 144 35 [vr 11 i0, vr 4 i1, vi x2, vi x3, vi x4] [] (mk I L t) = some (vi 1, (mk I L t)) :=
  Eq.trans (e_iconst (x := 1) D144_35 rfl rfl) <| e_iret D144_36 rfl
theorem b144_37 {d : Nat} {i0 i1 : Nat} {x2 x3 x4 : Int} {I L : Nat → Nat → Nat → Int} {t : Nat → Nat} : Res d 144 37 [vr 11 i0, vr 4 i1, vi x2, vi x3, vi x4] [] (mk I L t) = Res d 144 2 [vr 11 i0, vr 4 i1, vi x2, vi (w32 (x3 + 1)), vi x4] [] (mk I L t) :=
  Eq.trans (e_iinc (ls1 := [vr 11 i0, vr 4 i1, vi x2, vi (w32 (x3 + 1)), vi x4]) D144_37 rfl rfl rfl) <| e_goto (q1 := 2) D144_40 rfl
theorem b144_43 {d : Nat} {i0 i1 : Nat} {x2 x3 : Int} {u4 : MV} {I L : Nat → Nat → Nat → Int} {t : Nat → Nat} : Res d 144 43 [vr 11 i0, vr 4 i1, vi x2, vi x3, u4] [] (mk I L t) = some (vi 0, (mk I L t)) :=
  Eq.trans (e_iconst (x := 0) D144_43 rfl rfl) <| e_iret D144_44 rfl
/-! m_isIn -/
theorem cc_146 : cod 146 = cX12_isIn := rfl
theorem D146_0 : decode (cod 146) 0 = .ok (.iload_n 0, 1) := by rw [cc_146]; decide +kernel
theorem D146_1 : decode (cod 146) 1 = .ok (.iload_n 1, 1) := by rw [cc_146]; decide +kernel
theorem D146_2 : decode (cod 146) 2 = .ok (.if_icmp .lt 12, 3) := by rw [cc_146]; decide +kernel
theorem D146_5 : decode (cod 146) 5 = .ok (.iload_n 0, 1) := by rw [cc_146]; decide +kernel
theorem D146_6 : decode (cod 146) 6 = .ok (.iload_n 2, 1) := by rw [cc_146]; decide +kernel
theorem D146_7 : decode (cod 146) 7 = .ok (.if_icmp .gt 7, 3) := by rw [cc_146]; decide +kernel
theorem D146_10 : decode (cod 146) 10 = .ok (.iconst 1, 1) := by rw [cc_146]; decide +kernel
theorem D146_11 : decode (cod 146) 11 = .ok (.goto 4, 3) := by rw [cc_146]; decide +kernel
theorem D146_14 : decode (cod 146) 14 = .ok (.iconst 0, 1) := by rw [cc_146]; decide +kernel
theorem D146_15 : decode (cod 146) 15 = .ok (.ireturn, 1) := by rw [cc_146]; decide +kernel
theorem b146_0 {d : Nat} {x0 x1 x2 : Int} {I L : Nat → Nat → Nat → Int} {t : Nat → Nat} : Res d 146 0 [vi x0, vi x1, vi x2] [] (mk I L t) = if x0 < x1 then Res d 146 14 [vi x0, vi x1, vi x2] [] (mk I L t) else Res d 146 5 [vi x0, vi x1, vi x2] [] (mk I L t) :=
  Eq.trans (e_iload_n D146_0 rfl rfl) <| Eq.trans (e_iload_n D146_1 rfl rfl) <| e_iclt D146_2 rfl rfl
theorem b146_5 {d : Nat} {x0 x1 x2 : Int} {I L : Nat → Nat → Nat → Int} {t : Nat → Nat} : Res d 146 5 [vi x0, vi x1, vi x2] [] (mk I L t) = if x2 < x0 then Res d 146 14 [vi x0, vi x1, vi x2] [] (mk I L t) else Res d 146 10 [vi x0, vi x1, vi x2] [] (mk I L t) :=
  Eq.trans (e_iload_n D146_5 rfl rfl) <| Eq.trans (e_iload_n D146_6 rfl rfl) <| e_icgt D146_7 rfl rfl
theorem b146_10 {d : Nat} {x0 x1 x2 : Int} {I L : Nat → Nat → Nat → Int} {t : Nat → Nat} : Res d 146 10 [vi x0, vi x1, vi x2] [] (mk I L t) = Res d 146 15 [vi x0, vi x1, vi x2] [vi 1] (mk I L t) :=
  Eq.trans (e_iconst (x := 1) D146_10 rfl rfl) <| e_goto (q1 := 15) D146_11 rfl
theorem b146_14 {d : Nat} {x0 x1 x2 : Int} {I L : Nat → Nat → Nat → Int} {t : Nat → Nat} : Res d 146 14 [vi x0, vi x1, vi x2] [] (mk I L t) = Res d 146 15 [vi x0, vi x1, vi x2] [vi 0] (mk I L t) :=
  e_iconst (x := 0) D146_14 rfl rfl
theorem b146_15 {d : Nat} {x0 x1 x2 xs0 : Int} {I L : Nat → Nat → Nat → Int} {t : Nat → Nat} (g1 : xs0 = 0 ∨ xs0 = 1) : Res d 146 15 [vi x0, vi x1, vi x2] [vi xs0] (mk I L t) = some (vi xs0, (mk I L t)) :=
  e_iret D146_15 (nrz rfl g1)
/-! m_isFace -/
theorem cc_147 : cod 147 = cX12_isFace := rfl
theorem D147_0 : decode (cod 147) 0 = .ok (.iload_n 1, 1) := by rw [cc_147]; decide +kernel
theorem D147_1 : decode (cod 147) 1 = .ok (.iconst 0, 1) := by rw [cc_147]; decide +kernel
theorem D147_2 : decode (cod 147) 2 = .ok (.aload_n 0, 1) := by rw [cc_147]; decide +kernel
theorem D147_3 : decode (cod 147) 3 = .ok (.getfield 216, 3) := by rw [cc_147]; decide +kernel
theorem D147_6 : decode (cod 147) 6 = .ok (.iconst 1, 1) := by rw [cc_147]; decide +kernel
theorem D147_7 : decode (cod 147) 7 = .ok (.isub, 1) := by rw [cc_147]; decide +kernel
theorem D147_8 : decode (cod 147) 8 = .ok (.invokestatic 219, 3) := by rw [cc_147]; decide +kernel
theorem D147_11 : decode (cod 147) 11 = .ok (.ireturn, 1) := by rw [cc_147]; decide +kernel
theorem b147_0 {d : Nat} {i0 : Nat} {x1 : Int} {I L : Nat → Nat → Nat → Int} {t : Nat → Nat} : Res (d + 1) 147 0 [vr 12 i0, vi x1] [] (mk I L t) = (Cal d 146 [vi x1, vi 0, vi (w32 ((I 12 i0 1) - 1))] (mk I L t)).bind fun v => Res (d + 1) 147 11 [vr 12 i0, vi x1] (psh 146 v.1 []) v.2 :=
  Eq.trans (e_iload_n D147_0 rfl rfl) <| Eq.trans (e_iconst (x := 0) D147_1 rfl rfl) <| Eq.trans (e_aload_n D147_2 rfl rfl) <| Eq.trans (e_getI D147_3 rfl o_147 f_12_216 (sh_12 _) (by decide)) <| Eq.trans (e_iconst (x := 1) D147_6 rfl rfl) <| Eq.trans (e_isub D147_7 rfl) <| e_callS D147_8 rfl o_147 m_12_219 (by decide) rfl rfl
theorem b147_11 {d : Nat} {i0 : Nat} {x1 xs0 : Int} {I L : Nat → Nat → Nat → Int} {t : Nat → Nat} (g1 : xs0 = 0 ∨ xs0 = 1) : Res d 147 11 [vr 12 i0, vi x1] [vi xs0] (mk I L t) = some (vi xs0, (mk I L t)) :=
  e_iret D147_11 (nrz rfl g1)
/-! m_isRow -/
theorem cc_148 : cod 148 = cX12_isRow := rfl
theorem D148_0 : decode (cod 148) 0 = .ok (.iload_n 0, 1) := by rw [cc_148]; decide +kernel
theorem D148_1 : decode (cod 148) 1 = .ok (.iconst 0, 1) := by rw [cc_148]; decide +kernel
theorem D148_2 : decode (cod 148) 2 = .ok (.iconst 5, 1) := by rw [cc_148]; decide +kernel
theorem D148_3 : decode (cod 148) 3 = .ok (.invokestatic 219, 3) := by rw [cc_148]; decide +kernel
theorem D148_6 : decode (cod 148) 6 = .ok (.ireturn, 1) := by rw [cc_148]; decide +kernel
theorem b148_0 {d : Nat} {x0 : Int} {I L : Nat → Nat → Nat → Int} {t : Nat → Nat} : Res (d + 1) 148 0 [vi x0] [] (mk I L t) = (Cal d 146 [vi x0, vi 0, vi 5] (mk I L t)).bind fun v => Res (d + 1) 148 6 [vi x0] (psh 146 v.1 []) v.2 :=
  Eq.trans (e_iload_n D148_0 rfl rfl) <| Eq.trans (e_iconst (x := 0) D148_1 rfl rfl) <| Eq.trans (e_iconst (x := 5) D148_2 rfl rfl) <| e_callS D148_3 rfl o_148 m_12_219 (by decide) rfl rfl
theorem b148_6 {d : Nat} {x0 xs0 : Int} {I L : Nat → Nat → Nat → Int} {t : Nat → Nat} (g1 : xs0 = 0 ∨ xs0 = 1) : Res d 148 6 [vi x0] [vi xs0] (mk I L t) = some (vi xs0, (mk I L t)) :=
  e_iret D148_6 (nrz rfl g1)
/-! m_isKin -/
theorem cc_149 : cod 149 = cX12_isKin := rfl
theorem D149_0 : decode (cod 149) 0 = .ok (.iload_n 0, 1) := by rw [cc_149]; decide +kernel
theorem D149_1 : decode (cod 149) 1 = .ok (.iconst 0, 1) := by rw [cc_149]; decide +kernel
theorem D149_2 : decode (cod 149) 2 = .ok (.iconst 5, 1) := by rw [cc_149]; decide +kernel
theorem D149_3 : decode (cod 149) 3 = .ok (.invokestatic 219, 3) := by rw [cc_149]; decide +kernel
theorem D149_6 : decode (cod 149) 6 = .ok (.ireturn, 1) := by rw [cc_149]; decide +kernel
theorem b149_0 {d : Nat} {x0 : Int} {I L : Nat → Nat → Nat → Int} {t : Nat → Nat} : Res (d + 1) 149 0 [vi x0] [] (mk I L t) = (Cal d 146 [vi x0, vi 0, vi 5] (mk I L t)).bind fun v => Res (d + 1) 149 6 [vi x0] (psh 146 v.1 []) v.2 :=
  Eq.trans (e_iload_n D149_0 rfl rfl) <| Eq.trans (e_iconst (x := 0) D149_1 rfl rfl) <| Eq.trans (e_iconst (x := 5) D149_2 rfl rfl) <| e_callS D149_3 rfl o_149 m_12_219 (by decide) rfl rfl
theorem b149_6 {d : Nat} {x0 xs0 : Int} {I L : Nat → Nat → Nat → Int} {t : Nat → Nat} (g1 : xs0 = 0 ∨ xs0 = 1) : Res d 149 6 [vi x0] [vi xs0] (mk I L t) = some (vi xs0, (mk I L t)) :=
  e_iret D149_6 (nrz rfl g1)
/-! m_isWitness -/
theorem cc_150 : cod 150 = cX12_isWitness := rfl
theorem D150_0 : decode (cod 150) 0 = .ok (.iload_n 1, 1) := by rw [cc_150]; decide +kernel
theorem D150_1 : decode (cod 150) 1 = .ok (.iconst 0, 1) := by rw [cc_150]; decide +kernel
theorem D150_2 : decode (cod 150) 2 = .ok (.aload_n 0, 1) := by rw [cc_150]; decide +kernel
theorem D150_3 : decode (cod 150) 3 = .ok (.getfield 223, 3) := by rw [cc_150]; decide +kernel
theorem D150_6 : decode (cod 150) 6 = .ok (.iconst 1, 1) := by rw [cc_150]; decide +kernel
theorem D150_7 : decode (cod 150) 7 = .ok (.isub, 1) := by rw [cc_150]; decide +kernel
theorem D150_8 : decode (cod 150) 8 = .ok (.invokestatic 219, 3) := by rw [cc_150]; decide +kernel
theorem D150_11 : decode (cod 150) 11 = .ok (.ireturn, 1) := by rw [cc_150]; decide +kernel
theorem b150_0 {d : Nat} {i0 : Nat} {x1 : Int} {I L : Nat → Nat → Nat → Int} {t : Nat → Nat} : Res (d + 1) 150 0 [vr 12 i0, vi x1] [] (mk I L t) = (Cal d 146 [vi x1, vi 0, vi (w32 ((I 12 i0 2) - 1))] (mk I L t)).bind fun v => Res (d + 1) 150 11 [vr 12 i0, vi x1] (psh 146 v.1 []) v.2 :=
  Eq.trans (e_iload_n D150_0 rfl rfl) <| Eq.trans (e_iconst (x := 0) D150_1 rfl rfl) <| Eq.trans (e_aload_n D150_2 rfl rfl) <| Eq.trans (e_getI D150_3 rfl o_150 f_12_223 (sh_12 _) (by decide)) <| Eq.trans (e_iconst (x := 1) D150_6 rfl rfl) <| Eq.trans (e_isub D150_7 rfl) <| e_callS D150_8 rfl o_150 m_12_219 (by decide) rfl rfl
theorem b150_11 {d : Nat} {i0 : Nat} {x1 xs0 : Int} {I L : Nat → Nat → Nat → Int} {t : Nat → Nat} (g1 : xs0 = 0 ∨ xs0 = 1) : Res d 150 11 [vr 12 i0, vi x1] [vi xs0] (mk I L t) = some (vi xs0, (mk I L t)) :=
  e_iret D150_11 (nrz rfl g1)
/-! m_face -/
theorem cc_151 : cod 151 = cX12_face := rfl
theorem D151_0 : decode (cod 151) 0 = .ok (.iload_n 1, 1) := by rw [cc_151]; decide +kernel
theorem D151_1 : decode (cod 151) 1 = .ok (.invokestatic 226, 3) := by rw [cc_151]; decide +kernel
theorem D151_4 : decode (cod 151) 4 = .ok (.ifCond .eq 12, 3) := by rw [cc_151]; decide +kernel
theorem D151_7 : decode (cod 151) 7 = .ok (.aload_n 0, 1) := by rw [cc_151]; decide +kernel
theorem D151_8 : decode (cod 151) 8 = .ok (.getfield 216, 3) := by rw [cc_151]; decide +kernel
theorem D151_11 : decode (cod 151) 11 = .ok (.bipush 120, 2) := by rw [cc_151]; decide +kernel
theorem D151_13 : decode (cod 151) 13 = .ok (.if_icmp .ne 5, 3) := by rw [cc_151]; decide +kernel
theorem D151_16 : decode (cod 151) 16 = .ok (.iconst (-1), 1) := by rw [cc_151]; decide +kernel
theorem D151_17 : decode (cod 151) 17 = .ok (.ireturn, 1) := by rw [cc_151]; decide +kernel
theorem D151_18 : decode (cod 151) 18 = .ok (.iconst 0, 1) := by rw [cc_151]; decide +kernel
theorem D151_19 : decode (cod 151) 19 = .ok (.istore 6, 2) := by rw [cc_151]; decide +kernel
theorem D151_21 : decode (cod 151) 21 = .ok (.iload 6, 2) := by rw [cc_151]; decide +kernel
theorem D151_23 : decode (cod 151) 23 = .ok (.bipush 16, 2) := by rw [cc_151]; decide +kernel
theorem D151_25 : decode (cod 151) 25 = .ok (.if_icmp .ge 77, 3) := by rw [cc_151]; decide +kernel
theorem D151_28 : decode (cod 151) 28 = .ok (.iload 6, 2) := by rw [cc_151]; decide +kernel
theorem D151_30 : decode (cod 151) 30 = .ok (.iconst 4, 1) := by rw [cc_151]; decide +kernel
theorem D151_31 : decode (cod 151) 31 = .ok (.if_icmp .ge 7, 3) := by rw [cc_151]; decide +kernel
theorem D151_34 : decode (cod 151) 34 = .ok (.iload_n 2, 1) := by rw [cc_151]; decide +kernel
theorem D151_35 : decode (cod 151) 35 = .ok (.goto 28, 3) := by rw [cc_151]; decide +kernel
theorem D151_38 : decode (cod 151) 38 = .ok (.iload 6, 2) := by rw [cc_151]; decide +kernel
theorem D151_40 : decode (cod 151) 40 = .ok (.bipush 8, 2) := by rw [cc_151]; decide +kernel
theorem D151_42 : decode (cod 151) 42 = .ok (.if_icmp .ge 7, 3) := by rw [cc_151]; decide +kernel
theorem D151_45 : decode (cod 151) 45 = .ok (.iload_n 3, 1) := by rw [cc_151]; decide +kernel
theorem D151_46 : decode (cod 151) 46 = .ok (.goto 17, 3) := by rw [cc_151]; decide +kernel
theorem D151_49 : decode (cod 151) 49 = .ok (.iload 6, 2) := by rw [cc_151]; decide +kernel
theorem D151_51 : decode (cod 151) 51 = .ok (.bipush 12, 2) := by rw [cc_151]; decide +kernel
theorem D151_53 : decode (cod 151) 53 = .ok (.if_icmp .ge 8, 3) := by rw [cc_151]; decide +kernel
theorem D151_56 : decode (cod 151) 56 = .ok (.iload 4, 2) := by rw [cc_151]; decide +kernel
theorem D151_58 : decode (cod 151) 58 = .ok (.goto 5, 3) := by rw [cc_151]; decide +kernel
theorem D151_61 : decode (cod 151) 61 = .ok (.iload 5, 2) := by rw [cc_151]; decide +kernel
theorem D151_63 : decode (cod 151) 63 = .ok (.istore 7, 2) := by rw [cc_151]; decide +kernel
theorem D151_65 : decode (cod 151) 65 = .ok (.aload_n 0, 1) := by rw [cc_151]; decide +kernel
theorem D151_66 : decode (cod 151) 66 = .ok (.getfield 7, 3) := by rw [cc_151]; decide +kernel
theorem D151_69 : decode (cod 151) 69 = .ok (.bipush 16, 2) := by rw [cc_151]; decide +kernel
theorem D151_71 : decode (cod 151) 71 = .ok (.aload_n 0, 1) := by rw [cc_151]; decide +kernel
theorem D151_72 : decode (cod 151) 72 = .ok (.getfield 216, 3) := by rw [cc_151]; decide +kernel
theorem D151_75 : decode (cod 151) 75 = .ok (.imul, 1) := by rw [cc_151]; decide +kernel
theorem D151_76 : decode (cod 151) 76 = .ok (.iload 6, 2) := by rw [cc_151]; decide +kernel
theorem D151_78 : decode (cod 151) 78 = .ok (.iadd, 1) := by rw [cc_151]; decide +kernel
theorem D151_79 : decode (cod 151) 79 = .ok (.iload 7, 2) := by rw [cc_151]; decide +kernel
theorem D151_81 : decode (cod 151) 81 = .ok (.bipush 24, 2) := by rw [cc_151]; decide +kernel
theorem D151_83 : decode (cod 151) 83 = .ok (.bipush 8, 2) := by rw [cc_151]; decide +kernel
theorem D151_85 : decode (cod 151) 85 = .ok (.iload 6, 2) := by rw [cc_151]; decide +kernel
theorem D151_87 : decode (cod 151) 87 = .ok (.iconst 4, 1) := by rw [cc_151]; decide +kernel
theorem D151_88 : decode (cod 151) 88 = .ok (.irem, 1) := by rw [cc_151]; decide +kernel
theorem D151_89 : decode (cod 151) 89 = .ok (.imul, 1) := by rw [cc_151]; decide +kernel
theorem D151_90 : decode (cod 151) 90 = .ok (.isub, 1) := by rw [cc_151]; decide +kernel
theorem D151_91 : decode (cod 151) 91 = .ok (.ishr, 1) := by rw [cc_151]; decide +kernel
theorem D151_92 : decode (cod 151) 92 = .ok (.bipush 31, 2) := by rw [cc_151]; decide +kernel
theorem D151_94 : decode (cod 151) 94 = .ok (.iand, 1) := by rw [cc_151]; decide +kernel
theorem D151_95 : decode (cod 151) 95 = .ok (.iastore, 1) := by rw [cc_151]; decide +kernel
theorem D151_96 : decode (cod 151) 96 = .ok (.iinc 6 1, 3) := by rw [cc_151]; decide +kernel
theorem D151_99 : decode (cod 151) 99 = .ok (.goto (-78), 3) := by rw [cc_151]; decide +kernel
theorem D151_102 : decode (cod 151) 102 = .ok (.aload_n 0, 1) := by rw [cc_151]; decide +kernel
theorem D151_103 : decode (cod 151) 103 = .ok (.getfield 13, 3) := by rw [cc_151]; decide +kernel
theorem D151_106 : decode (cod 151) 106 = .ok (.aload_n 0, 1) := by rw [cc_151]; decide +kernel
theorem D151_107 : decode (cod 151) 107 = .ok (.getfield 216, 3) := by rw [cc_151]; decide +kernel
theorem D151_110 : decode (cod 151) 110 = .ok (.iload_n 1, 1) := by rw [cc_151]; decide +kernel
theorem D151_111 : decode (cod 151) 111 = .ok (.iastore, 1) := by rw [cc_151]; decide +kernel
theorem D151_112 : decode (cod 151) 112 = .ok (.aload_n 0, 1) := by rw [cc_151]; decide +kernel
theorem D151_113 : decode (cod 151) 113 = .ok (.getfield 16, 3) := by rw [cc_151]; decide +kernel
theorem D151_116 : decode (cod 151) 116 = .ok (.aload_n 0, 1) := by rw [cc_151]; decide +kernel
theorem D151_117 : decode (cod 151) 117 = .ok (.getfield 216, 3) := by rw [cc_151]; decide +kernel
theorem D151_120 : decode (cod 151) 120 = .ok (.iconst (-1), 1) := by rw [cc_151]; decide +kernel
theorem D151_121 : decode (cod 151) 121 = .ok (.iastore, 1) := by rw [cc_151]; decide +kernel
theorem D151_122 : decode (cod 151) 122 = .ok (.aload_n 0, 1) := by rw [cc_151]; decide +kernel
theorem D151_123 : decode (cod 151) 123 = .ok (.dup, 1) := by rw [cc_151]; decide +kernel
theorem D151_124 : decode (cod 151) 124 = .ok (.getfield 216, 3) := by rw [cc_151]; decide +kernel
theorem D151_127 : decode (cod 151) 127 = .ok (.iconst 1, 1) := by rw [cc_151]; decide +kernel
theorem D151_128 : decode (cod 151) 128 = .ok (.iadd, 1) := by rw [cc_151]; decide +kernel
theorem D151_129 : decode (cod 151) 129 = .ok (.putfield 216, 3) := by rw [cc_151]; decide +kernel
theorem D151_132 : decode (cod 151) 132 = .ok (.aload_n 0, 1) := by rw [cc_151]; decide +kernel
theorem D151_133 : decode (cod 151) 133 = .ok (.getfield 216, 3) := by rw [cc_151]; decide +kernel
theorem D151_136 : decode (cod 151) 136 = .ok (.iconst 1, 1) := by rw [cc_151]; decide +kernel
theorem D151_137 : decode (cod 151) 137 = .ok (.isub, 1) := by rw [cc_151]; decide +kernel
theorem D151_138 : decode (cod 151) 138 = .ok (.ireturn, 1) := by rw [cc_151]; decide +kernel
theorem b151_0 {d : Nat} {i0 : Nat} {x1 x2 x3 x4 x5 : Int} {I L : Nat → Nat → Nat → Int} {t : Nat → Nat} : Res (d + 1) 151 0 [vr 12 i0, vi x1, vi x2, vi x3, vi x4, vi x5, vx, vx] [] (mk I L t) = (Cal d 149 [vi x1] (mk I L t)).bind fun v => Res (d + 1) 151 4 [vr 12 i0, vi x1, vi x2, vi x3, vi x4, vi x5, vx, vx] (psh 149 v.1 []) v.2 :=
  Eq.trans (e_iload_n D151_0 rfl rfl) <| e_callS D151_1 rfl o_151 m_12_226 (by decide) rfl rfl
theorem b151_4 {d : Nat} {i0 : Nat} {x1 x2 x3 x4 x5 xs0 : Int} {I L : Nat → Nat → Nat → Int} {t : Nat → Nat} : Res d 151 4 [vr 12 i0, vi x1, vi x2, vi x3, vi x4, vi x5, vx, vx] [vi xs0] (mk I L t) = if xs0 = 0 then Res d 151 16 [vr 12 i0, vi x1, vi x2, vi x3, vi x4, vi x5, vx, vx] [] (mk I L t) else Res d 151 7 [vr 12 i0, vi x1, vi x2, vi x3, vi x4, vi x5, vx, vx] [] (mk I L t) :=
  e_ifeq D151_4 rfl rfl
theorem b151_7 {d : Nat} {i0 : Nat} {x1 x2 x3 x4 x5 : Int} {I L : Nat → Nat → Nat → Int} {t : Nat → Nat} : Res d 151 7 [vr 12 i0, vi x1, vi x2, vi x3, vi x4, vi x5, vx, vx] [] (mk I L t) = if ¬ I 12 i0 1 = 120 then Res d 151 18 [vr 12 i0, vi x1, vi x2, vi x3, vi x4, vi x5, vx, vx] [] (mk I L t) else Res d 151 16 [vr 12 i0, vi x1, vi x2, vi x3, vi x4, vi x5, vx, vx] [] (mk I L t) :=
  Eq.trans (e_aload_n D151_7 rfl rfl) <| Eq.trans (e_getI D151_8 rfl o_151 f_12_216 (sh_12 _) (by decide)) <| Eq.trans (e_bipush (x := 120) D151_11 rfl rfl) <| e_icne D151_13 rfl rfl
theorem b151_16 {d : Nat} {i0 : Nat} {x1 x2 x3 x4 x5 : Int} {I L : Nat → Nat → Nat → Int} {t : Nat → Nat} : Res d 151 16 [vr 12 i0, vi x1, vi x2, vi x3, vi x4, vi x5, vx, vx] [] (mk I L t) = some (vi (-1), (mk I L t)) :=
  Eq.trans (e_iconst (x := -1) D151_16 rfl rfl) <| e_iret D151_17 rfl
theorem b151_18 {d : Nat} {i0 : Nat} {x1 x2 x3 x4 x5 : Int} {I L : Nat → Nat → Nat → Int} {t : Nat → Nat} : Res d 151 18 [vr 12 i0, vi x1, vi x2, vi x3, vi x4, vi x5, vx, vx] [] (mk I L t) = Res d 151 21 [vr 12 i0, vi x1, vi x2, vi x3, vi x4, vi x5, vi 0, vx] [] (mk I L t) :=
  Eq.trans (e_iconst (x := 0) D151_18 rfl rfl) <| e_istore (ls1 := [vr 12 i0, vi x1, vi x2, vi x3, vi x4, vi x5, vi 0, vx]) D151_19 rfl (show 6 < 8 by decide) rfl
theorem b151_21 {d : Nat} {i0 : Nat} {x1 x2 x3 x4 x5 x6 : Int} {u7 : MV} {I L : Nat → Nat → Nat → Int} {t : Nat → Nat} : Res d 151 21 [vr 12 i0, vi x1, vi x2, vi x3, vi x4, vi x5, vi x6, u7] [] (mk I L t) = if 16 ≤ x6 then Res d 151 102 [vr 12 i0, vi x1, vi x2, vi x3, vi x4, vi x5, vi x6, u7] [] (mk I L t) else Res d 151 28 [vr 12 i0, vi x1, vi x2, vi x3, vi x4, vi x5, vi x6, u7] [] (mk I L t) :=
  Eq.trans (e_iload D151_21 rfl rfl) <| Eq.trans (e_bipush (x := 16) D151_23 rfl rfl) <| e_icge D151_25 rfl rfl
theorem b151_28 {d : Nat} {i0 : Nat} {x1 x2 x3 x4 x5 x6 : Int} {u7 : MV} {I L : Nat → Nat → Nat → Int} {t : Nat → Nat} : Res d 151 28 [vr 12 i0, vi x1, vi x2, vi x3, vi x4, vi x5, vi x6, u7] [] (mk I L t) = if 4 ≤ x6 then Res d 151 38 [vr 12 i0, vi x1, vi x2, vi x3, vi x4, vi x5, vi x6, u7] [] (mk I L t) else Res d 151 34 [vr 12 i0, vi x1, vi x2, vi x3, vi x4, vi x5, vi x6, u7] [] (mk I L t) :=
  Eq.trans (e_iload D151_28 rfl rfl) <| Eq.trans (e_iconst (x := 4) D151_30 rfl rfl) <| e_icge D151_31 rfl rfl
theorem b151_34 {d : Nat} {i0 : Nat} {x1 x2 x3 x4 x5 x6 : Int} {u7 : MV} {I L : Nat → Nat → Nat → Int} {t : Nat → Nat} : Res d 151 34 [vr 12 i0, vi x1, vi x2, vi x3, vi x4, vi x5, vi x6, u7] [] (mk I L t) = Res d 151 63 [vr 12 i0, vi x1, vi x2, vi x3, vi x4, vi x5, vi x6, u7] [vi x2] (mk I L t) :=
  Eq.trans (e_iload_n D151_34 rfl rfl) <| e_goto (q1 := 63) D151_35 rfl
theorem b151_38 {d : Nat} {i0 : Nat} {x1 x2 x3 x4 x5 x6 : Int} {u7 : MV} {I L : Nat → Nat → Nat → Int} {t : Nat → Nat} : Res d 151 38 [vr 12 i0, vi x1, vi x2, vi x3, vi x4, vi x5, vi x6, u7] [] (mk I L t) = if 8 ≤ x6 then Res d 151 49 [vr 12 i0, vi x1, vi x2, vi x3, vi x4, vi x5, vi x6, u7] [] (mk I L t) else Res d 151 45 [vr 12 i0, vi x1, vi x2, vi x3, vi x4, vi x5, vi x6, u7] [] (mk I L t) :=
  Eq.trans (e_iload D151_38 rfl rfl) <| Eq.trans (e_bipush (x := 8) D151_40 rfl rfl) <| e_icge D151_42 rfl rfl
theorem b151_45 {d : Nat} {i0 : Nat} {x1 x2 x3 x4 x5 x6 : Int} {u7 : MV} {I L : Nat → Nat → Nat → Int} {t : Nat → Nat} : Res d 151 45 [vr 12 i0, vi x1, vi x2, vi x3, vi x4, vi x5, vi x6, u7] [] (mk I L t) = Res d 151 63 [vr 12 i0, vi x1, vi x2, vi x3, vi x4, vi x5, vi x6, u7] [vi x3] (mk I L t) :=
  Eq.trans (e_iload_n D151_45 rfl rfl) <| e_goto (q1 := 63) D151_46 rfl
theorem b151_49 {d : Nat} {i0 : Nat} {x1 x2 x3 x4 x5 x6 : Int} {u7 : MV} {I L : Nat → Nat → Nat → Int} {t : Nat → Nat} : Res d 151 49 [vr 12 i0, vi x1, vi x2, vi x3, vi x4, vi x5, vi x6, u7] [] (mk I L t) = if 12 ≤ x6 then Res d 151 61 [vr 12 i0, vi x1, vi x2, vi x3, vi x4, vi x5, vi x6, u7] [] (mk I L t) else Res d 151 56 [vr 12 i0, vi x1, vi x2, vi x3, vi x4, vi x5, vi x6, u7] [] (mk I L t) :=
  Eq.trans (e_iload D151_49 rfl rfl) <| Eq.trans (e_bipush (x := 12) D151_51 rfl rfl) <| e_icge D151_53 rfl rfl
theorem b151_56 {d : Nat} {i0 : Nat} {x1 x2 x3 x4 x5 x6 : Int} {u7 : MV} {I L : Nat → Nat → Nat → Int} {t : Nat → Nat} : Res d 151 56 [vr 12 i0, vi x1, vi x2, vi x3, vi x4, vi x5, vi x6, u7] [] (mk I L t) = Res d 151 63 [vr 12 i0, vi x1, vi x2, vi x3, vi x4, vi x5, vi x6, u7] [vi x4] (mk I L t) :=
  Eq.trans (e_iload D151_56 rfl rfl) <| e_goto (q1 := 63) D151_58 rfl
theorem b151_61 {d : Nat} {i0 : Nat} {x1 x2 x3 x4 x5 x6 : Int} {u7 : MV} {I L : Nat → Nat → Nat → Int} {t : Nat → Nat} : Res d 151 61 [vr 12 i0, vi x1, vi x2, vi x3, vi x4, vi x5, vi x6, u7] [] (mk I L t) = Res d 151 63 [vr 12 i0, vi x1, vi x2, vi x3, vi x4, vi x5, vi x6, u7] [vi x5] (mk I L t) :=
  e_iload D151_61 rfl rfl
theorem b151_63 {d : Nat} {i0 : Nat} {x1 x2 x3 x4 x5 x6 xs0 : Int} {u7 : MV} {I L : Nat → Nat → Nat → Int} {t : Nat → Nat} (g1 : 0 ≤ w32 ((w32 (16 * (I 12 i0 1))) + x6) ∧ w32 ((w32 (16 * (I 12 i0 1))) + x6) < 2112) : Res d 151 63 [vr 12 i0, vi x1, vi x2, vi x3, vi x4, vi x5, vi x6, u7] [vi xs0] (mk I L t) = Res d 151 21 [vr 12 i0, vi x1, vi x2, vi x3, vi x4, vi x5, vi (w32 (x6 + 1)), vi xs0] [] (mk (up3 I 48 i0 (w32 ((w32 (16 * (I 12 i0 1))) + x6)).toNat (vIand (vIshr xs0 (w32 (24 - (w32 (8 * (vIrem x6 4)))))) 31)) L t) :=
  Eq.trans (e_istore (ls1 := [vr 12 i0, vi x1, vi x2, vi x3, vi x4, vi x5, vi x6, vi xs0]) D151_63 rfl (show 7 < 8 by decide) rfl) <| Eq.trans (e_aload_n D151_65 rfl rfl) <| Eq.trans (e_getP (p := (48, i0)) D151_66 rfl o_151 f_12_7 (sh_12 _) (by decide) (pp_12_5 _ _)) <| Eq.trans (e_bipush (x := 16) D151_69 rfl rfl) <| Eq.trans (e_aload_n D151_71 rfl rfl) <| Eq.trans (e_getI D151_72 rfl o_151 f_12_216 (sh_12 _) (by decide)) <| Eq.trans (e_imul D151_75 rfl) <| Eq.trans (e_iload D151_76 rfl rfl) <| Eq.trans (e_iadd D151_78 rfl) <| Eq.trans (e_iload D151_79 rfl rfl) <| Eq.trans (e_bipush (x := 24) D151_81 rfl rfl) <| Eq.trans (e_bipush (x := 8) D151_83 rfl rfl) <| Eq.trans (e_iload D151_85 rfl rfl) <| Eq.trans (e_iconst (x := 4) D151_87 rfl rfl) <| Eq.trans (e_irem D151_88 rfl (by decide)) <| Eq.trans (e_imul D151_89 rfl) <| Eq.trans (e_isub D151_90 rfl) <| Eq.trans (e_ishr D151_91 rfl) <| Eq.trans (e_bipush (x := 31) D151_92 rfl rfl) <| Eq.trans (e_iand D151_94 rfl) <| Eq.trans (e_iast D151_95 rfl (al_48 _) rfl g1) <| Eq.trans (e_iinc (ls1 := [vr 12 i0, vi x1, vi x2, vi x3, vi x4, vi x5, vi (w32 (x6 + 1)), vi xs0]) D151_96 rfl rfl rfl) <| e_goto (q1 := 21) D151_99 rfl
theorem b151_102 {d : Nat} {i0 : Nat} {x1 x2 x3 x4 x5 x6 : Int} {u7 : MV} {I L : Nat → Nat → Nat → Int} {t : Nat → Nat} (g1 : 0 ≤ I 12 i0 1 ∧ I 12 i0 1 < 132) (g2 : 0 ≤ (up3 I 49 i0 (I 12 i0 1).toNat x1) 12 i0 1 ∧ (up3 I 49 i0 (I 12 i0 1).toNat x1) 12 i0 1 < 120) : Res d 151 102 [vr 12 i0, vi x1, vi x2, vi x3, vi x4, vi x5, vi x6, u7] [] (mk I L t) = some (vi (w32 (((up3 (up3 (up3 I 49 i0 (I 12 i0 1).toNat x1) 50 i0 ((up3 I 49 i0 (I 12 i0 1).toNat x1) 12 i0 1).toNat (-1)) 12 i0 1 (w32 (((up3 (up3 I 49 i0 (I 12 i0 1).toNat x1) 50 i0 ((up3 I 49 i0 (I 12 i0 1).toNat x1) 12 i0 1).toNat (-1)) 12 i0 1) + 1))) 12 i0 1) - 1)), (mk (up3 (up3 (up3 I 49 i0 (I 12 i0 1).toNat x1) 50 i0 ((up3 I 49 i0 (I 12 i0 1).toNat x1) 12 i0 1).toNat (-1)) 12 i0 1 (w32 (((up3 (up3 I 49 i0 (I 12 i0 1).toNat x1) 50 i0 ((up3 I 49 i0 (I 12 i0 1).toNat x1) 12 i0 1).toNat (-1)) 12 i0 1) + 1))) L t)) :=
  Eq.trans (e_aload_n D151_102 rfl rfl) <| Eq.trans (e_getP (p := (49, i0)) D151_103 rfl o_151 f_12_13 (sh_12 _) (by decide) (pp_12_6 _ _)) <| Eq.trans (e_aload_n D151_106 rfl rfl) <| Eq.trans (e_getI D151_107 rfl o_151 f_12_216 (sh_12 _) (by decide)) <| Eq.trans (e_iload_n D151_110 rfl rfl) <| Eq.trans (e_iast D151_111 rfl (al_49 _) rfl g1) <| Eq.trans (e_aload_n D151_112 rfl rfl) <| Eq.trans (e_getP (p := (50, i0)) D151_113 rfl o_151 f_12_16 (sh_12 _) (by decide) (pp_12_7 _ _)) <| Eq.trans (e_aload_n D151_116 rfl rfl) <| Eq.trans (e_getI D151_117 rfl o_151 f_12_216 (sh_12 _) (by decide)) <| Eq.trans (e_iconst (x := -1) D151_120 rfl rfl) <| Eq.trans (e_iast D151_121 rfl (al_50 _) rfl g2) <| Eq.trans (e_aload_n D151_122 rfl rfl) <| Eq.trans (e_dup D151_123 rfl) <| Eq.trans (e_getI D151_124 rfl o_151 f_12_216 (sh_12 _) (by decide)) <| Eq.trans (e_iconst (x := 1) D151_127 rfl rfl) <| Eq.trans (e_iadd D151_128 rfl) <| Eq.trans (e_putI D151_129 rfl o_151 f_12_216 (sh_12 _) rfl (by decide) (Or.inl (by decide))) <| Eq.trans (e_aload_n D151_132 rfl rfl) <| Eq.trans (e_getI D151_133 rfl o_151 f_12_216 (sh_12 _) (by decide)) <| Eq.trans (e_iconst (x := 1) D151_136 rfl rfl) <| Eq.trans (e_isub D151_137 rfl) <| e_iret D151_138 rfl
/-! m_number -/
theorem cc_152 : cod 152 = cX12_number := rfl
theorem D152_0 : decode (cod 152) 0 = .ok (.aload_n 0, 1) := by rw [cc_152]; decide +kernel
theorem D152_1 : decode (cod 152) 1 = .ok (.iload_n 1, 1) := by rw [cc_152]; decide +kernel
theorem D152_2 : decode (cod 152) 2 = .ok (.invokevirtual 230, 3) := by rw [cc_152]; decide +kernel
theorem D152_5 : decode (cod 152) 5 = .ok (.ifCond .eq 13, 3) := by rw [cc_152]; decide +kernel
theorem D152_8 : decode (cod 152) 8 = .ok (.iload_n 2, 1) := by rw [cc_152]; decide +kernel
theorem D152_9 : decode (cod 152) 9 = .ok (.iconst 0, 1) := by rw [cc_152]; decide +kernel
theorem D152_10 : decode (cod 152) 10 = .ok (.bipush 17, 2) := by rw [cc_152]; decide +kernel
theorem D152_12 : decode (cod 152) 12 = .ok (.invokestatic 219, 3) := by rw [cc_152]; decide +kernel
theorem D152_15 : decode (cod 152) 15 = .ok (.ifCond .ne 5, 3) := by rw [cc_152]; decide +kernel
theorem D152_18 : decode (cod 152) 18 = .ok (.iconst (-1), 1) := by rw [cc_152]; decide +kernel
theorem D152_19 : decode (cod 152) 19 = .ok (.ireturn, 1) := by rw [cc_152]; decide +kernel
theorem D152_20 : decode (cod 152) 20 = .ok (.iload_n 2, 1) := by rw [cc_152]; decide +kernel
theorem D152_21 : decode (cod 152) 21 = .ok (.bipush 16, 2) := by rw [cc_152]; decide +kernel
theorem D152_23 : decode (cod 152) 23 = .ok (.if_icmp .ge 17, 3) := by rw [cc_152]; decide +kernel
theorem D152_26 : decode (cod 152) 26 = .ok (.aload_n 0, 1) := by rw [cc_152]; decide +kernel
theorem D152_27 : decode (cod 152) 27 = .ok (.getfield 7, 3) := by rw [cc_152]; decide +kernel
theorem D152_30 : decode (cod 152) 30 = .ok (.bipush 16, 2) := by rw [cc_152]; decide +kernel
theorem D152_32 : decode (cod 152) 32 = .ok (.iload_n 1, 1) := by rw [cc_152]; decide +kernel
theorem D152_33 : decode (cod 152) 33 = .ok (.imul, 1) := by rw [cc_152]; decide +kernel
theorem D152_34 : decode (cod 152) 34 = .ok (.iload_n 2, 1) := by rw [cc_152]; decide +kernel
theorem D152_35 : decode (cod 152) 35 = .ok (.iadd, 1) := by rw [cc_152]; decide +kernel
theorem D152_36 : decode (cod 152) 36 = .ok (.iaload, 1) := by rw [cc_152]; decide +kernel
theorem D152_37 : decode (cod 152) 37 = .ok (.goto 24, 3) := by rw [cc_152]; decide +kernel
theorem D152_40 : decode (cod 152) 40 = .ok (.iload_n 2, 1) := by rw [cc_152]; decide +kernel
theorem D152_41 : decode (cod 152) 41 = .ok (.bipush 16, 2) := by rw [cc_152]; decide +kernel
theorem D152_43 : decode (cod 152) 43 = .ok (.if_icmp .ne 12, 3) := by rw [cc_152]; decide +kernel
theorem D152_46 : decode (cod 152) 46 = .ok (.aload_n 0, 1) := by rw [cc_152]; decide +kernel
theorem D152_47 : decode (cod 152) 47 = .ok (.getfield 13, 3) := by rw [cc_152]; decide +kernel
theorem D152_50 : decode (cod 152) 50 = .ok (.iload_n 1, 1) := by rw [cc_152]; decide +kernel
theorem D152_51 : decode (cod 152) 51 = .ok (.iaload, 1) := by rw [cc_152]; decide +kernel
theorem D152_52 : decode (cod 152) 52 = .ok (.goto 9, 3) := by rw [cc_152]; decide +kernel
theorem D152_55 : decode (cod 152) 55 = .ok (.aload_n 0, 1) := by rw [cc_152]; decide +kernel
theorem D152_56 : decode (cod 152) 56 = .ok (.getfield 16, 3) := by rw [cc_152]; decide +kernel
theorem D152_59 : decode (cod 152) 59 = .ok (.iload_n 1, 1) := by rw [cc_152]; decide +kernel
theorem D152_60 : decode (cod 152) 60 = .ok (.iaload, 1) := by rw [cc_152]; decide +kernel
theorem D152_61 : decode (cod 152) 61 = .ok (.ireturn, 1) := by rw [cc_152]; decide +kernel
theorem b152_0 {d : Nat} {i0 : Nat} {x1 x2 : Int} {I L : Nat → Nat → Nat → Int} {t : Nat → Nat} : Res (d + 1) 152 0 [vr 12 i0, vi x1, vi x2] [] (mk I L t) = (Cal d 147 [vr 12 i0, vi x1] (mk I L t)).bind fun v => Res (d + 1) 152 5 [vr 12 i0, vi x1, vi x2] (psh 147 v.1 []) v.2 :=
  Eq.trans (e_aload_n D152_0 rfl rfl) <| Eq.trans (e_iload_n D152_1 rfl rfl) <| e_callV D152_2 rfl o_152 m_12_230 (by decide) rfl rfl
theorem b152_5 {d : Nat} {i0 : Nat} {x1 x2 xs0 : Int} {I L : Nat → Nat → Nat → Int} {t : Nat → Nat} : Res d 152 5 [vr 12 i0, vi x1, vi x2] [vi xs0] (mk I L t) = if xs0 = 0 then Res d 152 18 [vr 12 i0, vi x1, vi x2] [] (mk I L t) else Res d 152 8 [vr 12 i0, vi x1, vi x2] [] (mk I L t) :=
  e_ifeq D152_5 rfl rfl
theorem b152_8 {d : Nat} {i0 : Nat} {x1 x2 : Int} {I L : Nat → Nat → Nat → Int} {t : Nat → Nat} : Res (d + 1) 152 8 [vr 12 i0, vi x1, vi x2] [] (mk I L t) = (Cal d 146 [vi x2, vi 0, vi 17] (mk I L t)).bind fun v => Res (d + 1) 152 15 [vr 12 i0, vi x1, vi x2] (psh 146 v.1 []) v.2 :=
  Eq.trans (e_iload_n D152_8 rfl rfl) <| Eq.trans (e_iconst (x := 0) D152_9 rfl rfl) <| Eq.trans (e_bipush (x := 17) D152_10 rfl rfl) <| e_callS D152_12 rfl o_152 m_12_219 (by decide) rfl rfl
theorem b152_15 {d : Nat} {i0 : Nat} {x1 x2 xs0 : Int} {I L : Nat → Nat → Nat → Int} {t : Nat → Nat} : Res d 152 15 [vr 12 i0, vi x1, vi x2] [vi xs0] (mk I L t) = if ¬ xs0 = 0 then Res d 152 20 [vr 12 i0, vi x1, vi x2] [] (mk I L t) else Res d 152 18 [vr 12 i0, vi x1, vi x2] [] (mk I L t) :=
  e_ifne D152_15 rfl rfl
theorem b152_18 {d : Nat} {i0 : Nat} {x1 x2 : Int} {I L : Nat → Nat → Nat → Int} {t : Nat → Nat} : Res d 152 18 [vr 12 i0, vi x1, vi x2] [] (mk I L t) = some (vi (-1), (mk I L t)) :=
  Eq.trans (e_iconst (x := -1) D152_18 rfl rfl) <| e_iret D152_19 rfl
theorem b152_20 {d : Nat} {i0 : Nat} {x1 x2 : Int} {I L : Nat → Nat → Nat → Int} {t : Nat → Nat} : Res d 152 20 [vr 12 i0, vi x1, vi x2] [] (mk I L t) = if 16 ≤ x2 then Res d 152 40 [vr 12 i0, vi x1, vi x2] [] (mk I L t) else Res d 152 26 [vr 12 i0, vi x1, vi x2] [] (mk I L t) :=
  Eq.trans (e_iload_n D152_20 rfl rfl) <| Eq.trans (e_bipush (x := 16) D152_21 rfl rfl) <| e_icge D152_23 rfl rfl
theorem b152_26 {d : Nat} {i0 : Nat} {x1 x2 : Int} {I L : Nat → Nat → Nat → Int} {t : Nat → Nat} (g1 : 0 ≤ w32 ((w32 (16 * x1)) + x2) ∧ w32 ((w32 (16 * x1)) + x2) < 2112) : Res d 152 26 [vr 12 i0, vi x1, vi x2] [] (mk I L t) = Res d 152 61 [vr 12 i0, vi x1, vi x2] [vi (I 48 i0 (w32 ((w32 (16 * x1)) + x2)).toNat)] (mk I L t) :=
  Eq.trans (e_aload_n D152_26 rfl rfl) <| Eq.trans (e_getP (p := (48, i0)) D152_27 rfl o_152 f_12_7 (sh_12 _) (by decide) (pp_12_5 _ _)) <| Eq.trans (e_bipush (x := 16) D152_30 rfl rfl) <| Eq.trans (e_iload_n D152_32 rfl rfl) <| Eq.trans (e_imul D152_33 rfl) <| Eq.trans (e_iload_n D152_34 rfl rfl) <| Eq.trans (e_iadd D152_35 rfl) <| Eq.trans (e_iald D152_36 rfl (al_48 _) g1) <| e_goto (q1 := 61) D152_37 rfl
theorem b152_40 {d : Nat} {i0 : Nat} {x1 x2 : Int} {I L : Nat → Nat → Nat → Int} {t : Nat → Nat} : Res d 152 40 [vr 12 i0, vi x1, vi x2] [] (mk I L t) = if ¬ x2 = 16 then Res d 152 55 [vr 12 i0, vi x1, vi x2] [] (mk I L t) else Res d 152 46 [vr 12 i0, vi x1, vi x2] [] (mk I L t) :=
  Eq.trans (e_iload_n D152_40 rfl rfl) <| Eq.trans (e_bipush (x := 16) D152_41 rfl rfl) <| e_icne D152_43 rfl rfl
theorem b152_46 {d : Nat} {i0 : Nat} {x1 x2 : Int} {I L : Nat → Nat → Nat → Int} {t : Nat → Nat} (g1 : 0 ≤ x1 ∧ x1 < 132) : Res d 152 46 [vr 12 i0, vi x1, vi x2] [] (mk I L t) = Res d 152 61 [vr 12 i0, vi x1, vi x2] [vi (I 49 i0 x1.toNat)] (mk I L t) :=
  Eq.trans (e_aload_n D152_46 rfl rfl) <| Eq.trans (e_getP (p := (49, i0)) D152_47 rfl o_152 f_12_13 (sh_12 _) (by decide) (pp_12_6 _ _)) <| Eq.trans (e_iload_n D152_50 rfl rfl) <| Eq.trans (e_iald D152_51 rfl (al_49 _) g1) <| e_goto (q1 := 61) D152_52 rfl
theorem b152_55 {d : Nat} {i0 : Nat} {x1 x2 : Int} {I L : Nat → Nat → Nat → Int} {t : Nat → Nat} (g1 : 0 ≤ x1 ∧ x1 < 120) : Res d 152 55 [vr 12 i0, vi x1, vi x2] [] (mk I L t) = Res d 152 61 [vr 12 i0, vi x1, vi x2] [vi (I 50 i0 x1.toNat)] (mk I L t) :=
  Eq.trans (e_aload_n D152_55 rfl rfl) <| Eq.trans (e_getP (p := (50, i0)) D152_56 rfl o_152 f_12_16 (sh_12 _) (by decide) (pp_12_7 _ _)) <| Eq.trans (e_iload_n D152_59 rfl rfl) <| e_iald D152_60 rfl (al_50 _) g1
theorem b152_61 {d : Nat} {i0 : Nat} {x1 x2 xs0 : Int} {I L : Nat → Nat → Nat → Int} {t : Nat → Nat} : Res d 152 61 [vr 12 i0, vi x1, vi x2] [vi xs0] (mk I L t) = some (vi xs0, (mk I L t)) :=
  e_iret D152_61 rfl
/-! m_type -/
theorem cc_153 : cod 153 = cX12_type := rfl
theorem D153_0 : decode (cod 153) 0 = .ok (.iload_n 1, 1) := by rw [cc_153]; decide +kernel
theorem D153_1 : decode (cod 153) 1 = .ok (.invokestatic 226, 3) := by rw [cc_153]; decide +kernel
theorem D153_4 : decode (cod 153) 4 = .ok (.ifCond .eq 11, 3) := by rw [cc_153]; decide +kernel
theorem D153_7 : decode (cod 153) 7 = .ok (.aload_n 0, 1) := by rw [cc_153]; decide +kernel
theorem D153_8 : decode (cod 153) 8 = .ok (.iload_n 2, 1) := by rw [cc_153]; decide +kernel
theorem D153_9 : decode (cod 153) 9 = .ok (.invokevirtual 230, 3) := by rw [cc_153]; decide +kernel
theorem D153_12 : decode (cod 153) 12 = .ok (.ifCond .ne 5, 3) := by rw [cc_153]; decide +kernel
theorem D153_15 : decode (cod 153) 15 = .ok (.iconst 0, 1) := by rw [cc_153]; decide +kernel
theorem D153_16 : decode (cod 153) 16 = .ok (.ireturn, 1) := by rw [cc_153]; decide +kernel
theorem D153_17 : decode (cod 153) 17 = .ok (.iconst 0, 1) := by rw [cc_153]; decide +kernel
theorem D153_18 : decode (cod 153) 18 = .ok (.istore_n 3, 1) := by rw [cc_153]; decide +kernel
theorem D153_19 : decode (cod 153) 19 = .ok (.iload_n 3, 1) := by rw [cc_153]; decide +kernel
theorem D153_20 : decode (cod 153) 20 = .ok (.bipush 16, 2) := by rw [cc_153]; decide +kernel
theorem D153_22 : decode (cod 153) 22 = .ok (.if_icmp .ge 31, 3) := by rw [cc_153]; decide +kernel
theorem D153_25 : decode (cod 153) 25 = .ok (.aload_n 0, 1) := by rw [cc_153]; decide +kernel
theorem D153_26 : decode (cod 153) 26 = .ok (.getfield 19, 3) := by rw [cc_153]; decide +kernel
theorem D153_29 : decode (cod 153) 29 = .ok (.bipush 16, 2) := by rw [cc_153]; decide +kernel
theorem D153_31 : decode (cod 153) 31 = .ok (.iload_n 1, 1) := by rw [cc_153]; decide +kernel
theorem D153_32 : decode (cod 153) 32 = .ok (.imul, 1) := by rw [cc_153]; decide +kernel
theorem D153_33 : decode (cod 153) 33 = .ok (.iload_n 3, 1) := by rw [cc_153]; decide +kernel
theorem D153_34 : decode (cod 153) 34 = .ok (.iadd, 1) := by rw [cc_153]; decide +kernel
theorem D153_35 : decode (cod 153) 35 = .ok (.aload_n 0, 1) := by rw [cc_153]; decide +kernel
theorem D153_36 : decode (cod 153) 36 = .ok (.getfield 7, 3) := by rw [cc_153]; decide +kernel
theorem D153_39 : decode (cod 153) 39 = .ok (.bipush 16, 2) := by rw [cc_153]; decide +kernel
theorem D153_41 : decode (cod 153) 41 = .ok (.iload_n 2, 1) := by rw [cc_153]; decide +kernel
theorem D153_42 : decode (cod 153) 42 = .ok (.imul, 1) := by rw [cc_153]; decide +kernel
theorem D153_43 : decode (cod 153) 43 = .ok (.iload_n 3, 1) := by rw [cc_153]; decide +kernel
theorem D153_44 : decode (cod 153) 44 = .ok (.iadd, 1) := by rw [cc_153]; decide +kernel
theorem D153_45 : decode (cod 153) 45 = .ok (.iaload, 1) := by rw [cc_153]; decide +kernel
theorem D153_46 : decode (cod 153) 46 = .ok (.iastore, 1) := by rw [cc_153]; decide +kernel
theorem D153_47 : decode (cod 153) 47 = .ok (.iinc 3 1, 3) := by rw [cc_153]; decide +kernel
theorem D153_50 : decode (cod 153) 50 = .ok (.goto (-31), 3) := by rw [cc_153]; decide +kernel
theorem D153_53 : decode (cod 153) 53 = .ok (.iconst 1, 1) := by rw [cc_153]; decide +kernel
theorem D153_54 : decode (cod 153) 54 = .ok (.ireturn, 1) := by rw [cc_153]; decide +kernel
theorem b153_0 {d : Nat} {i0 : Nat} {x1 x2 : Int} {I L : Nat → Nat → Nat → Int} {t : Nat → Nat} : Res (d + 1) 153 0 [vr 12 i0, vi x1, vi x2, vx] [] (mk I L t) = (Cal d 149 [vi x1] (mk I L t)).bind fun v => Res (d + 1) 153 4 [vr 12 i0, vi x1, vi x2, vx] (psh 149 v.1 []) v.2 :=
  Eq.trans (e_iload_n D153_0 rfl rfl) <| e_callS D153_1 rfl o_153 m_12_226 (by decide) rfl rfl
theorem b153_4 {d : Nat} {i0 : Nat} {x1 x2 xs0 : Int} {I L : Nat → Nat → Nat → Int} {t : Nat → Nat} : Res d 153 4 [vr 12 i0, vi x1, vi x2, vx] [vi xs0] (mk I L t) = if xs0 = 0 then Res d 153 15 [vr 12 i0, vi x1, vi x2, vx] [] (mk I L t) else Res d 153 7 [vr 12 i0, vi x1, vi x2, vx] [] (mk I L t) :=
  e_ifeq D153_4 rfl rfl
theorem b153_7 {d : Nat} {i0 : Nat} {x1 x2 : Int} {I L : Nat → Nat → Nat → Int} {t : Nat → Nat} : Res (d + 1) 153 7 [vr 12 i0, vi x1, vi x2, vx] [] (mk I L t) = (Cal d 147 [vr 12 i0, vi x2] (mk I L t)).bind fun v => Res (d + 1) 153 12 [vr 12 i0, vi x1, vi x2, vx] (psh 147 v.1 []) v.2 :=
  Eq.trans (e_aload_n D153_7 rfl rfl) <| Eq.trans (e_iload_n D153_8 rfl rfl) <| e_callV D153_9 rfl o_153 m_12_230 (by decide) rfl rfl
theorem b153_12 {d : Nat} {i0 : Nat} {x1 x2 xs0 : Int} {I L : Nat → Nat → Nat → Int} {t : Nat → Nat} : Res d 153 12 [vr 12 i0, vi x1, vi x2, vx] [vi xs0] (mk I L t) = if ¬ xs0 = 0 then Res d 153 17 [vr 12 i0, vi x1, vi x2, vx] [] (mk I L t) else Res d 153 15 [vr 12 i0, vi x1, vi x2, vx] [] (mk I L t) :=
  e_ifne D153_12 rfl rfl
theorem b153_15 {d : Nat} {i0 : Nat} {x1 x2 : Int} {I L : Nat → Nat → Nat → Int} {t : Nat → Nat} : Res d 153 15 [vr 12 i0, vi x1, vi x2, vx] [] (mk I L t) = some (vi 0, (mk I L t)) :=
  Eq.trans (e_iconst (x := 0) D153_15 rfl rfl) <| e_iret D153_16 rfl
theorem b153_17 {d : Nat} {i0 : Nat} {x1 x2 : Int} {I L : Nat → Nat → Nat → Int} {t : Nat → Nat} : Res d 153 17 [vr 12 i0, vi x1, vi x2, vx] [] (mk I L t) = Res d 153 19 [vr 12 i0, vi x1, vi x2, vi 0] [] (mk I L t) :=
  Eq.trans (e_iconst (x := 0) D153_17 rfl rfl) <| e_istore_n (ls1 := [vr 12 i0, vi x1, vi x2, vi 0]) D153_18 rfl (show 3 < 4 by decide) rfl
theorem b153_19 {d : Nat} {i0 : Nat} {x1 x2 x3 : Int} {I L : Nat → Nat → Nat → Int} {t : Nat → Nat} : Res d 153 19 [vr 12 i0, vi x1, vi x2, vi x3] [] (mk I L t) = if 16 ≤ x3 then Res d 153 53 [vr 12 i0, vi x1, vi x2, vi x3] [] (mk I L t) else Res d 153 25 [vr 12 i0, vi x1, vi x2, vi x3] [] (mk I L t) :=
  Eq.trans (e_iload_n D153_19 rfl rfl) <| Eq.trans (e_bipush (x := 16) D153_20 rfl rfl) <| e_icge D153_22 rfl rfl
theorem b153_25 {d : Nat} {i0 : Nat} {x1 x2 x3 : Int} {I L : Nat → Nat → Nat → Int} {t : Nat → Nat} (g1 : 0 ≤ w32 ((w32 (16 * x2)) + x3) ∧ w32 ((w32 (16 * x2)) + x3) < 2112) (g2 : 0 ≤ w32 ((w32 (16 * x1)) + x3) ∧ w32 ((w32 (16 * x1)) + x3) < 96) : Res d 153 25 [vr 12 i0, vi x1, vi x2, vi x3] [] (mk I L t) = Res d 153 19 [vr 12 i0, vi x1, vi x2, vi (w32 (x3 + 1))] [] (mk (up3 I 51 i0 (w32 ((w32 (16 * x1)) + x3)).toNat (I 48 i0 (w32 ((w32 (16 * x2)) + x3)).toNat)) L t) :=
  Eq.trans (e_aload_n D153_25 rfl rfl) <| Eq.trans (e_getP (p := (51, i0)) D153_26 rfl o_153 f_12_19 (sh_12 _) (by decide) (pp_12_8 _ _)) <| Eq.trans (e_bipush (x := 16) D153_29 rfl rfl) <| Eq.trans (e_iload_n D153_31 rfl rfl) <| Eq.trans (e_imul D153_32 rfl) <| Eq.trans (e_iload_n D153_33 rfl rfl) <| Eq.trans (e_iadd D153_34 rfl) <| Eq.trans (e_aload_n D153_35 rfl rfl) <| Eq.trans (e_getP (p := (48, i0)) D153_36 rfl o_153 f_12_7 (sh_12 _) (by decide) (pp_12_5 _ _)) <| Eq.trans (e_bipush (x := 16) D153_39 rfl rfl) <| Eq.trans (e_iload_n D153_41 rfl rfl) <| Eq.trans (e_imul D153_42 rfl) <| Eq.trans (e_iload_n D153_43 rfl rfl) <| Eq.trans (e_iadd D153_44 rfl) <| Eq.trans (e_iald D153_45 rfl (al_48 _) g1) <| Eq.trans (e_iast D153_46 rfl (al_51 _) rfl g2) <| Eq.trans (e_iinc (ls1 := [vr 12 i0, vi x1, vi x2, vi (w32 (x3 + 1))]) D153_47 rfl rfl rfl) <| e_goto (q1 := 19) D153_50 rfl
theorem b153_53 {d : Nat} {i0 : Nat} {x1 x2 x3 : Int} {I L : Nat → Nat → Nat → Int} {t : Nat → Nat} : Res d 153 53 [vr 12 i0, vi x1, vi x2, vi x3] [] (mk I L t) = some (vi 1, (mk I L t)) :=
  Eq.trans (e_iconst (x := 1) D153_53 rfl rfl) <| e_iret D153_54 rfl
/-! m_put -/
theorem cc_154 : cod 154 = cX12_put := rfl
theorem D154_0 : decode (cod 154) 0 = .ok (.iload_n 1, 1) := by rw [cc_154]; decide +kernel
theorem D154_1 : decode (cod 154) 1 = .ok (.invokestatic 233, 3) := by rw [cc_154]; decide +kernel
theorem D154_4 : decode (cod 154) 4 = .ok (.ifCond .eq 27, 3) := by rw [cc_154]; decide +kernel
theorem D154_7 : decode (cod 154) 7 = .ok (.iload_n 2, 1) := by rw [cc_154]; decide +kernel
theorem D154_8 : decode (cod 154) 8 = .ok (.iconst (-1), 1) := by rw [cc_154]; decide +kernel
theorem D154_9 : decode (cod 154) 9 = .ok (.if_icmp .eq 11, 3) := by rw [cc_154]; decide +kernel
theorem D154_12 : decode (cod 154) 12 = .ok (.aload_n 0, 1) := by rw [cc_154]; decide +kernel
theorem D154_13 : decode (cod 154) 13 = .ok (.iload_n 2, 1) := by rw [cc_154]; decide +kernel
theorem D154_14 : decode (cod 154) 14 = .ok (.invokevirtual 230, 3) := by rw [cc_154]; decide +kernel
theorem D154_17 : decode (cod 154) 17 = .ok (.ifCond .eq 14, 3) := by rw [cc_154]; decide +kernel
theorem D154_20 : decode (cod 154) 20 = .ok (.aload_n 0, 1) := by rw [cc_154]; decide +kernel
theorem D154_21 : decode (cod 154) 21 = .ok (.getfield 25, 3) := by rw [cc_154]; decide +kernel
theorem D154_24 : decode (cod 154) 24 = .ok (.iload_n 1, 1) := by rw [cc_154]; decide +kernel
theorem D154_25 : decode (cod 154) 25 = .ok (.iaload, 1) := by rw [cc_154]; decide +kernel
theorem D154_26 : decode (cod 154) 26 = .ok (.bipush 9, 2) := by rw [cc_154]; decide +kernel
theorem D154_28 : decode (cod 154) 28 = .ok (.if_icmp .ne 5, 3) := by rw [cc_154]; decide +kernel
theorem D154_31 : decode (cod 154) 31 = .ok (.iconst (-1), 1) := by rw [cc_154]; decide +kernel
theorem D154_32 : decode (cod 154) 32 = .ok (.ireturn, 1) := by rw [cc_154]; decide +kernel
theorem D154_33 : decode (cod 154) 33 = .ok (.aload_n 0, 1) := by rw [cc_154]; decide +kernel
theorem D154_34 : decode (cod 154) 34 = .ok (.getfield 22, 3) := by rw [cc_154]; decide +kernel
theorem D154_37 : decode (cod 154) 37 = .ok (.bipush 9, 2) := by rw [cc_154]; decide +kernel
theorem D154_39 : decode (cod 154) 39 = .ok (.iload_n 1, 1) := by rw [cc_154]; decide +kernel
theorem D154_40 : decode (cod 154) 40 = .ok (.imul, 1) := by rw [cc_154]; decide +kernel
theorem D154_41 : decode (cod 154) 41 = .ok (.aload_n 0, 1) := by rw [cc_154]; decide +kernel
theorem D154_42 : decode (cod 154) 42 = .ok (.getfield 25, 3) := by rw [cc_154]; decide +kernel
theorem D154_45 : decode (cod 154) 45 = .ok (.iload_n 1, 1) := by rw [cc_154]; decide +kernel
theorem D154_46 : decode (cod 154) 46 = .ok (.iaload, 1) := by rw [cc_154]; decide +kernel
theorem D154_47 : decode (cod 154) 47 = .ok (.iadd, 1) := by rw [cc_154]; decide +kernel
theorem D154_48 : decode (cod 154) 48 = .ok (.iload_n 2, 1) := by rw [cc_154]; decide +kernel
theorem D154_49 : decode (cod 154) 49 = .ok (.iastore, 1) := by rw [cc_154]; decide +kernel
theorem D154_50 : decode (cod 154) 50 = .ok (.aload_n 0, 1) := by rw [cc_154]; decide +kernel
theorem D154_51 : decode (cod 154) 51 = .ok (.getfield 25, 3) := by rw [cc_154]; decide +kernel
theorem D154_54 : decode (cod 154) 54 = .ok (.iload_n 1, 1) := by rw [cc_154]; decide +kernel
theorem D154_55 : decode (cod 154) 55 = .ok (.dup2, 1) := by rw [cc_154]; decide +kernel
theorem D154_56 : decode (cod 154) 56 = .ok (.iaload, 1) := by rw [cc_154]; decide +kernel
theorem D154_57 : decode (cod 154) 57 = .ok (.iconst 1, 1) := by rw [cc_154]; decide +kernel
theorem D154_58 : decode (cod 154) 58 = .ok (.iadd, 1) := by rw [cc_154]; decide +kernel
theorem D154_59 : decode (cod 154) 59 = .ok (.iastore, 1) := by rw [cc_154]; decide +kernel
theorem D154_60 : decode (cod 154) 60 = .ok (.aload_n 0, 1) := by rw [cc_154]; decide +kernel
theorem D154_61 : decode (cod 154) 61 = .ok (.getfield 25, 3) := by rw [cc_154]; decide +kernel
theorem D154_64 : decode (cod 154) 64 = .ok (.iload_n 1, 1) := by rw [cc_154]; decide +kernel
theorem D154_65 : decode (cod 154) 65 = .ok (.iaload, 1) := by rw [cc_154]; decide +kernel
theorem D154_66 : decode (cod 154) 66 = .ok (.ireturn, 1) := by rw [cc_154]; decide +kernel
theorem b154_0 {d : Nat} {i0 : Nat} {x1 x2 : Int} {I L : Nat → Nat → Nat → Int} {t : Nat → Nat} : Res (d + 1) 154 0 [vr 12 i0, vi x1, vi x2] [] (mk I L t) = (Cal d 148 [vi x1] (mk I L t)).bind fun v => Res (d + 1) 154 4 [vr 12 i0, vi x1, vi x2] (psh 148 v.1 []) v.2 :=
  Eq.trans (e_iload_n D154_0 rfl rfl) <| e_callS D154_1 rfl o_154 m_12_233 (by decide) rfl rfl
theorem b154_4 {d : Nat} {i0 : Nat} {x1 x2 xs0 : Int} {I L : Nat → Nat → Nat → Int} {t : Nat → Nat} : Res d 154 4 [vr 12 i0, vi x1, vi x2] [vi xs0] (mk I L t) = if xs0 = 0 then Res d 154 31 [vr 12 i0, vi x1, vi x2] [] (mk I L t) else Res d 154 7 [vr 12 i0, vi x1, vi x2] [] (mk I L t) :=
  e_ifeq D154_4 rfl rfl
theorem b154_7 {d : Nat} {i0 : Nat} {x1 x2 : Int} {I L : Nat → Nat → Nat → Int} {t : Nat → Nat} : Res d 154 7 [vr 12 i0, vi x1, vi x2] [] (mk I L t) = if x2 = -1 then Res d 154 20 [vr 12 i0, vi x1, vi x2] [] (mk I L t) else Res d 154 12 [vr 12 i0, vi x1, vi x2] [] (mk I L t) :=
  Eq.trans (e_iload_n D154_7 rfl rfl) <| Eq.trans (e_iconst (x := -1) D154_8 rfl rfl) <| e_iceq D154_9 rfl rfl
theorem b154_12 {d : Nat} {i0 : Nat} {x1 x2 : Int} {I L : Nat → Nat → Nat → Int} {t : Nat → Nat} : Res (d + 1) 154 12 [vr 12 i0, vi x1, vi x2] [] (mk I L t) = (Cal d 147 [vr 12 i0, vi x2] (mk I L t)).bind fun v => Res (d + 1) 154 17 [vr 12 i0, vi x1, vi x2] (psh 147 v.1 []) v.2 :=
  Eq.trans (e_aload_n D154_12 rfl rfl) <| Eq.trans (e_iload_n D154_13 rfl rfl) <| e_callV D154_14 rfl o_154 m_12_230 (by decide) rfl rfl
theorem b154_17 {d : Nat} {i0 : Nat} {x1 x2 xs0 : Int} {I L : Nat → Nat → Nat → Int} {t : Nat → Nat} : Res d 154 17 [vr 12 i0, vi x1, vi x2] [vi xs0] (mk I L t) = if xs0 = 0 then Res d 154 31 [vr 12 i0, vi x1, vi x2] [] (mk I L t) else Res d 154 20 [vr 12 i0, vi x1, vi x2] [] (mk I L t) :=
  e_ifeq D154_17 rfl rfl
theorem b154_20 {d : Nat} {i0 : Nat} {x1 x2 : Int} {I L : Nat → Nat → Nat → Int} {t : Nat → Nat} (g1 : 0 ≤ x1 ∧ x1 < 6) : Res d 154 20 [vr 12 i0, vi x1, vi x2] [] (mk I L t) = if ¬ I 53 i0 x1.toNat = 9 then Res d 154 33 [vr 12 i0, vi x1, vi x2] [] (mk I L t) else Res d 154 31 [vr 12 i0, vi x1, vi x2] [] (mk I L t) :=
  Eq.trans (e_aload_n D154_20 rfl rfl) <| Eq.trans (e_getP (p := (53, i0)) D154_21 rfl o_154 f_12_25 (sh_12 _) (by decide) (pp_12_10 _ _)) <| Eq.trans (e_iload_n D154_24 rfl rfl) <| Eq.trans (e_iald D154_25 rfl (al_53 _) g1) <| Eq.trans (e_bipush (x := 9) D154_26 rfl rfl) <| e_icne D154_28 rfl rfl
theorem b154_31 {d : Nat} {i0 : Nat} {x1 x2 : Int} {I L : Nat → Nat → Nat → Int} {t : Nat → Nat} : Res d 154 31 [vr 12 i0, vi x1, vi x2] [] (mk I L t) = some (vi (-1), (mk I L t)) :=
  Eq.trans (e_iconst (x := -1) D154_31 rfl rfl) <| e_iret D154_32 rfl
theorem b154_33 {d : Nat} {i0 : Nat} {x1 x2 : Int} {I L : Nat → Nat → Nat → Int} {t : Nat → Nat} (g1 : 0 ≤ x1 ∧ x1 < 6) (g2 : 0 ≤ w32 ((w32 (9 * x1)) + (I 53 i0 x1.toNat)) ∧ w32 ((w32 (9 * x1)) + (I 53 i0 x1.toNat)) < 54) : Res d 154 33 [vr 12 i0, vi x1, vi x2] [] (mk I L t) = some (vi ((up3 (up3 I 52 i0 (w32 ((w32 (9 * x1)) + (I 53 i0 x1.toNat))).toNat x2) 53 i0 x1.toNat (w32 (((up3 I 52 i0 (w32 ((w32 (9 * x1)) + (I 53 i0 x1.toNat))).toNat x2) 53 i0 x1.toNat) + 1))) 53 i0 x1.toNat), (mk (up3 (up3 I 52 i0 (w32 ((w32 (9 * x1)) + (I 53 i0 x1.toNat))).toNat x2) 53 i0 x1.toNat (w32 (((up3 I 52 i0 (w32 ((w32 (9 * x1)) + (I 53 i0 x1.toNat))).toNat x2) 53 i0 x1.toNat) + 1))) L t)) :=
  Eq.trans (e_aload_n D154_33 rfl rfl) <| Eq.trans (e_getP (p := (52, i0)) D154_34 rfl o_154 f_12_22 (sh_12 _) (by decide) (pp_12_9 _ _)) <| Eq.trans (e_bipush (x := 9) D154_37 rfl rfl) <| Eq.trans (e_iload_n D154_39 rfl rfl) <| Eq.trans (e_imul D154_40 rfl) <| Eq.trans (e_aload_n D154_41 rfl rfl) <| Eq.trans (e_getP (p := (53, i0)) D154_42 rfl o_154 f_12_25 (sh_12 _) (by decide) (pp_12_10 _ _)) <| Eq.trans (e_iload_n D154_45 rfl rfl) <| Eq.trans (e_iald D154_46 rfl (al_53 _) g1) <| Eq.trans (e_iadd D154_47 rfl) <| Eq.trans (e_iload_n D154_48 rfl rfl) <| Eq.trans (e_iast D154_49 rfl (al_52 _) rfl g2) <| Eq.trans (e_aload_n D154_50 rfl rfl) <| Eq.trans (e_getP (p := (53, i0)) D154_51 rfl o_154 f_12_25 (sh_12 _) (by decide) (pp_12_10 _ _)) <| Eq.trans (e_iload_n D154_54 rfl rfl) <| Eq.trans (e_dup2 D154_55 rfl) <| Eq.trans (e_iald D154_56 rfl (al_53 _) g1) <| Eq.trans (e_iconst (x := 1) D154_57 rfl rfl) <| Eq.trans (e_iadd D154_58 rfl) <| Eq.trans (e_iast D154_59 rfl (al_53 _) rfl g1) <| Eq.trans (e_aload_n D154_60 rfl rfl) <| Eq.trans (e_getP (p := (53, i0)) D154_61 rfl o_154 f_12_25 (sh_12 _) (by decide) (pp_12_10 _ _)) <| Eq.trans (e_iload_n D154_64 rfl rfl) <| Eq.trans (e_iald D154_65 rfl (al_53 _) g1) <| e_iret D154_66 rfl
/-! m_clear -/
theorem cc_155 : cod 155 = cX12_clear := rfl
theorem D155_0 : decode (cod 155) 0 = .ok (.iload_n 1, 1) := by rw [cc_155]; decide +kernel
theorem D155_1 : decode (cod 155) 1 = .ok (.invokestatic 233, 3) := by rw [cc_155]; decide +kernel
theorem D155_4 : decode (cod 155) 4 = .ok (.ifCond .ne 5, 3) := by rw [cc_155]; decide +kernel
theorem D155_7 : decode (cod 155) 7 = .ok (.iconst 0, 1) := by rw [cc_155]; decide +kernel
theorem D155_8 : decode (cod 155) 8 = .ok (.ireturn, 1) := by rw [cc_155]; decide +kernel
theorem D155_9 : decode (cod 155) 9 = .ok (.aload_n 0, 1) := by rw [cc_155]; decide +kernel
theorem D155_10 : decode (cod 155) 10 = .ok (.getfield 25, 3) := by rw [cc_155]; decide +kernel
theorem D155_13 : decode (cod 155) 13 = .ok (.iload_n 1, 1) := by rw [cc_155]; decide +kernel
theorem D155_14 : decode (cod 155) 14 = .ok (.iconst 0, 1) := by rw [cc_155]; decide +kernel
theorem D155_15 : decode (cod 155) 15 = .ok (.iastore, 1) := by rw [cc_155]; decide +kernel
theorem D155_16 : decode (cod 155) 16 = .ok (.iconst 1, 1) := by rw [cc_155]; decide +kernel
theorem D155_17 : decode (cod 155) 17 = .ok (.ireturn, 1) := by rw [cc_155]; decide +kernel
theorem b155_0 {d : Nat} {i0 : Nat} {x1 : Int} {I L : Nat → Nat → Nat → Int} {t : Nat → Nat} : Res (d + 1) 155 0 [vr 12 i0, vi x1] [] (mk I L t) = (Cal d 148 [vi x1] (mk I L t)).bind fun v => Res (d + 1) 155 4 [vr 12 i0, vi x1] (psh 148 v.1 []) v.2 :=
  Eq.trans (e_iload_n D155_0 rfl rfl) <| e_callS D155_1 rfl o_155 m_12_233 (by decide) rfl rfl
theorem b155_4 {d : Nat} {i0 : Nat} {x1 xs0 : Int} {I L : Nat → Nat → Nat → Int} {t : Nat → Nat} : Res d 155 4 [vr 12 i0, vi x1] [vi xs0] (mk I L t) = if ¬ xs0 = 0 then Res d 155 9 [vr 12 i0, vi x1] [] (mk I L t) else Res d 155 7 [vr 12 i0, vi x1] [] (mk I L t) :=
  e_ifne D155_4 rfl rfl
theorem b155_7 {d : Nat} {i0 : Nat} {x1 : Int} {I L : Nat → Nat → Nat → Int} {t : Nat → Nat} : Res d 155 7 [vr 12 i0, vi x1] [] (mk I L t) = some (vi 0, (mk I L t)) :=
  Eq.trans (e_iconst (x := 0) D155_7 rfl rfl) <| e_iret D155_8 rfl
theorem b155_9 {d : Nat} {i0 : Nat} {x1 : Int} {I L : Nat → Nat → Nat → Int} {t : Nat → Nat} (g1 : 0 ≤ x1 ∧ x1 < 6) : Res d 155 9 [vr 12 i0, vi x1] [] (mk I L t) = some (vi 1, (mk (up3 I 53 i0 x1.toNat 0) L t)) :=
  Eq.trans (e_aload_n D155_9 rfl rfl) <| Eq.trans (e_getP (p := (53, i0)) D155_10 rfl o_155 f_12_25 (sh_12 _) (by decide) (pp_12_10 _ _)) <| Eq.trans (e_iload_n D155_13 rfl rfl) <| Eq.trans (e_iconst (x := 0) D155_14 rfl rfl) <| Eq.trans (e_iast D155_15 rfl (al_53 _) rfl g1) <| Eq.trans (e_iconst (x := 1) D155_16 rfl rfl) <| e_iret D155_17 rfl
/-! m_takesRow -/
theorem cc_156 : cod 156 = cX12_takesRow := rfl
theorem D156_0 : decode (cod 156) 0 = .ok (.aload_n 0, 1) := by rw [cc_156]; decide +kernel
theorem D156_1 : decode (cod 156) 1 = .ok (.aload_n 0, 1) := by rw [cc_156]; decide +kernel
theorem D156_2 : decode (cod 156) 2 = .ok (.getfield 25, 3) := by rw [cc_156]; decide +kernel
theorem D156_5 : decode (cod 156) 5 = .ok (.iload_n 1, 1) := by rw [cc_156]; decide +kernel
theorem D156_6 : decode (cod 156) 6 = .ok (.iaload, 1) := by rw [cc_156]; decide +kernel
theorem D156_7 : decode (cod 156) 7 = .ok (.putfield 236, 3) := by rw [cc_156]; decide +kernel
theorem D156_10 : decode (cod 156) 10 = .ok (.iconst 0, 1) := by rw [cc_156]; decide +kernel
theorem D156_11 : decode (cod 156) 11 = .ok (.istore_n 2, 1) := by rw [cc_156]; decide +kernel
theorem D156_12 : decode (cod 156) 12 = .ok (.iload_n 2, 1) := by rw [cc_156]; decide +kernel
theorem D156_13 : decode (cod 156) 13 = .ok (.aload_n 0, 1) := by rw [cc_156]; decide +kernel
theorem D156_14 : decode (cod 156) 14 = .ok (.getfield 236, 3) := by rw [cc_156]; decide +kernel
theorem D156_17 : decode (cod 156) 17 = .ok (.if_icmp .ge 26, 3) := by rw [cc_156]; decide +kernel
theorem D156_20 : decode (cod 156) 20 = .ok (.aload_n 0, 1) := by rw [cc_156]; decide +kernel
theorem D156_21 : decode (cod 156) 21 = .ok (.getfield 28, 3) := by rw [cc_156]; decide +kernel
theorem D156_24 : decode (cod 156) 24 = .ok (.iload_n 2, 1) := by rw [cc_156]; decide +kernel
theorem D156_25 : decode (cod 156) 25 = .ok (.aload_n 0, 1) := by rw [cc_156]; decide +kernel
theorem D156_26 : decode (cod 156) 26 = .ok (.getfield 22, 3) := by rw [cc_156]; decide +kernel
theorem D156_29 : decode (cod 156) 29 = .ok (.bipush 9, 2) := by rw [cc_156]; decide +kernel
theorem D156_31 : decode (cod 156) 31 = .ok (.iload_n 1, 1) := by rw [cc_156]; decide +kernel
theorem D156_32 : decode (cod 156) 32 = .ok (.imul, 1) := by rw [cc_156]; decide +kernel
theorem D156_33 : decode (cod 156) 33 = .ok (.iload_n 2, 1) := by rw [cc_156]; decide +kernel
theorem D156_34 : decode (cod 156) 34 = .ok (.iadd, 1) := by rw [cc_156]; decide +kernel
theorem D156_35 : decode (cod 156) 35 = .ok (.iaload, 1) := by rw [cc_156]; decide +kernel
theorem D156_36 : decode (cod 156) 36 = .ok (.iastore, 1) := by rw [cc_156]; decide +kernel
theorem D156_37 : decode (cod 156) 37 = .ok (.iinc 2 1, 3) := by rw [cc_156]; decide +kernel
theorem D156_40 : decode (cod 156) 40 = .ok (.goto (-28), 3) := by rw [cc_156]; decide +kernel
theorem D156_43 : decode (cod 156) 43 = .ok (.return_, 1) := by rw [cc_156]; decide +kernel
theorem b156_0 {d : Nat} {i0 : Nat} {x1 : Int} {I L : Nat → Nat → Nat → Int} {t : Nat → Nat} (g1 : 0 ≤ x1 ∧ x1 < 6) : Res d 156 0 [vr 12 i0, vi x1, vx] [] (mk I L t) = Res d 156 12 [vr 12 i0, vi x1, vi 0] [] (mk (up3 I 12 i0 12 (I 53 i0 x1.toNat)) L t) :=
  Eq.trans (e_aload_n D156_0 rfl rfl) <| Eq.trans (e_aload_n D156_1 rfl rfl) <| Eq.trans (e_getP (p := (53, i0)) D156_2 rfl o_156 f_12_25 (sh_12 _) (by decide) (pp_12_10 _ _)) <| Eq.trans (e_iload_n D156_5 rfl rfl) <| Eq.trans (e_iald D156_6 rfl (al_53 _) g1) <| Eq.trans (e_putI D156_7 rfl o_156 f_12_236 (sh_12 _) rfl (by decide) (Or.inl (by decide))) <| Eq.trans (e_iconst (x := 0) D156_10 rfl rfl) <| e_istore_n (ls1 := [vr 12 i0, vi x1, vi 0]) D156_11 rfl (show 2 < 3 by decide) rfl
theorem b156_12 {d : Nat} {i0 : Nat} {x1 x2 : Int} {I L : Nat → Nat → Nat → Int} {t : Nat → Nat} : Res d 156 12 [vr 12 i0, vi x1, vi x2] [] (mk I L t) = if I 12 i0 12 ≤ x2 then Res d 156 43 [vr 12 i0, vi x1, vi x2] [] (mk I L t) else Res d 156 20 [vr 12 i0, vi x1, vi x2] [] (mk I L t) :=
  Eq.trans (e_iload_n D156_12 rfl rfl) <| Eq.trans (e_aload_n D156_13 rfl rfl) <| Eq.trans (e_getI D156_14 rfl o_156 f_12_236 (sh_12 _) (by decide)) <| e_icge D156_17 rfl rfl
theorem b156_20 {d : Nat} {i0 : Nat} {x1 x2 : Int} {I L : Nat → Nat → Nat → Int} {t : Nat → Nat} (g1 : 0 ≤ w32 ((w32 (9 * x1)) + x2) ∧ w32 ((w32 (9 * x1)) + x2) < 54) (g2 : 0 ≤ x2 ∧ x2 < 9) : Res d 156 20 [vr 12 i0, vi x1, vi x2] [] (mk I L t) = Res d 156 12 [vr 12 i0, vi x1, vi (w32 (x2 + 1))] [] (mk (up3 I 54 i0 x2.toNat (I 52 i0 (w32 ((w32 (9 * x1)) + x2)).toNat)) L t) :=
  Eq.trans (e_aload_n D156_20 rfl rfl) <| Eq.trans (e_getP (p := (54, i0)) D156_21 rfl o_156 f_12_28 (sh_12 _) (by decide) (pp_12_11 _ _)) <| Eq.trans (e_iload_n D156_24 rfl rfl) <| Eq.trans (e_aload_n D156_25 rfl rfl) <| Eq.trans (e_getP (p := (52, i0)) D156_26 rfl o_156 f_12_22 (sh_12 _) (by decide) (pp_12_9 _ _)) <| Eq.trans (e_bipush (x := 9) D156_29 rfl rfl) <| Eq.trans (e_iload_n D156_31 rfl rfl) <| Eq.trans (e_imul D156_32 rfl) <| Eq.trans (e_iload_n D156_33 rfl rfl) <| Eq.trans (e_iadd D156_34 rfl) <| Eq.trans (e_iald D156_35 rfl (al_52 _) g1) <| Eq.trans (e_iast D156_36 rfl (al_54 _) rfl g2) <| Eq.trans (e_iinc (ls1 := [vr 12 i0, vi x1, vi (w32 (x2 + 1))]) D156_37 rfl rfl rfl) <| e_goto (q1 := 12) D156_40 rfl
theorem b156_43 {d : Nat} {i0 : Nat} {x1 x2 : Int} {I L : Nat → Nat → Nat → Int} {t : Nat → Nat} : Res d 156 43 [vr 12 i0, vi x1, vi x2] [] (mk I L t) = some (vx, (mk I L t)) :=
  e_vret D156_43 rfl
/-! m_isPlace -/
theorem cc_157 : cod 157 = cX12_isPlace := rfl
theorem D157_0 : decode (cod 157) 0 = .ok (.iload_n 1, 1) := by rw [cc_157]; decide +kernel
theorem D157_1 : decode (cod 157) 1 = .ok (.iconst 0, 1) := by rw [cc_157]; decide +kernel
theorem D157_2 : decode (cod 157) 2 = .ok (.aload_n 0, 1) := by rw [cc_157]; decide +kernel
theorem D157_3 : decode (cod 157) 3 = .ok (.getfield 236, 3) := by rw [cc_157]; decide +kernel
theorem D157_6 : decode (cod 157) 6 = .ok (.iconst 1, 1) := by rw [cc_157]; decide +kernel
theorem D157_7 : decode (cod 157) 7 = .ok (.isub, 1) := by rw [cc_157]; decide +kernel
theorem D157_8 : decode (cod 157) 8 = .ok (.invokestatic 219, 3) := by rw [cc_157]; decide +kernel
theorem D157_11 : decode (cod 157) 11 = .ok (.ireturn, 1) := by rw [cc_157]; decide +kernel
theorem b157_0 {d : Nat} {i0 : Nat} {x1 : Int} {I L : Nat → Nat → Nat → Int} {t : Nat → Nat} : Res (d + 1) 157 0 [vr 12 i0, vi x1] [] (mk I L t) = (Cal d 146 [vi x1, vi 0, vi (w32 ((I 12 i0 12) - 1))] (mk I L t)).bind fun v => Res (d + 1) 157 11 [vr 12 i0, vi x1] (psh 146 v.1 []) v.2 :=
  Eq.trans (e_iload_n D157_0 rfl rfl) <| Eq.trans (e_iconst (x := 0) D157_1 rfl rfl) <| Eq.trans (e_aload_n D157_2 rfl rfl) <| Eq.trans (e_getI D157_3 rfl o_157 f_12_236 (sh_12 _) (by decide)) <| Eq.trans (e_iconst (x := 1) D157_6 rfl rfl) <| Eq.trans (e_isub D157_7 rfl) <| e_callS D157_8 rfl o_157 m_12_219 (by decide) rfl rfl
theorem b157_11 {d : Nat} {i0 : Nat} {x1 xs0 : Int} {I L : Nat → Nat → Nat → Int} {t : Nat → Nat} (g1 : xs0 = 0 ∨ xs0 = 1) : Res d 157 11 [vr 12 i0, vi x1] [vi xs0] (mk I L t) = some (vi xs0, (mk I L t)) :=
  e_iret D157_11 (nrz rfl g1)
/-! m_facesInLine -/
theorem cc_158 : cod 158 = cX12_facesInLine := rfl
theorem D158_0 : decode (cod 158) 0 = .ok (.iconst 0, 1) := by rw [cc_158]; decide +kernel
theorem D158_1 : decode (cod 158) 1 = .ok (.istore_n 1, 1) := by rw [cc_158]; decide +kernel
theorem D158_2 : decode (cod 158) 2 = .ok (.iconst 0, 1) := by rw [cc_158]; decide +kernel
theorem D158_3 : decode (cod 158) 3 = .ok (.istore_n 2, 1) := by rw [cc_158]; decide +kernel
theorem D158_4 : decode (cod 158) 4 = .ok (.iload_n 2, 1) := by rw [cc_158]; decide +kernel
theorem D158_5 : decode (cod 158) 5 = .ok (.aload_n 0, 1) := by rw [cc_158]; decide +kernel
theorem D158_6 : decode (cod 158) 6 = .ok (.getfield 236, 3) := by rw [cc_158]; decide +kernel
theorem D158_9 : decode (cod 158) 9 = .ok (.if_icmp .ge 27, 3) := by rw [cc_158]; decide +kernel
theorem D158_12 : decode (cod 158) 12 = .ok (.iload_n 1, 1) := by rw [cc_158]; decide +kernel
theorem D158_13 : decode (cod 158) 13 = .ok (.aload_n 0, 1) := by rw [cc_158]; decide +kernel
theorem D158_14 : decode (cod 158) 14 = .ok (.getfield 28, 3) := by rw [cc_158]; decide +kernel
theorem D158_17 : decode (cod 158) 17 = .ok (.iload_n 2, 1) := by rw [cc_158]; decide +kernel
theorem D158_18 : decode (cod 158) 18 = .ok (.iaload, 1) := by rw [cc_158]; decide +kernel
theorem D158_19 : decode (cod 158) 19 = .ok (.iconst (-1), 1) := by rw [cc_158]; decide +kernel
theorem D158_20 : decode (cod 158) 20 = .ok (.if_icmp .ne 7, 3) := by rw [cc_158]; decide +kernel
theorem D158_23 : decode (cod 158) 23 = .ok (.iconst 0, 1) := by rw [cc_158]; decide +kernel
theorem D158_24 : decode (cod 158) 24 = .ok (.goto 4, 3) := by rw [cc_158]; decide +kernel
theorem D158_27 : decode (cod 158) 27 = .ok (.iconst 1, 1) := by rw [cc_158]; decide +kernel
theorem D158_28 : decode (cod 158) 28 = .ok (.iadd, 1) := by rw [cc_158]; decide +kernel
theorem D158_29 : decode (cod 158) 29 = .ok (.istore_n 1, 1) := by rw [cc_158]; decide +kernel
theorem D158_30 : decode (cod 158) 30 = .ok (.iinc 2 1, 3) := by rw [cc_158]; decide +kernel
theorem D158_33 : decode (cod 158) 33 = .ok (.goto (-29), 3) := by rw [cc_158]; decide +kernel
theorem D158_36 : decode (cod 158) 36 = .ok (.iload_n 1, 1) := by rw [cc_158]; decide +kernel
theorem D158_37 : decode (cod 158) 37 = .ok (.ireturn, 1) := by rw [cc_158]; decide +kernel
theorem b158_0 {d : Nat} {i0 : Nat} {I L : Nat → Nat → Nat → Int} {t : Nat → Nat} : Res d 158 0 [vr 12 i0, vx, vx] [] (mk I L t) = Res d 158 4 [vr 12 i0, vi 0, vi 0] [] (mk I L t) :=
  Eq.trans (e_iconst (x := 0) D158_0 rfl rfl) <| Eq.trans (e_istore_n (ls1 := [vr 12 i0, vi 0, vx]) D158_1 rfl (show 1 < 3 by decide) rfl) <| Eq.trans (e_iconst (x := 0) D158_2 rfl rfl) <| e_istore_n (ls1 := [vr 12 i0, vi 0, vi 0]) D158_3 rfl (show 2 < 3 by decide) rfl
theorem b158_4 {d : Nat} {i0 : Nat} {x1 x2 : Int} {I L : Nat → Nat → Nat → Int} {t : Nat → Nat} : Res d 158 4 [vr 12 i0, vi x1, vi x2] [] (mk I L t) = if I 12 i0 12 ≤ x2 then Res d 158 36 [vr 12 i0, vi x1, vi x2] [] (mk I L t) else Res d 158 12 [vr 12 i0, vi x1, vi x2] [] (mk I L t) :=
  Eq.trans (e_iload_n D158_4 rfl rfl) <| Eq.trans (e_aload_n D158_5 rfl rfl) <| Eq.trans (e_getI D158_6 rfl o_158 f_12_236 (sh_12 _) (by decide)) <| e_icge D158_9 rfl rfl
theorem b158_12 {d : Nat} {i0 : Nat} {x1 x2 : Int} {I L : Nat → Nat → Nat → Int} {t : Nat → Nat} (g1 : 0 ≤ x2 ∧ x2 < 9) : Res d 158 12 [vr 12 i0, vi x1, vi x2] [] (mk I L t) = if ¬ I 54 i0 x2.toNat = -1 then Res d 158 27 [vr 12 i0, vi x1, vi x2] [vi x1] (mk I L t) else Res d 158 23 [vr 12 i0, vi x1, vi x2] [vi x1] (mk I L t) :=
  Eq.trans (e_iload_n D158_12 rfl rfl) <| Eq.trans (e_aload_n D158_13 rfl rfl) <| Eq.trans (e_getP (p := (54, i0)) D158_14 rfl o_158 f_12_28 (sh_12 _) (by decide) (pp_12_11 _ _)) <| Eq.trans (e_iload_n D158_17 rfl rfl) <| Eq.trans (e_iald D158_18 rfl (al_54 _) g1) <| Eq.trans (e_iconst (x := -1) D158_19 rfl rfl) <| e_icne D158_20 rfl rfl
theorem b158_23 {d : Nat} {i0 : Nat} {x1 x2 xs0 : Int} {I L : Nat → Nat → Nat → Int} {t : Nat → Nat} : Res d 158 23 [vr 12 i0, vi x1, vi x2] [vi xs0] (mk I L t) = Res d 158 28 [vr 12 i0, vi x1, vi x2] [vi 0, vi xs0] (mk I L t) :=
  Eq.trans (e_iconst (x := 0) D158_23 rfl rfl) <| e_goto (q1 := 28) D158_24 rfl
theorem b158_27 {d : Nat} {i0 : Nat} {x1 x2 xs0 : Int} {I L : Nat → Nat → Nat → Int} {t : Nat → Nat} : Res d 158 27 [vr 12 i0, vi x1, vi x2] [vi xs0] (mk I L t) = Res d 158 28 [vr 12 i0, vi x1, vi x2] [vi 1, vi xs0] (mk I L t) :=
  e_iconst (x := 1) D158_27 rfl rfl
theorem b158_28 {d : Nat} {i0 : Nat} {x1 x2 xs1 xs0 : Int} {I L : Nat → Nat → Nat → Int} {t : Nat → Nat} : Res d 158 28 [vr 12 i0, vi x1, vi x2] [vi xs1, vi xs0] (mk I L t) = Res d 158 4 [vr 12 i0, vi (w32 (xs0 + xs1)), vi (w32 (x2 + 1))] [] (mk I L t) :=
  Eq.trans (e_iadd D158_28 rfl) <| Eq.trans (e_istore_n (ls1 := [vr 12 i0, vi (w32 (xs0 + xs1)), vi x2]) D158_29 rfl (show 1 < 3 by decide) rfl) <| Eq.trans (e_iinc (ls1 := [vr 12 i0, vi (w32 (xs0 + xs1)), vi (w32 (x2 + 1))]) D158_30 rfl rfl rfl) <| e_goto (q1 := 4) D158_33 rfl
theorem b158_36 {d : Nat} {i0 : Nat} {x1 x2 : Int} {I L : Nat → Nat → Nat → Int} {t : Nat → Nat} : Res d 158 36 [vr 12 i0, vi x1, vi x2] [] (mk I L t) = some (vi x1, (mk I L t)) :=
  Eq.trans (e_iload_n D158_36 rfl rfl) <| e_iret D158_37 rfl
/-! m_feed -/
theorem cc_159 : cod 159 = cX12_feed := rfl
theorem D159_0 : decode (cod 159) 0 = .ok (.aload_n 0, 1) := by rw [cc_159]; decide +kernel
theorem D159_1 : decode (cod 159) 1 = .ok (.getfield 239, 3) := by rw [cc_159]; decide +kernel
theorem D159_4 : decode (cod 159) 4 = .ok (.bipush 20, 2) := by rw [cc_159]; decide +kernel
theorem D159_6 : decode (cod 159) 6 = .ok (.iadd, 1) := by rw [cc_159]; decide +kernel
theorem D159_7 : decode (cod 159) 7 = .ok (.sipush 400, 3) := by rw [cc_159]; decide +kernel
theorem D159_10 : decode (cod 159) 10 = .ok (.if_icmp .le 5, 3) := by rw [cc_159]; decide +kernel
theorem D159_13 : decode (cod 159) 13 = .ok (.iconst (-1), 1) := by rw [cc_159]; decide +kernel
theorem D159_14 : decode (cod 159) 14 = .ok (.ireturn, 1) := by rw [cc_159]; decide +kernel
theorem D159_15 : decode (cod 159) 15 = .ok (.iconst 0, 1) := by rw [cc_159]; decide +kernel
theorem D159_16 : decode (cod 159) 16 = .ok (.istore 6, 2) := by rw [cc_159]; decide +kernel
theorem D159_18 : decode (cod 159) 18 = .ok (.iload 6, 2) := by rw [cc_159]; decide +kernel
theorem D159_20 : decode (cod 159) 20 = .ok (.bipush 20, 2) := by rw [cc_159]; decide +kernel
theorem D159_22 : decode (cod 159) 22 = .ok (.if_icmp .ge 93, 3) := by rw [cc_159]; decide +kernel
theorem D159_25 : decode (cod 159) 25 = .ok (.iload 6, 2) := by rw [cc_159]; decide +kernel
theorem D159_27 : decode (cod 159) 27 = .ok (.iconst 4, 1) := by rw [cc_159]; decide +kernel
theorem D159_28 : decode (cod 159) 28 = .ok (.if_icmp .ge 7, 3) := by rw [cc_159]; decide +kernel
theorem D159_31 : decode (cod 159) 31 = .ok (.iload_n 1, 1) := by rw [cc_159]; decide +kernel
theorem D159_32 : decode (cod 159) 32 = .ok (.goto 39, 3) := by rw [cc_159]; decide +kernel
theorem D159_35 : decode (cod 159) 35 = .ok (.iload 6, 2) := by rw [cc_159]; decide +kernel
theorem D159_37 : decode (cod 159) 37 = .ok (.bipush 8, 2) := by rw [cc_159]; decide +kernel
theorem D159_39 : decode (cod 159) 39 = .ok (.if_icmp .ge 7, 3) := by rw [cc_159]; decide +kernel
theorem D159_42 : decode (cod 159) 42 = .ok (.iload_n 2, 1) := by rw [cc_159]; decide +kernel
theorem D159_43 : decode (cod 159) 43 = .ok (.goto 28, 3) := by rw [cc_159]; decide +kernel
theorem D159_46 : decode (cod 159) 46 = .ok (.iload 6, 2) := by rw [cc_159]; decide +kernel
theorem D159_48 : decode (cod 159) 48 = .ok (.bipush 12, 2) := by rw [cc_159]; decide +kernel
theorem D159_50 : decode (cod 159) 50 = .ok (.if_icmp .ge 7, 3) := by rw [cc_159]; decide +kernel
theorem D159_53 : decode (cod 159) 53 = .ok (.iload_n 3, 1) := by rw [cc_159]; decide +kernel
theorem D159_54 : decode (cod 159) 54 = .ok (.goto 17, 3) := by rw [cc_159]; decide +kernel
theorem D159_57 : decode (cod 159) 57 = .ok (.iload 6, 2) := by rw [cc_159]; decide +kernel
theorem D159_59 : decode (cod 159) 59 = .ok (.bipush 16, 2) := by rw [cc_159]; decide +kernel
theorem D159_61 : decode (cod 159) 61 = .ok (.if_icmp .ge 8, 3) := by rw [cc_159]; decide +kernel
theorem D159_64 : decode (cod 159) 64 = .ok (.iload 4, 2) := by rw [cc_159]; decide +kernel
theorem D159_66 : decode (cod 159) 66 = .ok (.goto 5, 3) := by rw [cc_159]; decide +kernel
theorem D159_69 : decode (cod 159) 69 = .ok (.iload 5, 2) := by rw [cc_159]; decide +kernel
theorem D159_71 : decode (cod 159) 71 = .ok (.istore 7, 2) := by rw [cc_159]; decide +kernel
theorem D159_73 : decode (cod 159) 73 = .ok (.aload_n 0, 1) := by rw [cc_159]; decide +kernel
theorem D159_74 : decode (cod 159) 74 = .ok (.getfield 52, 3) := by rw [cc_159]; decide +kernel
theorem D159_77 : decode (cod 159) 77 = .ok (.aload_n 0, 1) := by rw [cc_159]; decide +kernel
theorem D159_78 : decode (cod 159) 78 = .ok (.getfield 239, 3) := by rw [cc_159]; decide +kernel
theorem D159_81 : decode (cod 159) 81 = .ok (.iload 7, 2) := by rw [cc_159]; decide +kernel
theorem D159_83 : decode (cod 159) 83 = .ok (.bipush 24, 2) := by rw [cc_159]; decide +kernel
theorem D159_85 : decode (cod 159) 85 = .ok (.bipush 8, 2) := by rw [cc_159]; decide +kernel
theorem D159_87 : decode (cod 159) 87 = .ok (.iload 6, 2) := by rw [cc_159]; decide +kernel
theorem D159_89 : decode (cod 159) 89 = .ok (.iconst 4, 1) := by rw [cc_159]; decide +kernel
theorem D159_90 : decode (cod 159) 90 = .ok (.irem, 1) := by rw [cc_159]; decide +kernel
theorem D159_91 : decode (cod 159) 91 = .ok (.imul, 1) := by rw [cc_159]; decide +kernel
theorem D159_92 : decode (cod 159) 92 = .ok (.isub, 1) := by rw [cc_159]; decide +kernel
theorem D159_93 : decode (cod 159) 93 = .ok (.ishr, 1) := by rw [cc_159]; decide +kernel
theorem D159_94 : decode (cod 159) 94 = .ok (.sipush 255, 3) := by rw [cc_159]; decide +kernel
theorem D159_97 : decode (cod 159) 97 = .ok (.iand, 1) := by rw [cc_159]; decide +kernel
theorem D159_98 : decode (cod 159) 98 = .ok (.iastore, 1) := by rw [cc_159]; decide +kernel
theorem D159_99 : decode (cod 159) 99 = .ok (.aload_n 0, 1) := by rw [cc_159]; decide +kernel
theorem D159_100 : decode (cod 159) 100 = .ok (.dup, 1) := by rw [cc_159]; decide +kernel
theorem D159_101 : decode (cod 159) 101 = .ok (.getfield 239, 3) := by rw [cc_159]; decide +kernel
theorem D159_104 : decode (cod 159) 104 = .ok (.iconst 1, 1) := by rw [cc_159]; decide +kernel
theorem D159_105 : decode (cod 159) 105 = .ok (.iadd, 1) := by rw [cc_159]; decide +kernel
theorem D159_106 : decode (cod 159) 106 = .ok (.putfield 239, 3) := by rw [cc_159]; decide +kernel
theorem D159_109 : decode (cod 159) 109 = .ok (.iinc 6 1, 3) := by rw [cc_159]; decide +kernel
theorem D159_112 : decode (cod 159) 112 = .ok (.goto (-94), 3) := by rw [cc_159]; decide +kernel
theorem D159_115 : decode (cod 159) 115 = .ok (.aload_n 0, 1) := by rw [cc_159]; decide +kernel
theorem D159_116 : decode (cod 159) 116 = .ok (.getfield 239, 3) := by rw [cc_159]; decide +kernel
theorem D159_119 : decode (cod 159) 119 = .ok (.ireturn, 1) := by rw [cc_159]; decide +kernel
theorem b159_0 {d : Nat} {i0 : Nat} {x1 x2 x3 x4 x5 : Int} {I L : Nat → Nat → Nat → Int} {t : Nat → Nat} : Res d 159 0 [vr 12 i0, vi x1, vi x2, vi x3, vi x4, vi x5, vx, vx] [] (mk I L t) = if w32 ((I 12 i0 36) + 20) ≤ 400 then Res d 159 15 [vr 12 i0, vi x1, vi x2, vi x3, vi x4, vi x5, vx, vx] [] (mk I L t) else Res d 159 13 [vr 12 i0, vi x1, vi x2, vi x3, vi x4, vi x5, vx, vx] [] (mk I L t) :=
  Eq.trans (e_aload_n D159_0 rfl rfl) <| Eq.trans (e_getI D159_1 rfl o_159 f_12_239 (sh_12 _) (by decide)) <| Eq.trans (e_bipush (x := 20) D159_4 rfl rfl) <| Eq.trans (e_iadd D159_6 rfl) <| Eq.trans (e_sipush (x := 400) D159_7 rfl rfl) <| e_icle D159_10 rfl rfl
theorem b159_13 {d : Nat} {i0 : Nat} {x1 x2 x3 x4 x5 : Int} {I L : Nat → Nat → Nat → Int} {t : Nat → Nat} : Res d 159 13 [vr 12 i0, vi x1, vi x2, vi x3, vi x4, vi x5, vx, vx] [] (mk I L t) = some (vi (-1), (mk I L t)) :=
  Eq.trans (e_iconst (x := -1) D159_13 rfl rfl) <| e_iret D159_14 rfl
theorem b159_15 {d : Nat} {i0 : Nat} {x1 x2 x3 x4 x5 : Int} {I L : Nat → Nat → Nat → Int} {t : Nat → Nat} : Res d 159 15 [vr 12 i0, vi x1, vi x2, vi x3, vi x4, vi x5, vx, vx] [] (mk I L t) = Res d 159 18 [vr 12 i0, vi x1, vi x2, vi x3, vi x4, vi x5, vi 0, vx] [] (mk I L t) :=
  Eq.trans (e_iconst (x := 0) D159_15 rfl rfl) <| e_istore (ls1 := [vr 12 i0, vi x1, vi x2, vi x3, vi x4, vi x5, vi 0, vx]) D159_16 rfl (show 6 < 8 by decide) rfl
theorem b159_18 {d : Nat} {i0 : Nat} {x1 x2 x3 x4 x5 x6 : Int} {u7 : MV} {I L : Nat → Nat → Nat → Int} {t : Nat → Nat} : Res d 159 18 [vr 12 i0, vi x1, vi x2, vi x3, vi x4, vi x5, vi x6, u7] [] (mk I L t) = if 20 ≤ x6 then Res d 159 115 [vr 12 i0, vi x1, vi x2, vi x3, vi x4, vi x5, vi x6, u7] [] (mk I L t) else Res d 159 25 [vr 12 i0, vi x1, vi x2, vi x3, vi x4, vi x5, vi x6, u7] [] (mk I L t) :=
  Eq.trans (e_iload D159_18 rfl rfl) <| Eq.trans (e_bipush (x := 20) D159_20 rfl rfl) <| e_icge D159_22 rfl rfl
theorem b159_25 {d : Nat} {i0 : Nat} {x1 x2 x3 x4 x5 x6 : Int} {u7 : MV} {I L : Nat → Nat → Nat → Int} {t : Nat → Nat} : Res d 159 25 [vr 12 i0, vi x1, vi x2, vi x3, vi x4, vi x5, vi x6, u7] [] (mk I L t) = if 4 ≤ x6 then Res d 159 35 [vr 12 i0, vi x1, vi x2, vi x3, vi x4, vi x5, vi x6, u7] [] (mk I L t) else Res d 159 31 [vr 12 i0, vi x1, vi x2, vi x3, vi x4, vi x5, vi x6, u7] [] (mk I L t) :=
  Eq.trans (e_iload D159_25 rfl rfl) <| Eq.trans (e_iconst (x := 4) D159_27 rfl rfl) <| e_icge D159_28 rfl rfl
theorem b159_31 {d : Nat} {i0 : Nat} {x1 x2 x3 x4 x5 x6 : Int} {u7 : MV} {I L : Nat → Nat → Nat → Int} {t : Nat → Nat} : Res d 159 31 [vr 12 i0, vi x1, vi x2, vi x3, vi x4, vi x5, vi x6, u7] [] (mk I L t) = Res d 159 71 [vr 12 i0, vi x1, vi x2, vi x3, vi x4, vi x5, vi x6, u7] [vi x1] (mk I L t) :=
  Eq.trans (e_iload_n D159_31 rfl rfl) <| e_goto (q1 := 71) D159_32 rfl
theorem b159_35 {d : Nat} {i0 : Nat} {x1 x2 x3 x4 x5 x6 : Int} {u7 : MV} {I L : Nat → Nat → Nat → Int} {t : Nat → Nat} : Res d 159 35 [vr 12 i0, vi x1, vi x2, vi x3, vi x4, vi x5, vi x6, u7] [] (mk I L t) = if 8 ≤ x6 then Res d 159 46 [vr 12 i0, vi x1, vi x2, vi x3, vi x4, vi x5, vi x6, u7] [] (mk I L t) else Res d 159 42 [vr 12 i0, vi x1, vi x2, vi x3, vi x4, vi x5, vi x6, u7] [] (mk I L t) :=
  Eq.trans (e_iload D159_35 rfl rfl) <| Eq.trans (e_bipush (x := 8) D159_37 rfl rfl) <| e_icge D159_39 rfl rfl
theorem b159_42 {d : Nat} {i0 : Nat} {x1 x2 x3 x4 x5 x6 : Int} {u7 : MV} {I L : Nat → Nat → Nat → Int} {t : Nat → Nat} : Res d 159 42 [vr 12 i0, vi x1, vi x2, vi x3, vi x4, vi x5, vi x6, u7] [] (mk I L t) = Res d 159 71 [vr 12 i0, vi x1, vi x2, vi x3, vi x4, vi x5, vi x6, u7] [vi x2] (mk I L t) :=
  Eq.trans (e_iload_n D159_42 rfl rfl) <| e_goto (q1 := 71) D159_43 rfl
theorem b159_46 {d : Nat} {i0 : Nat} {x1 x2 x3 x4 x5 x6 : Int} {u7 : MV} {I L : Nat → Nat → Nat → Int} {t : Nat → Nat} : Res d 159 46 [vr 12 i0, vi x1, vi x2, vi x3, vi x4, vi x5, vi x6, u7] [] (mk I L t) = if 12 ≤ x6 then Res d 159 57 [vr 12 i0, vi x1, vi x2, vi x3, vi x4, vi x5, vi x6, u7] [] (mk I L t) else Res d 159 53 [vr 12 i0, vi x1, vi x2, vi x3, vi x4, vi x5, vi x6, u7] [] (mk I L t) :=
  Eq.trans (e_iload D159_46 rfl rfl) <| Eq.trans (e_bipush (x := 12) D159_48 rfl rfl) <| e_icge D159_50 rfl rfl
theorem b159_53 {d : Nat} {i0 : Nat} {x1 x2 x3 x4 x5 x6 : Int} {u7 : MV} {I L : Nat → Nat → Nat → Int} {t : Nat → Nat} : Res d 159 53 [vr 12 i0, vi x1, vi x2, vi x3, vi x4, vi x5, vi x6, u7] [] (mk I L t) = Res d 159 71 [vr 12 i0, vi x1, vi x2, vi x3, vi x4, vi x5, vi x6, u7] [vi x3] (mk I L t) :=
  Eq.trans (e_iload_n D159_53 rfl rfl) <| e_goto (q1 := 71) D159_54 rfl
theorem b159_57 {d : Nat} {i0 : Nat} {x1 x2 x3 x4 x5 x6 : Int} {u7 : MV} {I L : Nat → Nat → Nat → Int} {t : Nat → Nat} : Res d 159 57 [vr 12 i0, vi x1, vi x2, vi x3, vi x4, vi x5, vi x6, u7] [] (mk I L t) = if 16 ≤ x6 then Res d 159 69 [vr 12 i0, vi x1, vi x2, vi x3, vi x4, vi x5, vi x6, u7] [] (mk I L t) else Res d 159 64 [vr 12 i0, vi x1, vi x2, vi x3, vi x4, vi x5, vi x6, u7] [] (mk I L t) :=
  Eq.trans (e_iload D159_57 rfl rfl) <| Eq.trans (e_bipush (x := 16) D159_59 rfl rfl) <| e_icge D159_61 rfl rfl
theorem b159_64 {d : Nat} {i0 : Nat} {x1 x2 x3 x4 x5 x6 : Int} {u7 : MV} {I L : Nat → Nat → Nat → Int} {t : Nat → Nat} : Res d 159 64 [vr 12 i0, vi x1, vi x2, vi x3, vi x4, vi x5, vi x6, u7] [] (mk I L t) = Res d 159 71 [vr 12 i0, vi x1, vi x2, vi x3, vi x4, vi x5, vi x6, u7] [vi x4] (mk I L t) :=
  Eq.trans (e_iload D159_64 rfl rfl) <| e_goto (q1 := 71) D159_66 rfl
theorem b159_69 {d : Nat} {i0 : Nat} {x1 x2 x3 x4 x5 x6 : Int} {u7 : MV} {I L : Nat → Nat → Nat → Int} {t : Nat → Nat} : Res d 159 69 [vr 12 i0, vi x1, vi x2, vi x3, vi x4, vi x5, vi x6, u7] [] (mk I L t) = Res d 159 71 [vr 12 i0, vi x1, vi x2, vi x3, vi x4, vi x5, vi x6, u7] [vi x5] (mk I L t) :=
  e_iload D159_69 rfl rfl
theorem b159_71 {d : Nat} {i0 : Nat} {x1 x2 x3 x4 x5 x6 xs0 : Int} {u7 : MV} {I L : Nat → Nat → Nat → Int} {t : Nat → Nat} (g1 : 0 ≤ I 12 i0 36 ∧ I 12 i0 36 < 400) : Res d 159 71 [vr 12 i0, vi x1, vi x2, vi x3, vi x4, vi x5, vi x6, u7] [vi xs0] (mk I L t) = Res d 159 18 [vr 12 i0, vi x1, vi x2, vi x3, vi x4, vi x5, vi (w32 (x6 + 1)), vi xs0] [] (mk (up3 (up3 I 62 i0 (I 12 i0 36).toNat (vIand (vIshr xs0 (w32 (24 - (w32 (8 * (vIrem x6 4)))))) 255)) 12 i0 36 (w32 (((up3 I 62 i0 (I 12 i0 36).toNat (vIand (vIshr xs0 (w32 (24 - (w32 (8 * (vIrem x6 4)))))) 255)) 12 i0 36) + 1))) L t) :=
  Eq.trans (e_istore (ls1 := [vr 12 i0, vi x1, vi x2, vi x3, vi x4, vi x5, vi x6, vi xs0]) D159_71 rfl (show 7 < 8 by decide) rfl) <| Eq.trans (e_aload_n D159_73 rfl rfl) <| Eq.trans (e_getP (p := (62, i0)) D159_74 rfl o_159 f_12_52 (sh_12 _) (by decide) (pp_12_20 _ _)) <| Eq.trans (e_aload_n D159_77 rfl rfl) <| Eq.trans (e_getI D159_78 rfl o_159 f_12_239 (sh_12 _) (by decide)) <| Eq.trans (e_iload D159_81 rfl rfl) <| Eq.trans (e_bipush (x := 24) D159_83 rfl rfl) <| Eq.trans (e_bipush (x := 8) D159_85 rfl rfl) <| Eq.trans (e_iload D159_87 rfl rfl) <| Eq.trans (e_iconst (x := 4) D159_89 rfl rfl) <| Eq.trans (e_irem D159_90 rfl (by decide)) <| Eq.trans (e_imul D159_91 rfl) <| Eq.trans (e_isub D159_92 rfl) <| Eq.trans (e_ishr D159_93 rfl) <| Eq.trans (e_sipush (x := 255) D159_94 rfl rfl) <| Eq.trans (e_iand D159_97 rfl) <| Eq.trans (e_iast D159_98 rfl (al_62 _) rfl g1) <| Eq.trans (e_aload_n D159_99 rfl rfl) <| Eq.trans (e_dup D159_100 rfl) <| Eq.trans (e_getI D159_101 rfl o_159 f_12_239 (sh_12 _) (by decide)) <| Eq.trans (e_iconst (x := 1) D159_104 rfl rfl) <| Eq.trans (e_iadd D159_105 rfl) <| Eq.trans (e_putI D159_106 rfl o_159 f_12_239 (sh_12 _) rfl (by decide) (Or.inl (by decide))) <| Eq.trans (e_iinc (ls1 := [vr 12 i0, vi x1, vi x2, vi x3, vi x4, vi x5, vi (w32 (x6 + 1)), vi xs0]) D159_109 rfl rfl rfl) <| e_goto (q1 := 18) D159_112 rfl
theorem b159_115 {d : Nat} {i0 : Nat} {x1 x2 x3 x4 x5 x6 : Int} {u7 : MV} {I L : Nat → Nat → Nat → Int} {t : Nat → Nat} : Res d 159 115 [vr 12 i0, vi x1, vi x2, vi x3, vi x4, vi x5, vi x6, u7] [] (mk I L t) = some (vi (I 12 i0 36), (mk I L t)) :=
  Eq.trans (e_aload_n D159_115 rfl rfl) <| Eq.trans (e_getI D159_116 rfl o_159 f_12_239 (sh_12 _) (by decide)) <| e_iret D159_119 rfl
/-! m_end -/
theorem cc_160 : cod 160 = cX12_end := rfl
theorem D160_0 : decode (cod 160) 0 = .ok (.iload_n 1, 1) := by rw [cc_160]; decide +kernel
theorem D160_1 : decode (cod 160) 1 = .ok (.iconst 0, 1) := by rw [cc_160]; decide +kernel
theorem D160_2 : decode (cod 160) 2 = .ok (.aload_n 0, 1) := by rw [cc_160]; decide +kernel
theorem D160_3 : decode (cod 160) 3 = .ok (.getfield 239, 3) := by rw [cc_160]; decide +kernel
theorem D160_6 : decode (cod 160) 6 = .ok (.invokestatic 219, 3) := by rw [cc_160]; decide +kernel
theorem D160_9 : decode (cod 160) 9 = .ok (.ifCond .ne 5, 3) := by rw [cc_160]; decide +kernel
theorem D160_12 : decode (cod 160) 12 = .ok (.iconst 0, 1) := by rw [cc_160]; decide +kernel
theorem D160_13 : decode (cod 160) 13 = .ok (.ireturn, 1) := by rw [cc_160]; decide +kernel
theorem D160_14 : decode (cod 160) 14 = .ok (.aload_n 0, 1) := by rw [cc_160]; decide +kernel
theorem D160_15 : decode (cod 160) 15 = .ok (.iload_n 1, 1) := by rw [cc_160]; decide +kernel
theorem D160_16 : decode (cod 160) 16 = .ok (.putfield 239, 3) := by rw [cc_160]; decide +kernel
theorem D160_19 : decode (cod 160) 19 = .ok (.iconst 1, 1) := by rw [cc_160]; decide +kernel
theorem D160_20 : decode (cod 160) 20 = .ok (.ireturn, 1) := by rw [cc_160]; decide +kernel
theorem b160_0 {d : Nat} {i0 : Nat} {x1 : Int} {I L : Nat → Nat → Nat → Int} {t : Nat → Nat} : Res (d + 1) 160 0 [vr 12 i0, vi x1] [] (mk I L t) = (Cal d 146 [vi x1, vi 0, vi (I 12 i0 36)] (mk I L t)).bind fun v => Res (d + 1) 160 9 [vr 12 i0, vi x1] (psh 146 v.1 []) v.2 :=
  Eq.trans (e_iload_n D160_0 rfl rfl) <| Eq.trans (e_iconst (x := 0) D160_1 rfl rfl) <| Eq.trans (e_aload_n D160_2 rfl rfl) <| Eq.trans (e_getI D160_3 rfl o_160 f_12_239 (sh_12 _) (by decide)) <| e_callS D160_6 rfl o_160 m_12_219 (by decide) rfl rfl
theorem b160_9 {d : Nat} {i0 : Nat} {x1 xs0 : Int} {I L : Nat → Nat → Nat → Int} {t : Nat → Nat} : Res d 160 9 [vr 12 i0, vi x1] [vi xs0] (mk I L t) = if ¬ xs0 = 0 then Res d 160 14 [vr 12 i0, vi x1] [] (mk I L t) else Res d 160 12 [vr 12 i0, vi x1] [] (mk I L t) :=
  e_ifne D160_9 rfl rfl
theorem b160_12 {d : Nat} {i0 : Nat} {x1 : Int} {I L : Nat → Nat → Nat → Int} {t : Nat → Nat} : Res d 160 12 [vr 12 i0, vi x1] [] (mk I L t) = some (vi 0, (mk I L t)) :=
  Eq.trans (e_iconst (x := 0) D160_12 rfl rfl) <| e_iret D160_13 rfl
theorem b160_14 {d : Nat} {i0 : Nat} {x1 : Int} {I L : Nat → Nat → Nat → Int} {t : Nat → Nat} : Res d 160 14 [vr 12 i0, vi x1] [] (mk I L t) = some (vi 1, (mk (up3 I 12 i0 36 x1) L t)) :=
  Eq.trans (e_aload_n D160_14 rfl rfl) <| Eq.trans (e_iload_n D160_15 rfl rfl) <| Eq.trans (e_putI D160_16 rfl o_160 f_12_239 (sh_12 _) rfl (by decide) (Or.inl (by decide))) <| Eq.trans (e_iconst (x := 1) D160_19 rfl rfl) <| e_iret D160_20 rfl
/-! m_see -/
theorem cc_161 : cod 161 = cX12_see := rfl
theorem D161_0 : decode (cod 161) 0 = .ok (.iload_n 1, 1) := by rw [cc_161]; decide +kernel
theorem D161_1 : decode (cod 161) 1 = .ok (.aload_n 0, 1) := by rw [cc_161]; decide +kernel
theorem D161_2 : decode (cod 161) 2 = .ok (.getfield 239, 3) := by rw [cc_161]; decide +kernel
theorem D161_5 : decode (cod 161) 5 = .ok (.if_icmp .ge 12, 3) := by rw [cc_161]; decide +kernel
theorem D161_8 : decode (cod 161) 8 = .ok (.aload_n 0, 1) := by rw [cc_161]; decide +kernel
theorem D161_9 : decode (cod 161) 9 = .ok (.getfield 52, 3) := by rw [cc_161]; decide +kernel
theorem D161_12 : decode (cod 161) 12 = .ok (.iload_n 1, 1) := by rw [cc_161]; decide +kernel
theorem D161_13 : decode (cod 161) 13 = .ok (.iaload, 1) := by rw [cc_161]; decide +kernel
theorem D161_14 : decode (cod 161) 14 = .ok (.goto 4, 3) := by rw [cc_161]; decide +kernel
theorem D161_17 : decode (cod 161) 17 = .ok (.iconst (-1), 1) := by rw [cc_161]; decide +kernel
theorem D161_18 : decode (cod 161) 18 = .ok (.ireturn, 1) := by rw [cc_161]; decide +kernel
theorem b161_0 {d : Nat} {i0 : Nat} {x1 : Int} {I L : Nat → Nat → Nat → Int} {t : Nat → Nat} : Res d 161 0 [vr 12 i0, vi x1] [] (mk I L t) = if I 12 i0 36 ≤ x1 then Res d 161 17 [vr 12 i0, vi x1] [] (mk I L t) else Res d 161 8 [vr 12 i0, vi x1] [] (mk I L t) :=
  Eq.trans (e_iload_n D161_0 rfl rfl) <| Eq.trans (e_aload_n D161_1 rfl rfl) <| Eq.trans (e_getI D161_2 rfl o_161 f_12_239 (sh_12 _) (by decide)) <| e_icge D161_5 rfl rfl
theorem b161_8 {d : Nat} {i0 : Nat} {x1 : Int} {I L : Nat → Nat → Nat → Int} {t : Nat → Nat} (g1 : 0 ≤ x1 ∧ x1 < 400) : Res d 161 8 [vr 12 i0, vi x1] [] (mk I L t) = Res d 161 18 [vr 12 i0, vi x1] [vi (I 62 i0 x1.toNat)] (mk I L t) :=
  Eq.trans (e_aload_n D161_8 rfl rfl) <| Eq.trans (e_getP (p := (62, i0)) D161_9 rfl o_161 f_12_52 (sh_12 _) (by decide) (pp_12_20 _ _)) <| Eq.trans (e_iload_n D161_12 rfl rfl) <| Eq.trans (e_iald D161_13 rfl (al_62 _) g1) <| e_goto (q1 := 18) D161_14 rfl
theorem b161_17 {d : Nat} {i0 : Nat} {x1 : Int} {I L : Nat → Nat → Nat → Int} {t : Nat → Nat} : Res d 161 17 [vr 12 i0, vi x1] [] (mk I L t) = Res d 161 18 [vr 12 i0, vi x1] [vi (-1)] (mk I L t) :=
  e_iconst (x := -1) D161_17 rfl rfl
theorem b161_18 {d : Nat} {i0 : Nat} {x1 xs0 : Int} {I L : Nat → Nat → Nat → Int} {t : Nat → Nat} : Res d 161 18 [vr 12 i0, vi x1] [vi xs0] (mk I L t) = some (vi xs0, (mk I L t)) :=
  e_iret D161_18 rfl
/-! m_isLetter -/
theorem cc_162 : cod 162 = cX12_isLetter := rfl
theorem D162_0 : decode (cod 162) 0 = .ok (.iload_n 0, 1) := by rw [cc_162]; decide +kernel
theorem D162_1 : decode (cod 162) 1 = .ok (.bipush 97, 2) := by rw [cc_162]; decide +kernel
theorem D162_3 : decode (cod 162) 3 = .ok (.bipush 122, 2) := by rw [cc_162]; decide +kernel
theorem D162_5 : decode (cod 162) 5 = .ok (.invokestatic 219, 3) := by rw [cc_162]; decide +kernel
theorem D162_8 : decode (cod 162) 8 = .ok (.ifCond .ne 14, 3) := by rw [cc_162]; decide +kernel
theorem D162_11 : decode (cod 162) 11 = .ok (.iload_n 0, 1) := by rw [cc_162]; decide +kernel
theorem D162_12 : decode (cod 162) 12 = .ok (.bipush 65, 2) := by rw [cc_162]; decide +kernel
theorem D162_14 : decode (cod 162) 14 = .ok (.bipush 90, 2) := by rw [cc_162]; decide +kernel
theorem D162_16 : decode (cod 162) 16 = .ok (.invokestatic 219, 3) := by rw [cc_162]; decide +kernel
theorem D162_19 : decode (cod 162) 19 = .ok (.ifCond .eq 7, 3) := by rw [cc_162]; decide +kernel
theorem D162_22 : decode (cod 162) 22 = .ok (.iconst 1, 1) := by rw [cc_162]; decide +kernel
theorem D162_23 : decode (cod 162) 23 = .ok (.goto 4, 3) := by rw [cc_162]; decide +kernel
theorem D162_26 : decode (cod 162) 26 = .ok (.iconst 0, 1) := by rw [cc_162]; decide +kernel
theorem D162_27 : decode (cod 162) 27 = .ok (.ireturn, 1) := by rw [cc_162]; decide +kernel
theorem b162_0 {d : Nat} {x0 : Int} {I L : Nat → Nat → Nat → Int} {t : Nat → Nat} : Res (d + 1) 162 0 [vi x0] [] (mk I L t) = (Cal d 146 [vi x0, vi 97, vi 122] (mk I L t)).bind fun v => Res (d + 1) 162 8 [vi x0] (psh 146 v.1 []) v.2 :=
  Eq.trans (e_iload_n D162_0 rfl rfl) <| Eq.trans (e_bipush (x := 97) D162_1 rfl rfl) <| Eq.trans (e_bipush (x := 122) D162_3 rfl rfl) <| e_callS D162_5 rfl o_162 m_12_219 (by decide) rfl rfl
theorem b162_8 {d : Nat} {x0 xs0 : Int} {I L : Nat → Nat → Nat → Int} {t : Nat → Nat} : Res d 162 8 [vi x0] [vi xs0] (mk I L t) = if ¬ xs0 = 0 then Res d 162 22 [vi x0] [] (mk I L t) else Res d 162 11 [vi x0] [] (mk I L t) :=
  e_ifne D162_8 rfl rfl
theorem b162_11 {d : Nat} {x0 : Int} {I L : Nat → Nat → Nat → Int} {t : Nat → Nat} : Res (d + 1) 162 11 [vi x0] [] (mk I L t) = (Cal d 146 [vi x0, vi 65, vi 90] (mk I L t)).bind fun v => Res (d + 1) 162 19 [vi x0] (psh 146 v.1 []) v.2 :=
  Eq.trans (e_iload_n D162_11 rfl rfl) <| Eq.trans (e_bipush (x := 65) D162_12 rfl rfl) <| Eq.trans (e_bipush (x := 90) D162_14 rfl rfl) <| e_callS D162_16 rfl o_162 m_12_219 (by decide) rfl rfl
theorem b162_19 {d : Nat} {x0 xs0 : Int} {I L : Nat → Nat → Nat → Int} {t : Nat → Nat} : Res d 162 19 [vi x0] [vi xs0] (mk I L t) = if xs0 = 0 then Res d 162 26 [vi x0] [] (mk I L t) else Res d 162 22 [vi x0] [] (mk I L t) :=
  e_ifeq D162_19 rfl rfl
theorem b162_22 {d : Nat} {x0 : Int} {I L : Nat → Nat → Nat → Int} {t : Nat → Nat} : Res d 162 22 [vi x0] [] (mk I L t) = Res d 162 27 [vi x0] [vi 1] (mk I L t) :=
  Eq.trans (e_iconst (x := 1) D162_22 rfl rfl) <| e_goto (q1 := 27) D162_23 rfl
theorem b162_26 {d : Nat} {x0 : Int} {I L : Nat → Nat → Nat → Int} {t : Nat → Nat} : Res d 162 26 [vi x0] [] (mk I L t) = Res d 162 27 [vi x0] [vi 0] (mk I L t) :=
  e_iconst (x := 0) D162_26 rfl rfl
theorem b162_27 {d : Nat} {x0 xs0 : Int} {I L : Nat → Nat → Nat → Int} {t : Nat → Nat} (g1 : xs0 = 0 ∨ xs0 = 1) : Res d 162 27 [vi x0] [vi xs0] (mk I L t) = some (vi xs0, (mk I L t)) :=
  e_iret D162_27 (nrz rfl g1)
/-! m_isDigit -/
theorem cc_163 : cod 163 = cX12_isDigit := rfl
theorem D163_0 : decode (cod 163) 0 = .ok (.iload_n 0, 1) := by rw [cc_163]; decide +kernel
theorem D163_1 : decode (cod 163) 1 = .ok (.bipush 48, 2) := by rw [cc_163]; decide +kernel
theorem D163_3 : decode (cod 163) 3 = .ok (.bipush 57, 2) := by rw [cc_163]; decide +kernel
theorem D163_5 : decode (cod 163) 5 = .ok (.invokestatic 219, 3) := by rw [cc_163]; decide +kernel
theorem D163_8 : decode (cod 163) 8 = .ok (.ireturn, 1) := by rw [cc_163]; decide +kernel
theorem b163_0 {d : Nat} {x0 : Int} {I L : Nat → Nat → Nat → Int} {t : Nat → Nat} : Res (d + 1) 163 0 [vi x0] [] (mk I L t) = (Cal d 146 [vi x0, vi 48, vi 57] (mk I L t)).bind fun v => Res (d + 1) 163 8 [vi x0] (psh 146 v.1 []) v.2 :=
  Eq.trans (e_iload_n D163_0 rfl rfl) <| Eq.trans (e_bipush (x := 48) D163_1 rfl rfl) <| Eq.trans (e_bipush (x := 57) D163_3 rfl rfl) <| e_callS D163_5 rfl o_163 m_12_219 (by decide) rfl rfl
theorem b163_8 {d : Nat} {x0 xs0 : Int} {I L : Nat → Nat → Nat → Int} {t : Nat → Nat} (g1 : xs0 = 0 ∨ xs0 = 1) : Res d 163 8 [vi x0] [vi xs0] (mk I L t) = some (vi xs0, (mk I L t)) :=
  e_iret D163_8 (nrz rfl g1)
/-! m_is -/
theorem cc_164 : cod 164 = cX12_is := rfl
theorem D164_0 : decode (cod 164) 0 = .ok (.aload_n 0, 1) := by rw [cc_164]; decide +kernel
theorem D164_1 : decode (cod 164) 1 = .ok (.getfield 242, 3) := by rw [cc_164]; decide +kernel
theorem D164_4 : decode (cod 164) 4 = .ok (.aload_n 0, 1) := by rw [cc_164]; decide +kernel
theorem D164_5 : decode (cod 164) 5 = .ok (.getfield 245, 3) := by rw [cc_164]; decide +kernel
theorem D164_8 : decode (cod 164) 8 = .ok (.isub, 1) := by rw [cc_164]; decide +kernel
theorem D164_9 : decode (cod 164) 9 = .ok (.aload_n 1, 1) := by rw [cc_164]; decide +kernel
theorem D164_10 : decode (cod 164) 10 = .ok (.invokevirtual 248, 3) := by rw [cc_164]; decide +kernel
theorem D164_13 : decode (cod 164) 13 = .ok (.if_icmp .ne 7, 3) := by rw [cc_164]; decide +kernel
theorem D164_16 : decode (cod 164) 16 = .ok (.iconst 1, 1) := by rw [cc_164]; decide +kernel
theorem D164_17 : decode (cod 164) 17 = .ok (.goto 4, 3) := by rw [cc_164]; decide +kernel
theorem D164_20 : decode (cod 164) 20 = .ok (.iconst 0, 1) := by rw [cc_164]; decide +kernel
theorem D164_21 : decode (cod 164) 21 = .ok (.istore_n 2, 1) := by rw [cc_164]; decide +kernel
theorem D164_22 : decode (cod 164) 22 = .ok (.iconst 0, 1) := by rw [cc_164]; decide +kernel
theorem D164_23 : decode (cod 164) 23 = .ok (.istore_n 3, 1) := by rw [cc_164]; decide +kernel
theorem D164_24 : decode (cod 164) 24 = .ok (.iload_n 3, 1) := by rw [cc_164]; decide +kernel
theorem D164_25 : decode (cod 164) 25 = .ok (.aload_n 1, 1) := by rw [cc_164]; decide +kernel
theorem D164_26 : decode (cod 164) 26 = .ok (.invokevirtual 248, 3) := by rw [cc_164]; decide +kernel
theorem D164_29 : decode (cod 164) 29 = .ok (.if_icmp .ge 38, 3) := by rw [cc_164]; decide +kernel
theorem D164_32 : decode (cod 164) 32 = .ok (.iload_n 2, 1) := by rw [cc_164]; decide +kernel
theorem D164_33 : decode (cod 164) 33 = .ok (.ifCond .eq 34, 3) := by rw [cc_164]; decide +kernel
theorem D164_36 : decode (cod 164) 36 = .ok (.aload_n 0, 1) := by rw [cc_164]; decide +kernel
theorem D164_37 : decode (cod 164) 37 = .ok (.getfield 52, 3) := by rw [cc_164]; decide +kernel
theorem D164_40 : decode (cod 164) 40 = .ok (.aload_n 0, 1) := by rw [cc_164]; decide +kernel
theorem D164_41 : decode (cod 164) 41 = .ok (.getfield 245, 3) := by rw [cc_164]; decide +kernel
theorem D164_44 : decode (cod 164) 44 = .ok (.iload_n 3, 1) := by rw [cc_164]; decide +kernel
theorem D164_45 : decode (cod 164) 45 = .ok (.iadd, 1) := by rw [cc_164]; decide +kernel
theorem D164_46 : decode (cod 164) 46 = .ok (.iaload, 1) := by rw [cc_164]; decide +kernel
theorem D164_47 : decode (cod 164) 47 = .ok (.aload_n 1, 1) := by rw [cc_164]; decide +kernel
theorem D164_48 : decode (cod 164) 48 = .ok (.iload_n 3, 1) := by rw [cc_164]; decide +kernel
theorem D164_49 : decode (cod 164) 49 = .ok (.invokevirtual 254, 3) := by rw [cc_164]; decide +kernel
theorem D164_52 : decode (cod 164) 52 = .ok (.if_icmp .ne 7, 3) := by rw [cc_164]; decide +kernel
theorem D164_55 : decode (cod 164) 55 = .ok (.iconst 1, 1) := by rw [cc_164]; decide +kernel
theorem D164_56 : decode (cod 164) 56 = .ok (.goto 4, 3) := by rw [cc_164]; decide +kernel
theorem D164_59 : decode (cod 164) 59 = .ok (.iconst 0, 1) := by rw [cc_164]; decide +kernel
theorem D164_60 : decode (cod 164) 60 = .ok (.istore_n 2, 1) := by rw [cc_164]; decide +kernel
theorem D164_61 : decode (cod 164) 61 = .ok (.iinc 3 1, 3) := by rw [cc_164]; decide +kernel
theorem D164_64 : decode (cod 164) 64 = .ok (.goto (-40), 3) := by rw [cc_164]; decide +kernel
theorem D164_67 : decode (cod 164) 67 = .ok (.iload_n 2, 1) := by rw [cc_164]; decide +kernel
theorem D164_68 : decode (cod 164) 68 = .ok (.ireturn, 1) := by rw [cc_164]; decide +kernel
theorem b164_0 {d : Nat} {i0 i1 : Nat} {I L : Nat → Nat → Nat → Int} {t : Nat → Nat} (g1 : i1 < 24) : Res (d + 7) 164 0 [vr 12 i0, vr 117 i1, vx, vx] [] (mk I L t) = if ¬ w32 ((I 12 i0 37) - (I 12 i0 39)) = slen i1 then Res (d + 7) 164 20 [vr 12 i0, vr 117 i1, vx, vx] [] (mk I L t) else Res (d + 7) 164 16 [vr 12 i0, vr 117 i1, vx, vx] [] (mk I L t) :=
  Eq.trans (e_aload_n D164_0 rfl rfl) <| Eq.trans (e_getI D164_1 rfl o_164 f_12_242 (sh_12 _) (by decide)) <| Eq.trans (e_aload_n D164_4 rfl rfl) <| Eq.trans (e_getI D164_5 rfl o_164 f_12_245 (sh_12 _) (by decide)) <| Eq.trans (e_isub D164_8 rfl) <| Eq.trans (e_aload_n D164_9 rfl rfl) <| Eq.trans (e_slen (by omega) D164_10 rfl o_164 m_12_248 g1 (by simp [cw])) <| e_icne D164_13 rfl rfl
theorem b164_16 {d : Nat} {i0 i1 : Nat} {I L : Nat → Nat → Nat → Int} {t : Nat → Nat} : Res d 164 16 [vr 12 i0, vr 117 i1, vx, vx] [] (mk I L t) = Res d 164 21 [vr 12 i0, vr 117 i1, vx, vx] [vi 1] (mk I L t) :=
  Eq.trans (e_iconst (x := 1) D164_16 rfl rfl) <| e_goto (q1 := 21) D164_17 rfl
theorem b164_20 {d : Nat} {i0 i1 : Nat} {I L : Nat → Nat → Nat → Int} {t : Nat → Nat} : Res d 164 20 [vr 12 i0, vr 117 i1, vx, vx] [] (mk I L t) = Res d 164 21 [vr 12 i0, vr 117 i1, vx, vx] [vi 0] (mk I L t) :=
  e_iconst (x := 0) D164_20 rfl rfl
theorem b164_21 {d : Nat} {i0 i1 : Nat} {xs0 : Int} {I L : Nat → Nat → Nat → Int} {t : Nat → Nat} : Res d 164 21 [vr 12 i0, vr 117 i1, vx, vx] [vi xs0] (mk I L t) = Res d 164 24 [vr 12 i0, vr 117 i1, vi xs0, vi 0] [] (mk I L t) :=
  Eq.trans (e_istore_n (ls1 := [vr 12 i0, vr 117 i1, vi xs0, vx]) D164_21 rfl (show 2 < 4 by decide) rfl) <| Eq.trans (e_iconst (x := 0) D164_22 rfl rfl) <| e_istore_n (ls1 := [vr 12 i0, vr 117 i1, vi xs0, vi 0]) D164_23 rfl (show 3 < 4 by decide) rfl
theorem b164_24 {d : Nat} {i0 i1 : Nat} {x2 x3 : Int} {I L : Nat → Nat → Nat → Int} {t : Nat → Nat} (g1 : i1 < 24) : Res (d + 7) 164 24 [vr 12 i0, vr 117 i1, vi x2, vi x3] [] (mk I L t) = if slen i1 ≤ x3 then Res (d + 7) 164 67 [vr 12 i0, vr 117 i1, vi x2, vi x3] [] (mk I L t) else Res (d + 7) 164 32 [vr 12 i0, vr 117 i1, vi x2, vi x3] [] (mk I L t) :=
  Eq.trans (e_iload_n D164_24 rfl rfl) <| Eq.trans (e_aload_n D164_25 rfl rfl) <| Eq.trans (e_slen (by omega) D164_26 rfl o_164 m_12_248 g1 (by simp [cw])) <| e_icge D164_29 rfl rfl
theorem b164_32 {d : Nat} {i0 i1 : Nat} {x2 x3 : Int} {I L : Nat → Nat → Nat → Int} {t : Nat → Nat} : Res d 164 32 [vr 12 i0, vr 117 i1, vi x2, vi x3] [] (mk I L t) = if x2 = 0 then Res d 164 67 [vr 12 i0, vr 117 i1, vi x2, vi x3] [] (mk I L t) else Res d 164 36 [vr 12 i0, vr 117 i1, vi x2, vi x3] [] (mk I L t) :=
  Eq.trans (e_iload_n D164_32 rfl rfl) <| e_ifeq D164_33 rfl rfl
theorem b164_36 {d : Nat} {i0 i1 : Nat} {x2 x3 : Int} {I L : Nat → Nat → Nat → Int} {t : Nat → Nat} (g1 : 0 ≤ w32 ((I 12 i0 39) + x3) ∧ w32 ((I 12 i0 39) + x3) < 400) (g2 : i1 < 24) (g3 : 0 ≤ x3 ∧ x3 < slen i1) : Res (d + 7) 164 36 [vr 12 i0, vr 117 i1, vi x2, vi x3] [] (mk I L t) = if ¬ I 62 i0 (w32 ((I 12 i0 39) + x3)).toNat = sch i1 x3.toNat then Res (d + 7) 164 59 [vr 12 i0, vr 117 i1, vi x2, vi x3] [] (mk I L t) else Res (d + 7) 164 55 [vr 12 i0, vr 117 i1, vi x2, vi x3] [] (mk I L t) :=
  Eq.trans (e_aload_n D164_36 rfl rfl) <| Eq.trans (e_getP (p := (62, i0)) D164_37 rfl o_164 f_12_52 (sh_12 _) (by decide) (pp_12_20 _ _)) <| Eq.trans (e_aload_n D164_40 rfl rfl) <| Eq.trans (e_getI D164_41 rfl o_164 f_12_245 (sh_12 _) (by decide)) <| Eq.trans (e_iload_n D164_44 rfl rfl) <| Eq.trans (e_iadd D164_45 rfl) <| Eq.trans (e_iald D164_46 rfl (al_62 _) g1) <| Eq.trans (e_aload_n D164_47 rfl rfl) <| Eq.trans (e_iload_n D164_48 rfl rfl) <| Eq.trans (e_sch (by omega) D164_49 rfl o_164 m_12_254 g2 g3 (by simp [cw])) <| e_icne D164_52 rfl rfl
theorem b164_55 {d : Nat} {i0 i1 : Nat} {x2 x3 : Int} {I L : Nat → Nat → Nat → Int} {t : Nat → Nat} : Res d 164 55 [vr 12 i0, vr 117 i1, vi x2, vi x3] [] (mk I L t) = Res d 164 60 [vr 12 i0, vr 117 i1, vi x2, vi x3] [vi 1] (mk I L t) :=
  Eq.trans (e_iconst (x := 1) D164_55 rfl rfl) <| e_goto (q1 := 60) D164_56 rfl
theorem b164_59 {d : Nat} {i0 i1 : Nat} {x2 x3 : Int} {I L : Nat → Nat → Nat → Int} {t : Nat → Nat} : Res d 164 59 [vr 12 i0, vr 117 i1, vi x2, vi x3] [] (mk I L t) = Res d 164 60 [vr 12 i0, vr 117 i1, vi x2, vi x3] [vi 0] (mk I L t) :=
  e_iconst (x := 0) D164_59 rfl rfl
theorem b164_60 {d : Nat} {i0 i1 : Nat} {x2 x3 xs0 : Int} {I L : Nat → Nat → Nat → Int} {t : Nat → Nat} : Res d 164 60 [vr 12 i0, vr 117 i1, vi x2, vi x3] [vi xs0] (mk I L t) = Res d 164 24 [vr 12 i0, vr 117 i1, vi xs0, vi (w32 (x3 + 1))] [] (mk I L t) :=
  Eq.trans (e_istore_n (ls1 := [vr 12 i0, vr 117 i1, vi xs0, vi x3]) D164_60 rfl (show 2 < 4 by decide) rfl) <| Eq.trans (e_iinc (ls1 := [vr 12 i0, vr 117 i1, vi xs0, vi (w32 (x3 + 1))]) D164_61 rfl rfl rfl) <| e_goto (q1 := 24) D164_64 rfl
theorem b164_67 {d : Nat} {i0 i1 : Nat} {x2 x3 : Int} {I L : Nat → Nat → Nat → Int} {t : Nat → Nat} (g1 : x2 = 0 ∨ x2 = 1) : Res d 164 67 [vr 12 i0, vr 117 i1, vi x2, vi x3] [] (mk I L t) = some (vi x2, (mk I L t)) :=
  Eq.trans (e_iload_n D164_67 rfl rfl) <| e_iret D164_68 (nrz rfl g1)
/-! m_headWord -/
theorem cc_165 : cod 165 = cX12_headWord := rfl
theorem D165_0 : decode (cod 165) 0 = .ok (.aload_n 0, 1) := by rw [cc_165]; decide +kernel
theorem D165_1 : decode (cod 165) 1 = .ok (.ldc_w 258, 3) := by rw [cc_165]; decide +kernel
theorem D165_4 : decode (cod 165) 4 = .ok (.invokevirtual 260, 3) := by rw [cc_165]; decide +kernel
theorem D165_7 : decode (cod 165) 7 = .ok (.ifCond .eq 6, 3) := by rw [cc_165]; decide +kernel
theorem D165_10 : decode (cod 165) 10 = .ok (.bipush 20, 2) := by rw [cc_165]; decide +kernel
theorem D165_12 : decode (cod 165) 12 = .ok (.ireturn, 1) := by rw [cc_165]; decide +kernel
theorem D165_13 : decode (cod 165) 13 = .ok (.aload_n 0, 1) := by rw [cc_165]; decide +kernel
theorem D165_14 : decode (cod 165) 14 = .ok (.ldc_w 264, 3) := by rw [cc_165]; decide +kernel
theorem D165_17 : decode (cod 165) 17 = .ok (.invokevirtual 260, 3) := by rw [cc_165]; decide +kernel
theorem D165_20 : decode (cod 165) 20 = .ok (.ifCond .eq 6, 3) := by rw [cc_165]; decide +kernel
theorem D165_23 : decode (cod 165) 23 = .ok (.bipush 21, 2) := by rw [cc_165]; decide +kernel
theorem D165_25 : decode (cod 165) 25 = .ok (.ireturn, 1) := by rw [cc_165]; decide +kernel
theorem D165_26 : decode (cod 165) 26 = .ok (.aload_n 0, 1) := by rw [cc_165]; decide +kernel
theorem D165_27 : decode (cod 165) 27 = .ok (.ldc_w 266, 3) := by rw [cc_165]; decide +kernel
theorem D165_30 : decode (cod 165) 30 = .ok (.invokevirtual 260, 3) := by rw [cc_165]; decide +kernel
theorem D165_33 : decode (cod 165) 33 = .ok (.ifCond .eq 6, 3) := by rw [cc_165]; decide +kernel
theorem D165_36 : decode (cod 165) 36 = .ok (.bipush 22, 2) := by rw [cc_165]; decide +kernel
theorem D165_38 : decode (cod 165) 38 = .ok (.ireturn, 1) := by rw [cc_165]; decide +kernel
theorem D165_39 : decode (cod 165) 39 = .ok (.aload_n 0, 1) := by rw [cc_165]; decide +kernel
theorem D165_40 : decode (cod 165) 40 = .ok (.ldc_w 268, 3) := by rw [cc_165]; decide +kernel
theorem D165_43 : decode (cod 165) 43 = .ok (.invokevirtual 260, 3) := by rw [cc_165]; decide +kernel
theorem D165_46 : decode (cod 165) 46 = .ok (.ifCond .eq 6, 3) := by rw [cc_165]; decide +kernel
theorem D165_49 : decode (cod 165) 49 = .ok (.bipush 23, 2) := by rw [cc_165]; decide +kernel
theorem D165_51 : decode (cod 165) 51 = .ok (.ireturn, 1) := by rw [cc_165]; decide +kernel
theorem D165_52 : decode (cod 165) 52 = .ok (.aload_n 0, 1) := by rw [cc_165]; decide +kernel
theorem D165_53 : decode (cod 165) 53 = .ok (.ldc_w 270, 3) := by rw [cc_165]; decide +kernel
theorem D165_56 : decode (cod 165) 56 = .ok (.invokevirtual 260, 3) := by rw [cc_165]; decide +kernel
theorem D165_59 : decode (cod 165) 59 = .ok (.ifCond .eq 6, 3) := by rw [cc_165]; decide +kernel
theorem D165_62 : decode (cod 165) 62 = .ok (.bipush 24, 2) := by rw [cc_165]; decide +kernel
theorem D165_64 : decode (cod 165) 64 = .ok (.ireturn, 1) := by rw [cc_165]; decide +kernel
theorem D165_65 : decode (cod 165) 65 = .ok (.aload_n 0, 1) := by rw [cc_165]; decide +kernel
theorem D165_66 : decode (cod 165) 66 = .ok (.ldc_w 272, 3) := by rw [cc_165]; decide +kernel
theorem D165_69 : decode (cod 165) 69 = .ok (.invokevirtual 260, 3) := by rw [cc_165]; decide +kernel
theorem D165_72 : decode (cod 165) 72 = .ok (.ifCond .eq 6, 3) := by rw [cc_165]; decide +kernel
theorem D165_75 : decode (cod 165) 75 = .ok (.bipush 25, 2) := by rw [cc_165]; decide +kernel
theorem D165_77 : decode (cod 165) 77 = .ok (.ireturn, 1) := by rw [cc_165]; decide +kernel
theorem D165_78 : decode (cod 165) 78 = .ok (.aload_n 0, 1) := by rw [cc_165]; decide +kernel
theorem D165_79 : decode (cod 165) 79 = .ok (.ldc_w 274, 3) := by rw [cc_165]; decide +kernel
theorem D165_82 : decode (cod 165) 82 = .ok (.invokevirtual 260, 3) := by rw [cc_165]; decide +kernel
theorem D165_85 : decode (cod 165) 85 = .ok (.ifCond .eq 6, 3) := by rw [cc_165]; decide +kernel
theorem D165_88 : decode (cod 165) 88 = .ok (.bipush 26, 2) := by rw [cc_165]; decide +kernel
theorem D165_90 : decode (cod 165) 90 = .ok (.ireturn, 1) := by rw [cc_165]; decide +kernel
theorem D165_91 : decode (cod 165) 91 = .ok (.aload_n 0, 1) := by rw [cc_165]; decide +kernel
theorem D165_92 : decode (cod 165) 92 = .ok (.ldc_w 276, 3) := by rw [cc_165]; decide +kernel
theorem D165_95 : decode (cod 165) 95 = .ok (.invokevirtual 260, 3) := by rw [cc_165]; decide +kernel
theorem D165_98 : decode (cod 165) 98 = .ok (.ifCond .eq 6, 3) := by rw [cc_165]; decide +kernel
theorem D165_101 : decode (cod 165) 101 = .ok (.bipush 27, 2) := by rw [cc_165]; decide +kernel
theorem D165_103 : decode (cod 165) 103 = .ok (.ireturn, 1) := by rw [cc_165]; decide +kernel
theorem D165_104 : decode (cod 165) 104 = .ok (.aload_n 0, 1) := by rw [cc_165]; decide +kernel
theorem D165_105 : decode (cod 165) 105 = .ok (.ldc_w 278, 3) := by rw [cc_165]; decide +kernel
theorem D165_108 : decode (cod 165) 108 = .ok (.invokevirtual 260, 3) := by rw [cc_165]; decide +kernel
theorem D165_111 : decode (cod 165) 111 = .ok (.ifCond .eq 6, 3) := by rw [cc_165]; decide +kernel
theorem D165_114 : decode (cod 165) 114 = .ok (.bipush 41, 2) := by rw [cc_165]; decide +kernel
theorem D165_116 : decode (cod 165) 116 = .ok (.ireturn, 1) := by rw [cc_165]; decide +kernel
theorem D165_117 : decode (cod 165) 117 = .ok (.aload_n 0, 1) := by rw [cc_165]; decide +kernel
theorem D165_118 : decode (cod 165) 118 = .ok (.ldc_w 280, 3) := by rw [cc_165]; decide +kernel
theorem D165_121 : decode (cod 165) 121 = .ok (.invokevirtual 260, 3) := by rw [cc_165]; decide +kernel
theorem D165_124 : decode (cod 165) 124 = .ok (.ifCond .eq 6, 3) := by rw [cc_165]; decide +kernel
theorem D165_127 : decode (cod 165) 127 = .ok (.bipush 42, 2) := by rw [cc_165]; decide +kernel
theorem D165_129 : decode (cod 165) 129 = .ok (.ireturn, 1) := by rw [cc_165]; decide +kernel
theorem D165_130 : decode (cod 165) 130 = .ok (.aload_n 0, 1) := by rw [cc_165]; decide +kernel
theorem D165_131 : decode (cod 165) 131 = .ok (.ldc_w 282, 3) := by rw [cc_165]; decide +kernel
theorem D165_134 : decode (cod 165) 134 = .ok (.invokevirtual 260, 3) := by rw [cc_165]; decide +kernel
theorem D165_137 : decode (cod 165) 137 = .ok (.ifCond .eq 6, 3) := by rw [cc_165]; decide +kernel
theorem D165_140 : decode (cod 165) 140 = .ok (.bipush 43, 2) := by rw [cc_165]; decide +kernel
theorem D165_142 : decode (cod 165) 142 = .ok (.ireturn, 1) := by rw [cc_165]; decide +kernel
theorem D165_143 : decode (cod 165) 143 = .ok (.aload_n 0, 1) := by rw [cc_165]; decide +kernel
theorem D165_144 : decode (cod 165) 144 = .ok (.ldc_w 284, 3) := by rw [cc_165]; decide +kernel
theorem D165_147 : decode (cod 165) 147 = .ok (.invokevirtual 260, 3) := by rw [cc_165]; decide +kernel
theorem D165_150 : decode (cod 165) 150 = .ok (.ifCond .eq 6, 3) := by rw [cc_165]; decide +kernel
theorem D165_153 : decode (cod 165) 153 = .ok (.bipush 44, 2) := by rw [cc_165]; decide +kernel
theorem D165_155 : decode (cod 165) 155 = .ok (.ireturn, 1) := by rw [cc_165]; decide +kernel
theorem D165_156 : decode (cod 165) 156 = .ok (.aload_n 0, 1) := by rw [cc_165]; decide +kernel
theorem D165_157 : decode (cod 165) 157 = .ok (.ldc_w 286, 3) := by rw [cc_165]; decide +kernel
theorem D165_160 : decode (cod 165) 160 = .ok (.invokevirtual 260, 3) := by rw [cc_165]; decide +kernel
theorem D165_163 : decode (cod 165) 163 = .ok (.ifCond .eq 6, 3) := by rw [cc_165]; decide +kernel
theorem D165_166 : decode (cod 165) 166 = .ok (.bipush 45, 2) := by rw [cc_165]; decide +kernel
theorem D165_168 : decode (cod 165) 168 = .ok (.ireturn, 1) := by rw [cc_165]; decide +kernel
theorem D165_169 : decode (cod 165) 169 = .ok (.aload_n 0, 1) := by rw [cc_165]; decide +kernel
theorem D165_170 : decode (cod 165) 170 = .ok (.ldc_w 288, 3) := by rw [cc_165]; decide +kernel
theorem D165_173 : decode (cod 165) 173 = .ok (.invokevirtual 260, 3) := by rw [cc_165]; decide +kernel
theorem D165_176 : decode (cod 165) 176 = .ok (.ifCond .eq 6, 3) := by rw [cc_165]; decide +kernel
theorem D165_179 : decode (cod 165) 179 = .ok (.bipush 46, 2) := by rw [cc_165]; decide +kernel
theorem D165_181 : decode (cod 165) 181 = .ok (.ireturn, 1) := by rw [cc_165]; decide +kernel
theorem D165_182 : decode (cod 165) 182 = .ok (.aload_n 0, 1) := by rw [cc_165]; decide +kernel
theorem D165_183 : decode (cod 165) 183 = .ok (.ldc_w 290, 3) := by rw [cc_165]; decide +kernel
theorem D165_186 : decode (cod 165) 186 = .ok (.invokevirtual 260, 3) := by rw [cc_165]; decide +kernel
theorem D165_189 : decode (cod 165) 189 = .ok (.ifCond .eq 6, 3) := by rw [cc_165]; decide +kernel
theorem D165_192 : decode (cod 165) 192 = .ok (.bipush 47, 2) := by rw [cc_165]; decide +kernel
theorem D165_194 : decode (cod 165) 194 = .ok (.ireturn, 1) := by rw [cc_165]; decide +kernel
theorem D165_195 : decode (cod 165) 195 = .ok (.aload_n 0, 1) := by rw [cc_165]; decide +kernel
theorem D165_196 : decode (cod 165) 196 = .ok (.ldc_w 292, 3) := by rw [cc_165]; decide +kernel
theorem D165_199 : decode (cod 165) 199 = .ok (.invokevirtual 260, 3) := by rw [cc_165]; decide +kernel
theorem D165_202 : decode (cod 165) 202 = .ok (.ifCond .eq 6, 3) := by rw [cc_165]; decide +kernel
theorem D165_205 : decode (cod 165) 205 = .ok (.bipush 48, 2) := by rw [cc_165]; decide +kernel
theorem D165_207 : decode (cod 165) 207 = .ok (.ireturn, 1) := by rw [cc_165]; decide +kernel
theorem D165_208 : decode (cod 165) 208 = .ok (.aload_n 0, 1) := by rw [cc_165]; decide +kernel
theorem D165_209 : decode (cod 165) 209 = .ok (.ldc_w 294, 3) := by rw [cc_165]; decide +kernel
theorem D165_212 : decode (cod 165) 212 = .ok (.invokevirtual 260, 3) := by rw [cc_165]; decide +kernel
theorem D165_215 : decode (cod 165) 215 = .ok (.ifCond .eq 6, 3) := by rw [cc_165]; decide +kernel
theorem D165_218 : decode (cod 165) 218 = .ok (.bipush 49, 2) := by rw [cc_165]; decide +kernel
theorem D165_220 : decode (cod 165) 220 = .ok (.ireturn, 1) := by rw [cc_165]; decide +kernel
theorem D165_221 : decode (cod 165) 221 = .ok (.aload_n 0, 1) := by rw [cc_165]; decide +kernel
theorem D165_222 : decode (cod 165) 222 = .ok (.ldc_w 296, 3) := by rw [cc_165]; decide +kernel
theorem D165_225 : decode (cod 165) 225 = .ok (.invokevirtual 260, 3) := by rw [cc_165]; decide +kernel
theorem D165_228 : decode (cod 165) 228 = .ok (.ifCond .eq 8, 3) := by rw [cc_165]; decide +kernel
theorem D165_231 : decode (cod 165) 231 = .ok (.bipush 50, 2) := by rw [cc_165]; decide +kernel
theorem D165_233 : decode (cod 165) 233 = .ok (.goto 4, 3) := by rw [cc_165]; decide +kernel
theorem D165_236 : decode (cod 165) 236 = .ok (.iconst 1, 1) := by rw [cc_165]; decide +kernel
theorem D165_237 : decode (cod 165) 237 = .ok (.ireturn, 1) := by rw [cc_165]; decide +kernel
theorem b165_0 {d : Nat} {i0 : Nat} {I L : Nat → Nat → Nat → Int} {t : Nat → Nat} : Res (d + 1) 165 0 [vr 12 i0] [] (mk I L t) = (Cal d 164 [vr 12 i0, vr 117 0] (mk I L t)).bind fun v => Res (d + 1) 165 7 [vr 12 i0] (psh 164 v.1 []) v.2 :=
  Eq.trans (e_aload_n D165_0 rfl rfl) <| Eq.trans (e_ldc_wS (n := 0) D165_1 rfl o_165 rfl rfl) <| e_callV D165_4 rfl o_165 m_12_260 (by decide) rfl rfl
theorem b165_7 {d : Nat} {i0 : Nat} {xs0 : Int} {I L : Nat → Nat → Nat → Int} {t : Nat → Nat} : Res d 165 7 [vr 12 i0] [vi xs0] (mk I L t) = if xs0 = 0 then Res d 165 13 [vr 12 i0] [] (mk I L t) else Res d 165 10 [vr 12 i0] [] (mk I L t) :=
  e_ifeq D165_7 rfl rfl
theorem b165_10 {d : Nat} {i0 : Nat} {I L : Nat → Nat → Nat → Int} {t : Nat → Nat} : Res d 165 10 [vr 12 i0] [] (mk I L t) = some (vi 20, (mk I L t)) :=
  Eq.trans (e_bipush (x := 20) D165_10 rfl rfl) <| e_iret D165_12 rfl
theorem b165_13 {d : Nat} {i0 : Nat} {I L : Nat → Nat → Nat → Int} {t : Nat → Nat} : Res (d + 1) 165 13 [vr 12 i0] [] (mk I L t) = (Cal d 164 [vr 12 i0, vr 117 1] (mk I L t)).bind fun v => Res (d + 1) 165 20 [vr 12 i0] (psh 164 v.1 []) v.2 :=
  Eq.trans (e_aload_n D165_13 rfl rfl) <| Eq.trans (e_ldc_wS (n := 1) D165_14 rfl o_165 rfl rfl) <| e_callV D165_17 rfl o_165 m_12_260 (by decide) rfl rfl
theorem b165_20 {d : Nat} {i0 : Nat} {xs0 : Int} {I L : Nat → Nat → Nat → Int} {t : Nat → Nat} : Res d 165 20 [vr 12 i0] [vi xs0] (mk I L t) = if xs0 = 0 then Res d 165 26 [vr 12 i0] [] (mk I L t) else Res d 165 23 [vr 12 i0] [] (mk I L t) :=
  e_ifeq D165_20 rfl rfl
theorem b165_23 {d : Nat} {i0 : Nat} {I L : Nat → Nat → Nat → Int} {t : Nat → Nat} : Res d 165 23 [vr 12 i0] [] (mk I L t) = some (vi 21, (mk I L t)) :=
  Eq.trans (e_bipush (x := 21) D165_23 rfl rfl) <| e_iret D165_25 rfl
theorem b165_26 {d : Nat} {i0 : Nat} {I L : Nat → Nat → Nat → Int} {t : Nat → Nat} : Res (d + 1) 165 26 [vr 12 i0] [] (mk I L t) = (Cal d 164 [vr 12 i0, vr 117 2] (mk I L t)).bind fun v => Res (d + 1) 165 33 [vr 12 i0] (psh 164 v.1 []) v.2 :=
  Eq.trans (e_aload_n D165_26 rfl rfl) <| Eq.trans (e_ldc_wS (n := 2) D165_27 rfl o_165 rfl rfl) <| e_callV D165_30 rfl o_165 m_12_260 (by decide) rfl rfl
theorem b165_33 {d : Nat} {i0 : Nat} {xs0 : Int} {I L : Nat → Nat → Nat → Int} {t : Nat → Nat} : Res d 165 33 [vr 12 i0] [vi xs0] (mk I L t) = if xs0 = 0 then Res d 165 39 [vr 12 i0] [] (mk I L t) else Res d 165 36 [vr 12 i0] [] (mk I L t) :=
  e_ifeq D165_33 rfl rfl
theorem b165_36 {d : Nat} {i0 : Nat} {I L : Nat → Nat → Nat → Int} {t : Nat → Nat} : Res d 165 36 [vr 12 i0] [] (mk I L t) = some (vi 22, (mk I L t)) :=
  Eq.trans (e_bipush (x := 22) D165_36 rfl rfl) <| e_iret D165_38 rfl
theorem b165_39 {d : Nat} {i0 : Nat} {I L : Nat → Nat → Nat → Int} {t : Nat → Nat} : Res (d + 1) 165 39 [vr 12 i0] [] (mk I L t) = (Cal d 164 [vr 12 i0, vr 117 3] (mk I L t)).bind fun v => Res (d + 1) 165 46 [vr 12 i0] (psh 164 v.1 []) v.2 :=
  Eq.trans (e_aload_n D165_39 rfl rfl) <| Eq.trans (e_ldc_wS (n := 3) D165_40 rfl o_165 rfl rfl) <| e_callV D165_43 rfl o_165 m_12_260 (by decide) rfl rfl
theorem b165_46 {d : Nat} {i0 : Nat} {xs0 : Int} {I L : Nat → Nat → Nat → Int} {t : Nat → Nat} : Res d 165 46 [vr 12 i0] [vi xs0] (mk I L t) = if xs0 = 0 then Res d 165 52 [vr 12 i0] [] (mk I L t) else Res d 165 49 [vr 12 i0] [] (mk I L t) :=
  e_ifeq D165_46 rfl rfl
theorem b165_49 {d : Nat} {i0 : Nat} {I L : Nat → Nat → Nat → Int} {t : Nat → Nat} : Res d 165 49 [vr 12 i0] [] (mk I L t) = some (vi 23, (mk I L t)) :=
  Eq.trans (e_bipush (x := 23) D165_49 rfl rfl) <| e_iret D165_51 rfl
theorem b165_52 {d : Nat} {i0 : Nat} {I L : Nat → Nat → Nat → Int} {t : Nat → Nat} : Res (d + 1) 165 52 [vr 12 i0] [] (mk I L t) = (Cal d 164 [vr 12 i0, vr 117 4] (mk I L t)).bind fun v => Res (d + 1) 165 59 [vr 12 i0] (psh 164 v.1 []) v.2 :=
  Eq.trans (e_aload_n D165_52 rfl rfl) <| Eq.trans (e_ldc_wS (n := 4) D165_53 rfl o_165 rfl rfl) <| e_callV D165_56 rfl o_165 m_12_260 (by decide) rfl rfl
theorem b165_59 {d : Nat} {i0 : Nat} {xs0 : Int} {I L : Nat → Nat → Nat → Int} {t : Nat → Nat} : Res d 165 59 [vr 12 i0] [vi xs0] (mk I L t) = if xs0 = 0 then Res d 165 65 [vr 12 i0] [] (mk I L t) else Res d 165 62 [vr 12 i0] [] (mk I L t) :=
  e_ifeq D165_59 rfl rfl
theorem b165_62 {d : Nat} {i0 : Nat} {I L : Nat → Nat → Nat → Int} {t : Nat → Nat} : Res d 165 62 [vr 12 i0] [] (mk I L t) = some (vi 24, (mk I L t)) :=
  Eq.trans (e_bipush (x := 24) D165_62 rfl rfl) <| e_iret D165_64 rfl
theorem b165_65 {d : Nat} {i0 : Nat} {I L : Nat → Nat → Nat → Int} {t : Nat → Nat} : Res (d + 1) 165 65 [vr 12 i0] [] (mk I L t) = (Cal d 164 [vr 12 i0, vr 117 5] (mk I L t)).bind fun v => Res (d + 1) 165 72 [vr 12 i0] (psh 164 v.1 []) v.2 :=
  Eq.trans (e_aload_n D165_65 rfl rfl) <| Eq.trans (e_ldc_wS (n := 5) D165_66 rfl o_165 rfl rfl) <| e_callV D165_69 rfl o_165 m_12_260 (by decide) rfl rfl
theorem b165_72 {d : Nat} {i0 : Nat} {xs0 : Int} {I L : Nat → Nat → Nat → Int} {t : Nat → Nat} : Res d 165 72 [vr 12 i0] [vi xs0] (mk I L t) = if xs0 = 0 then Res d 165 78 [vr 12 i0] [] (mk I L t) else Res d 165 75 [vr 12 i0] [] (mk I L t) :=
  e_ifeq D165_72 rfl rfl
theorem b165_75 {d : Nat} {i0 : Nat} {I L : Nat → Nat → Nat → Int} {t : Nat → Nat} : Res d 165 75 [vr 12 i0] [] (mk I L t) = some (vi 25, (mk I L t)) :=
  Eq.trans (e_bipush (x := 25) D165_75 rfl rfl) <| e_iret D165_77 rfl
theorem b165_78 {d : Nat} {i0 : Nat} {I L : Nat → Nat → Nat → Int} {t : Nat → Nat} : Res (d + 1) 165 78 [vr 12 i0] [] (mk I L t) = (Cal d 164 [vr 12 i0, vr 117 6] (mk I L t)).bind fun v => Res (d + 1) 165 85 [vr 12 i0] (psh 164 v.1 []) v.2 :=
  Eq.trans (e_aload_n D165_78 rfl rfl) <| Eq.trans (e_ldc_wS (n := 6) D165_79 rfl o_165 rfl rfl) <| e_callV D165_82 rfl o_165 m_12_260 (by decide) rfl rfl
theorem b165_85 {d : Nat} {i0 : Nat} {xs0 : Int} {I L : Nat → Nat → Nat → Int} {t : Nat → Nat} : Res d 165 85 [vr 12 i0] [vi xs0] (mk I L t) = if xs0 = 0 then Res d 165 91 [vr 12 i0] [] (mk I L t) else Res d 165 88 [vr 12 i0] [] (mk I L t) :=
  e_ifeq D165_85 rfl rfl
theorem b165_88 {d : Nat} {i0 : Nat} {I L : Nat → Nat → Nat → Int} {t : Nat → Nat} : Res d 165 88 [vr 12 i0] [] (mk I L t) = some (vi 26, (mk I L t)) :=
  Eq.trans (e_bipush (x := 26) D165_88 rfl rfl) <| e_iret D165_90 rfl
theorem b165_91 {d : Nat} {i0 : Nat} {I L : Nat → Nat → Nat → Int} {t : Nat → Nat} : Res (d + 1) 165 91 [vr 12 i0] [] (mk I L t) = (Cal d 164 [vr 12 i0, vr 117 7] (mk I L t)).bind fun v => Res (d + 1) 165 98 [vr 12 i0] (psh 164 v.1 []) v.2 :=
  Eq.trans (e_aload_n D165_91 rfl rfl) <| Eq.trans (e_ldc_wS (n := 7) D165_92 rfl o_165 rfl rfl) <| e_callV D165_95 rfl o_165 m_12_260 (by decide) rfl rfl
theorem b165_98 {d : Nat} {i0 : Nat} {xs0 : Int} {I L : Nat → Nat → Nat → Int} {t : Nat → Nat} : Res d 165 98 [vr 12 i0] [vi xs0] (mk I L t) = if xs0 = 0 then Res d 165 104 [vr 12 i0] [] (mk I L t) else Res d 165 101 [vr 12 i0] [] (mk I L t) :=
  e_ifeq D165_98 rfl rfl
theorem b165_101 {d : Nat} {i0 : Nat} {I L : Nat → Nat → Nat → Int} {t : Nat → Nat} : Res d 165 101 [vr 12 i0] [] (mk I L t) = some (vi 27, (mk I L t)) :=
  Eq.trans (e_bipush (x := 27) D165_101 rfl rfl) <| e_iret D165_103 rfl
theorem b165_104 {d : Nat} {i0 : Nat} {I L : Nat → Nat → Nat → Int} {t : Nat → Nat} : Res (d + 1) 165 104 [vr 12 i0] [] (mk I L t) = (Cal d 164 [vr 12 i0, vr 117 8] (mk I L t)).bind fun v => Res (d + 1) 165 111 [vr 12 i0] (psh 164 v.1 []) v.2 :=
  Eq.trans (e_aload_n D165_104 rfl rfl) <| Eq.trans (e_ldc_wS (n := 8) D165_105 rfl o_165 rfl rfl) <| e_callV D165_108 rfl o_165 m_12_260 (by decide) rfl rfl
theorem b165_111 {d : Nat} {i0 : Nat} {xs0 : Int} {I L : Nat → Nat → Nat → Int} {t : Nat → Nat} : Res d 165 111 [vr 12 i0] [vi xs0] (mk I L t) = if xs0 = 0 then Res d 165 117 [vr 12 i0] [] (mk I L t) else Res d 165 114 [vr 12 i0] [] (mk I L t) :=
  e_ifeq D165_111 rfl rfl
theorem b165_114 {d : Nat} {i0 : Nat} {I L : Nat → Nat → Nat → Int} {t : Nat → Nat} : Res d 165 114 [vr 12 i0] [] (mk I L t) = some (vi 41, (mk I L t)) :=
  Eq.trans (e_bipush (x := 41) D165_114 rfl rfl) <| e_iret D165_116 rfl
theorem b165_117 {d : Nat} {i0 : Nat} {I L : Nat → Nat → Nat → Int} {t : Nat → Nat} : Res (d + 1) 165 117 [vr 12 i0] [] (mk I L t) = (Cal d 164 [vr 12 i0, vr 117 9] (mk I L t)).bind fun v => Res (d + 1) 165 124 [vr 12 i0] (psh 164 v.1 []) v.2 :=
  Eq.trans (e_aload_n D165_117 rfl rfl) <| Eq.trans (e_ldc_wS (n := 9) D165_118 rfl o_165 rfl rfl) <| e_callV D165_121 rfl o_165 m_12_260 (by decide) rfl rfl
theorem b165_124 {d : Nat} {i0 : Nat} {xs0 : Int} {I L : Nat → Nat → Nat → Int} {t : Nat → Nat} : Res d 165 124 [vr 12 i0] [vi xs0] (mk I L t) = if xs0 = 0 then Res d 165 130 [vr 12 i0] [] (mk I L t) else Res d 165 127 [vr 12 i0] [] (mk I L t) :=
  e_ifeq D165_124 rfl rfl
theorem b165_127 {d : Nat} {i0 : Nat} {I L : Nat → Nat → Nat → Int} {t : Nat → Nat} : Res d 165 127 [vr 12 i0] [] (mk I L t) = some (vi 42, (mk I L t)) :=
  Eq.trans (e_bipush (x := 42) D165_127 rfl rfl) <| e_iret D165_129 rfl
theorem b165_130 {d : Nat} {i0 : Nat} {I L : Nat → Nat → Nat → Int} {t : Nat → Nat} : Res (d + 1) 165 130 [vr 12 i0] [] (mk I L t) = (Cal d 164 [vr 12 i0, vr 117 10] (mk I L t)).bind fun v => Res (d + 1) 165 137 [vr 12 i0] (psh 164 v.1 []) v.2 :=
  Eq.trans (e_aload_n D165_130 rfl rfl) <| Eq.trans (e_ldc_wS (n := 10) D165_131 rfl o_165 rfl rfl) <| e_callV D165_134 rfl o_165 m_12_260 (by decide) rfl rfl
theorem b165_137 {d : Nat} {i0 : Nat} {xs0 : Int} {I L : Nat → Nat → Nat → Int} {t : Nat → Nat} : Res d 165 137 [vr 12 i0] [vi xs0] (mk I L t) = if xs0 = 0 then Res d 165 143 [vr 12 i0] [] (mk I L t) else Res d 165 140 [vr 12 i0] [] (mk I L t) :=
  e_ifeq D165_137 rfl rfl
theorem b165_140 {d : Nat} {i0 : Nat} {I L : Nat → Nat → Nat → Int} {t : Nat → Nat} : Res d 165 140 [vr 12 i0] [] (mk I L t) = some (vi 43, (mk I L t)) :=
  Eq.trans (e_bipush (x := 43) D165_140 rfl rfl) <| e_iret D165_142 rfl
theorem b165_143 {d : Nat} {i0 : Nat} {I L : Nat → Nat → Nat → Int} {t : Nat → Nat} : Res (d + 1) 165 143 [vr 12 i0] [] (mk I L t) = (Cal d 164 [vr 12 i0, vr 117 11] (mk I L t)).bind fun v => Res (d + 1) 165 150 [vr 12 i0] (psh 164 v.1 []) v.2 :=
  Eq.trans (e_aload_n D165_143 rfl rfl) <| Eq.trans (e_ldc_wS (n := 11) D165_144 rfl o_165 rfl rfl) <| e_callV D165_147 rfl o_165 m_12_260 (by decide) rfl rfl
theorem b165_150 {d : Nat} {i0 : Nat} {xs0 : Int} {I L : Nat → Nat → Nat → Int} {t : Nat → Nat} : Res d 165 150 [vr 12 i0] [vi xs0] (mk I L t) = if xs0 = 0 then Res d 165 156 [vr 12 i0] [] (mk I L t) else Res d 165 153 [vr 12 i0] [] (mk I L t) :=
  e_ifeq D165_150 rfl rfl
theorem b165_153 {d : Nat} {i0 : Nat} {I L : Nat → Nat → Nat → Int} {t : Nat → Nat} : Res d 165 153 [vr 12 i0] [] (mk I L t) = some (vi 44, (mk I L t)) :=
  Eq.trans (e_bipush (x := 44) D165_153 rfl rfl) <| e_iret D165_155 rfl
theorem b165_156 {d : Nat} {i0 : Nat} {I L : Nat → Nat → Nat → Int} {t : Nat → Nat} : Res (d + 1) 165 156 [vr 12 i0] [] (mk I L t) = (Cal d 164 [vr 12 i0, vr 117 12] (mk I L t)).bind fun v => Res (d + 1) 165 163 [vr 12 i0] (psh 164 v.1 []) v.2 :=
  Eq.trans (e_aload_n D165_156 rfl rfl) <| Eq.trans (e_ldc_wS (n := 12) D165_157 rfl o_165 rfl rfl) <| e_callV D165_160 rfl o_165 m_12_260 (by decide) rfl rfl
theorem b165_163 {d : Nat} {i0 : Nat} {xs0 : Int} {I L : Nat → Nat → Nat → Int} {t : Nat → Nat} : Res d 165 163 [vr 12 i0] [vi xs0] (mk I L t) = if xs0 = 0 then Res d 165 169 [vr 12 i0] [] (mk I L t) else Res d 165 166 [vr 12 i0] [] (mk I L t) :=
  e_ifeq D165_163 rfl rfl
theorem b165_166 {d : Nat} {i0 : Nat} {I L : Nat → Nat → Nat → Int} {t : Nat → Nat} : Res d 165 166 [vr 12 i0] [] (mk I L t) = some (vi 45, (mk I L t)) :=
  Eq.trans (e_bipush (x := 45) D165_166 rfl rfl) <| e_iret D165_168 rfl
theorem b165_169 {d : Nat} {i0 : Nat} {I L : Nat → Nat → Nat → Int} {t : Nat → Nat} : Res (d + 1) 165 169 [vr 12 i0] [] (mk I L t) = (Cal d 164 [vr 12 i0, vr 117 13] (mk I L t)).bind fun v => Res (d + 1) 165 176 [vr 12 i0] (psh 164 v.1 []) v.2 :=
  Eq.trans (e_aload_n D165_169 rfl rfl) <| Eq.trans (e_ldc_wS (n := 13) D165_170 rfl o_165 rfl rfl) <| e_callV D165_173 rfl o_165 m_12_260 (by decide) rfl rfl
theorem b165_176 {d : Nat} {i0 : Nat} {xs0 : Int} {I L : Nat → Nat → Nat → Int} {t : Nat → Nat} : Res d 165 176 [vr 12 i0] [vi xs0] (mk I L t) = if xs0 = 0 then Res d 165 182 [vr 12 i0] [] (mk I L t) else Res d 165 179 [vr 12 i0] [] (mk I L t) :=
  e_ifeq D165_176 rfl rfl
theorem b165_179 {d : Nat} {i0 : Nat} {I L : Nat → Nat → Nat → Int} {t : Nat → Nat} : Res d 165 179 [vr 12 i0] [] (mk I L t) = some (vi 46, (mk I L t)) :=
  Eq.trans (e_bipush (x := 46) D165_179 rfl rfl) <| e_iret D165_181 rfl
theorem b165_182 {d : Nat} {i0 : Nat} {I L : Nat → Nat → Nat → Int} {t : Nat → Nat} : Res (d + 1) 165 182 [vr 12 i0] [] (mk I L t) = (Cal d 164 [vr 12 i0, vr 117 14] (mk I L t)).bind fun v => Res (d + 1) 165 189 [vr 12 i0] (psh 164 v.1 []) v.2 :=
  Eq.trans (e_aload_n D165_182 rfl rfl) <| Eq.trans (e_ldc_wS (n := 14) D165_183 rfl o_165 rfl rfl) <| e_callV D165_186 rfl o_165 m_12_260 (by decide) rfl rfl
theorem b165_189 {d : Nat} {i0 : Nat} {xs0 : Int} {I L : Nat → Nat → Nat → Int} {t : Nat → Nat} : Res d 165 189 [vr 12 i0] [vi xs0] (mk I L t) = if xs0 = 0 then Res d 165 195 [vr 12 i0] [] (mk I L t) else Res d 165 192 [vr 12 i0] [] (mk I L t) :=
  e_ifeq D165_189 rfl rfl
theorem b165_192 {d : Nat} {i0 : Nat} {I L : Nat → Nat → Nat → Int} {t : Nat → Nat} : Res d 165 192 [vr 12 i0] [] (mk I L t) = some (vi 47, (mk I L t)) :=
  Eq.trans (e_bipush (x := 47) D165_192 rfl rfl) <| e_iret D165_194 rfl
theorem b165_195 {d : Nat} {i0 : Nat} {I L : Nat → Nat → Nat → Int} {t : Nat → Nat} : Res (d + 1) 165 195 [vr 12 i0] [] (mk I L t) = (Cal d 164 [vr 12 i0, vr 117 15] (mk I L t)).bind fun v => Res (d + 1) 165 202 [vr 12 i0] (psh 164 v.1 []) v.2 :=
  Eq.trans (e_aload_n D165_195 rfl rfl) <| Eq.trans (e_ldc_wS (n := 15) D165_196 rfl o_165 rfl rfl) <| e_callV D165_199 rfl o_165 m_12_260 (by decide) rfl rfl
theorem b165_202 {d : Nat} {i0 : Nat} {xs0 : Int} {I L : Nat → Nat → Nat → Int} {t : Nat → Nat} : Res d 165 202 [vr 12 i0] [vi xs0] (mk I L t) = if xs0 = 0 then Res d 165 208 [vr 12 i0] [] (mk I L t) else Res d 165 205 [vr 12 i0] [] (mk I L t) :=
  e_ifeq D165_202 rfl rfl
theorem b165_205 {d : Nat} {i0 : Nat} {I L : Nat → Nat → Nat → Int} {t : Nat → Nat} : Res d 165 205 [vr 12 i0] [] (mk I L t) = some (vi 48, (mk I L t)) :=
  Eq.trans (e_bipush (x := 48) D165_205 rfl rfl) <| e_iret D165_207 rfl
theorem b165_208 {d : Nat} {i0 : Nat} {I L : Nat → Nat → Nat → Int} {t : Nat → Nat} : Res (d + 1) 165 208 [vr 12 i0] [] (mk I L t) = (Cal d 164 [vr 12 i0, vr 117 16] (mk I L t)).bind fun v => Res (d + 1) 165 215 [vr 12 i0] (psh 164 v.1 []) v.2 :=
  Eq.trans (e_aload_n D165_208 rfl rfl) <| Eq.trans (e_ldc_wS (n := 16) D165_209 rfl o_165 rfl rfl) <| e_callV D165_212 rfl o_165 m_12_260 (by decide) rfl rfl
theorem b165_215 {d : Nat} {i0 : Nat} {xs0 : Int} {I L : Nat → Nat → Nat → Int} {t : Nat → Nat} : Res d 165 215 [vr 12 i0] [vi xs0] (mk I L t) = if xs0 = 0 then Res d 165 221 [vr 12 i0] [] (mk I L t) else Res d 165 218 [vr 12 i0] [] (mk I L t) :=
  e_ifeq D165_215 rfl rfl
theorem b165_218 {d : Nat} {i0 : Nat} {I L : Nat → Nat → Nat → Int} {t : Nat → Nat} : Res d 165 218 [vr 12 i0] [] (mk I L t) = some (vi 49, (mk I L t)) :=
  Eq.trans (e_bipush (x := 49) D165_218 rfl rfl) <| e_iret D165_220 rfl
theorem b165_221 {d : Nat} {i0 : Nat} {I L : Nat → Nat → Nat → Int} {t : Nat → Nat} : Res (d + 1) 165 221 [vr 12 i0] [] (mk I L t) = (Cal d 164 [vr 12 i0, vr 117 17] (mk I L t)).bind fun v => Res (d + 1) 165 228 [vr 12 i0] (psh 164 v.1 []) v.2 :=
  Eq.trans (e_aload_n D165_221 rfl rfl) <| Eq.trans (e_ldc_wS (n := 17) D165_222 rfl o_165 rfl rfl) <| e_callV D165_225 rfl o_165 m_12_260 (by decide) rfl rfl
theorem b165_228 {d : Nat} {i0 : Nat} {xs0 : Int} {I L : Nat → Nat → Nat → Int} {t : Nat → Nat} : Res d 165 228 [vr 12 i0] [vi xs0] (mk I L t) = if xs0 = 0 then Res d 165 236 [vr 12 i0] [] (mk I L t) else Res d 165 231 [vr 12 i0] [] (mk I L t) :=
  e_ifeq D165_228 rfl rfl
theorem b165_231 {d : Nat} {i0 : Nat} {I L : Nat → Nat → Nat → Int} {t : Nat → Nat} : Res d 165 231 [vr 12 i0] [] (mk I L t) = Res d 165 237 [vr 12 i0] [vi 50] (mk I L t) :=
  Eq.trans (e_bipush (x := 50) D165_231 rfl rfl) <| e_goto (q1 := 237) D165_233 rfl
theorem b165_236 {d : Nat} {i0 : Nat} {I L : Nat → Nat → Nat → Int} {t : Nat → Nat} : Res d 165 236 [vr 12 i0] [] (mk I L t) = Res d 165 237 [vr 12 i0] [vi 1] (mk I L t) :=
  e_iconst (x := 1) D165_236 rfl rfl
theorem b165_237 {d : Nat} {i0 : Nat} {xs0 : Int} {I L : Nat → Nat → Nat → Int} {t : Nat → Nat} : Res d 165 237 [vr 12 i0] [vi xs0] (mk I L t) = some (vi xs0, (mk I L t)) :=
  e_iret D165_237 rfl
/-! m_word -/
theorem cc_166 : cod 166 = cX12_word := rfl
theorem D166_0 : decode (cod 166) 0 = .ok (.aload_n 0, 1) := by rw [cc_166]; decide +kernel
theorem D166_1 : decode (cod 166) 1 = .ok (.getfield 298, 3) := by rw [cc_166]; decide +kernel
theorem D166_4 : decode (cod 166) 4 = .ok (.ifCond .ne 8, 3) := by rw [cc_166]; decide +kernel
theorem D166_7 : decode (cod 166) 7 = .ok (.aload_n 0, 1) := by rw [cc_166]; decide +kernel
theorem D166_8 : decode (cod 166) 8 = .ok (.invokevirtual 301, 3) := by rw [cc_166]; decide +kernel
theorem D166_11 : decode (cod 166) 11 = .ok (.ireturn, 1) := by rw [cc_166]; decide +kernel
theorem D166_12 : decode (cod 166) 12 = .ok (.aload_n 0, 1) := by rw [cc_166]; decide +kernel
theorem D166_13 : decode (cod 166) 13 = .ok (.getfield 298, 3) := by rw [cc_166]; decide +kernel
theorem D166_16 : decode (cod 166) 16 = .ok (.iconst 1, 1) := by rw [cc_166]; decide +kernel
theorem D166_17 : decode (cod 166) 17 = .ok (.if_icmp .ne 19, 3) := by rw [cc_166]; decide +kernel
theorem D166_20 : decode (cod 166) 20 = .ok (.aload_n 0, 1) := by rw [cc_166]; decide +kernel
theorem D166_21 : decode (cod 166) 21 = .ok (.ldc_w 304, 3) := by rw [cc_166]; decide +kernel
theorem D166_24 : decode (cod 166) 24 = .ok (.invokevirtual 260, 3) := by rw [cc_166]; decide +kernel
theorem D166_27 : decode (cod 166) 27 = .ok (.ifCond .eq 7, 3) := by rw [cc_166]; decide +kernel
theorem D166_30 : decode (cod 166) 30 = .ok (.iconst 3, 1) := by rw [cc_166]; decide +kernel
theorem D166_31 : decode (cod 166) 31 = .ok (.goto 4, 3) := by rw [cc_166]; decide +kernel
theorem D166_34 : decode (cod 166) 34 = .ok (.iconst 1, 1) := by rw [cc_166]; decide +kernel
theorem D166_35 : decode (cod 166) 35 = .ok (.ireturn, 1) := by rw [cc_166]; decide +kernel
theorem D166_36 : decode (cod 166) 36 = .ok (.aload_n 0, 1) := by rw [cc_166]; decide +kernel
theorem D166_37 : decode (cod 166) 37 = .ok (.ldc_w 306, 3) := by rw [cc_166]; decide +kernel
theorem D166_40 : decode (cod 166) 40 = .ok (.invokevirtual 260, 3) := by rw [cc_166]; decide +kernel
theorem D166_43 : decode (cod 166) 43 = .ok (.ifCond .eq 7, 3) := by rw [cc_166]; decide +kernel
theorem D166_46 : decode (cod 166) 46 = .ok (.iconst 4, 1) := by rw [cc_166]; decide +kernel
theorem D166_47 : decode (cod 166) 47 = .ok (.goto 48, 3) := by rw [cc_166]; decide +kernel
theorem D166_50 : decode (cod 166) 50 = .ok (.aload_n 0, 1) := by rw [cc_166]; decide +kernel
theorem D166_51 : decode (cod 166) 51 = .ok (.ldc_w 308, 3) := by rw [cc_166]; decide +kernel
theorem D166_54 : decode (cod 166) 54 = .ok (.invokevirtual 260, 3) := by rw [cc_166]; decide +kernel
theorem D166_57 : decode (cod 166) 57 = .ok (.ifCond .eq 7, 3) := by rw [cc_166]; decide +kernel
theorem D166_60 : decode (cod 166) 60 = .ok (.iconst 5, 1) := by rw [cc_166]; decide +kernel
theorem D166_61 : decode (cod 166) 61 = .ok (.goto 34, 3) := by rw [cc_166]; decide +kernel
theorem D166_64 : decode (cod 166) 64 = .ok (.aload_n 0, 1) := by rw [cc_166]; decide +kernel
theorem D166_65 : decode (cod 166) 65 = .ok (.ldc_w 310, 3) := by rw [cc_166]; decide +kernel
theorem D166_68 : decode (cod 166) 68 = .ok (.invokevirtual 260, 3) := by rw [cc_166]; decide +kernel
theorem D166_71 : decode (cod 166) 71 = .ok (.ifCond .eq 8, 3) := by rw [cc_166]; decide +kernel
theorem D166_74 : decode (cod 166) 74 = .ok (.bipush 6, 2) := by rw [cc_166]; decide +kernel
theorem D166_76 : decode (cod 166) 76 = .ok (.goto 19, 3) := by rw [cc_166]; decide +kernel
theorem D166_79 : decode (cod 166) 79 = .ok (.aload_n 0, 1) := by rw [cc_166]; decide +kernel
theorem D166_80 : decode (cod 166) 80 = .ok (.ldc_w 312, 3) := by rw [cc_166]; decide +kernel
theorem D166_83 : decode (cod 166) 83 = .ok (.invokevirtual 260, 3) := by rw [cc_166]; decide +kernel
theorem D166_86 : decode (cod 166) 86 = .ok (.ifCond .eq 8, 3) := by rw [cc_166]; decide +kernel
theorem D166_89 : decode (cod 166) 89 = .ok (.bipush 7, 2) := by rw [cc_166]; decide +kernel
theorem D166_91 : decode (cod 166) 91 = .ok (.goto 4, 3) := by rw [cc_166]; decide +kernel
theorem D166_94 : decode (cod 166) 94 = .ok (.iconst 1, 1) := by rw [cc_166]; decide +kernel
theorem D166_95 : decode (cod 166) 95 = .ok (.ireturn, 1) := by rw [cc_166]; decide +kernel
theorem b166_0 {d : Nat} {i0 : Nat} {I L : Nat → Nat → Nat → Int} {t : Nat → Nat} : Res d 166 0 [vr 12 i0] [] (mk I L t) = if ¬ I 12 i0 45 = 0 then Res d 166 12 [vr 12 i0] [] (mk I L t) else Res d 166 7 [vr 12 i0] [] (mk I L t) :=
  Eq.trans (e_aload_n D166_0 rfl rfl) <| Eq.trans (e_getI D166_1 rfl o_166 f_12_298 (sh_12 _) (by decide)) <| e_ifne D166_4 rfl rfl
theorem b166_7 {d : Nat} {i0 : Nat} {I L : Nat → Nat → Nat → Int} {t : Nat → Nat} : Res (d + 1) 166 7 [vr 12 i0] [] (mk I L t) = (Cal d 165 [vr 12 i0] (mk I L t)).bind fun v => Res (d + 1) 166 11 [vr 12 i0] (psh 165 v.1 []) v.2 :=
  Eq.trans (e_aload_n D166_7 rfl rfl) <| e_callV D166_8 rfl o_166 m_12_301 (by decide) rfl rfl
theorem b166_11 {d : Nat} {i0 : Nat} {xs0 : Int} {I L : Nat → Nat → Nat → Int} {t : Nat → Nat} : Res d 166 11 [vr 12 i0] [vi xs0] (mk I L t) = some (vi xs0, (mk I L t)) :=
  e_iret D166_11 rfl
theorem b166_12 {d : Nat} {i0 : Nat} {I L : Nat → Nat → Nat → Int} {t : Nat → Nat} : Res d 166 12 [vr 12 i0] [] (mk I L t) = if ¬ I 12 i0 45 = 1 then Res d 166 36 [vr 12 i0] [] (mk I L t) else Res d 166 20 [vr 12 i0] [] (mk I L t) :=
  Eq.trans (e_aload_n D166_12 rfl rfl) <| Eq.trans (e_getI D166_13 rfl o_166 f_12_298 (sh_12 _) (by decide)) <| Eq.trans (e_iconst (x := 1) D166_16 rfl rfl) <| e_icne D166_17 rfl rfl
theorem b166_20 {d : Nat} {i0 : Nat} {I L : Nat → Nat → Nat → Int} {t : Nat → Nat} : Res (d + 1) 166 20 [vr 12 i0] [] (mk I L t) = (Cal d 164 [vr 12 i0, vr 117 18] (mk I L t)).bind fun v => Res (d + 1) 166 27 [vr 12 i0] (psh 164 v.1 []) v.2 :=
  Eq.trans (e_aload_n D166_20 rfl rfl) <| Eq.trans (e_ldc_wS (n := 18) D166_21 rfl o_166 rfl rfl) <| e_callV D166_24 rfl o_166 m_12_260 (by decide) rfl rfl
theorem b166_27 {d : Nat} {i0 : Nat} {xs0 : Int} {I L : Nat → Nat → Nat → Int} {t : Nat → Nat} : Res d 166 27 [vr 12 i0] [vi xs0] (mk I L t) = if xs0 = 0 then Res d 166 34 [vr 12 i0] [] (mk I L t) else Res d 166 30 [vr 12 i0] [] (mk I L t) :=
  e_ifeq D166_27 rfl rfl
theorem b166_30 {d : Nat} {i0 : Nat} {I L : Nat → Nat → Nat → Int} {t : Nat → Nat} : Res d 166 30 [vr 12 i0] [] (mk I L t) = Res d 166 35 [vr 12 i0] [vi 3] (mk I L t) :=
  Eq.trans (e_iconst (x := 3) D166_30 rfl rfl) <| e_goto (q1 := 35) D166_31 rfl
theorem b166_34 {d : Nat} {i0 : Nat} {I L : Nat → Nat → Nat → Int} {t : Nat → Nat} : Res d 166 34 [vr 12 i0] [] (mk I L t) = Res d 166 35 [vr 12 i0] [vi 1] (mk I L t) :=
  e_iconst (x := 1) D166_34 rfl rfl
theorem b166_35 {d : Nat} {i0 : Nat} {xs0 : Int} {I L : Nat → Nat → Nat → Int} {t : Nat → Nat} : Res d 166 35 [vr 12 i0] [vi xs0] (mk I L t) = some (vi xs0, (mk I L t)) :=
  e_iret D166_35 rfl
theorem b166_36 {d : Nat} {i0 : Nat} {I L : Nat → Nat → Nat → Int} {t : Nat → Nat} : Res (d + 1) 166 36 [vr 12 i0] [] (mk I L t) = (Cal d 164 [vr 12 i0, vr 117 19] (mk I L t)).bind fun v => Res (d + 1) 166 43 [vr 12 i0] (psh 164 v.1 []) v.2 :=
  Eq.trans (e_aload_n D166_36 rfl rfl) <| Eq.trans (e_ldc_wS (n := 19) D166_37 rfl o_166 rfl rfl) <| e_callV D166_40 rfl o_166 m_12_260 (by decide) rfl rfl
theorem b166_43 {d : Nat} {i0 : Nat} {xs0 : Int} {I L : Nat → Nat → Nat → Int} {t : Nat → Nat} : Res d 166 43 [vr 12 i0] [vi xs0] (mk I L t) = if xs0 = 0 then Res d 166 50 [vr 12 i0] [] (mk I L t) else Res d 166 46 [vr 12 i0] [] (mk I L t) :=
  e_ifeq D166_43 rfl rfl
theorem b166_46 {d : Nat} {i0 : Nat} {I L : Nat → Nat → Nat → Int} {t : Nat → Nat} : Res d 166 46 [vr 12 i0] [] (mk I L t) = Res d 166 95 [vr 12 i0] [vi 4] (mk I L t) :=
  Eq.trans (e_iconst (x := 4) D166_46 rfl rfl) <| e_goto (q1 := 95) D166_47 rfl
theorem b166_50 {d : Nat} {i0 : Nat} {I L : Nat → Nat → Nat → Int} {t : Nat → Nat} : Res (d + 1) 166 50 [vr 12 i0] [] (mk I L t) = (Cal d 164 [vr 12 i0, vr 117 20] (mk I L t)).bind fun v => Res (d + 1) 166 57 [vr 12 i0] (psh 164 v.1 []) v.2 :=
  Eq.trans (e_aload_n D166_50 rfl rfl) <| Eq.trans (e_ldc_wS (n := 20) D166_51 rfl o_166 rfl rfl) <| e_callV D166_54 rfl o_166 m_12_260 (by decide) rfl rfl
theorem b166_57 {d : Nat} {i0 : Nat} {xs0 : Int} {I L : Nat → Nat → Nat → Int} {t : Nat → Nat} : Res d 166 57 [vr 12 i0] [vi xs0] (mk I L t) = if xs0 = 0 then Res d 166 64 [vr 12 i0] [] (mk I L t) else Res d 166 60 [vr 12 i0] [] (mk I L t) :=
  e_ifeq D166_57 rfl rfl
theorem b166_60 {d : Nat} {i0 : Nat} {I L : Nat → Nat → Nat → Int} {t : Nat → Nat} : Res d 166 60 [vr 12 i0] [] (mk I L t) = Res d 166 95 [vr 12 i0] [vi 5] (mk I L t) :=
  Eq.trans (e_iconst (x := 5) D166_60 rfl rfl) <| e_goto (q1 := 95) D166_61 rfl
theorem b166_64 {d : Nat} {i0 : Nat} {I L : Nat → Nat → Nat → Int} {t : Nat → Nat} : Res (d + 1) 166 64 [vr 12 i0] [] (mk I L t) = (Cal d 164 [vr 12 i0, vr 117 21] (mk I L t)).bind fun v => Res (d + 1) 166 71 [vr 12 i0] (psh 164 v.1 []) v.2 :=
  Eq.trans (e_aload_n D166_64 rfl rfl) <| Eq.trans (e_ldc_wS (n := 21) D166_65 rfl o_166 rfl rfl) <| e_callV D166_68 rfl o_166 m_12_260 (by decide) rfl rfl
theorem b166_71 {d : Nat} {i0 : Nat} {xs0 : Int} {I L : Nat → Nat → Nat → Int} {t : Nat → Nat} : Res d 166 71 [vr 12 i0] [vi xs0] (mk I L t) = if xs0 = 0 then Res d 166 79 [vr 12 i0] [] (mk I L t) else Res d 166 74 [vr 12 i0] [] (mk I L t) :=
  e_ifeq D166_71 rfl rfl
theorem b166_74 {d : Nat} {i0 : Nat} {I L : Nat → Nat → Nat → Int} {t : Nat → Nat} : Res d 166 74 [vr 12 i0] [] (mk I L t) = Res d 166 95 [vr 12 i0] [vi 6] (mk I L t) :=
  Eq.trans (e_bipush (x := 6) D166_74 rfl rfl) <| e_goto (q1 := 95) D166_76 rfl
theorem b166_79 {d : Nat} {i0 : Nat} {I L : Nat → Nat → Nat → Int} {t : Nat → Nat} : Res (d + 1) 166 79 [vr 12 i0] [] (mk I L t) = (Cal d 164 [vr 12 i0, vr 117 22] (mk I L t)).bind fun v => Res (d + 1) 166 86 [vr 12 i0] (psh 164 v.1 []) v.2 :=
  Eq.trans (e_aload_n D166_79 rfl rfl) <| Eq.trans (e_ldc_wS (n := 22) D166_80 rfl o_166 rfl rfl) <| e_callV D166_83 rfl o_166 m_12_260 (by decide) rfl rfl
theorem b166_86 {d : Nat} {i0 : Nat} {xs0 : Int} {I L : Nat → Nat → Nat → Int} {t : Nat → Nat} : Res d 166 86 [vr 12 i0] [vi xs0] (mk I L t) = if xs0 = 0 then Res d 166 94 [vr 12 i0] [] (mk I L t) else Res d 166 89 [vr 12 i0] [] (mk I L t) :=
  e_ifeq D166_86 rfl rfl
theorem b166_89 {d : Nat} {i0 : Nat} {I L : Nat → Nat → Nat → Int} {t : Nat → Nat} : Res d 166 89 [vr 12 i0] [] (mk I L t) = Res d 166 95 [vr 12 i0] [vi 7] (mk I L t) :=
  Eq.trans (e_bipush (x := 7) D166_89 rfl rfl) <| e_goto (q1 := 95) D166_91 rfl
theorem b166_94 {d : Nat} {i0 : Nat} {I L : Nat → Nat → Nat → Int} {t : Nat → Nat} : Res d 166 94 [vr 12 i0] [] (mk I L t) = Res d 166 95 [vr 12 i0] [vi 1] (mk I L t) :=
  e_iconst (x := 1) D166_94 rfl rfl
theorem b166_95 {d : Nat} {i0 : Nat} {xs0 : Int} {I L : Nat → Nat → Nat → Int} {t : Nat → Nat} : Res d 166 95 [vr 12 i0] [vi xs0] (mk I L t) = some (vi xs0, (mk I L t)) :=
  e_iret D166_95 rfl
/-! m_isSign -/
theorem cc_167 : cod 167 = cX12_isSign := rfl
theorem D167_0 : decode (cod 167) 0 = .ok (.iload_n 1, 1) := by rw [cc_167]; decide +kernel
theorem D167_1 : decode (cod 167) 1 = .ok (.bipush 59, 2) := by rw [cc_167]; decide +kernel
theorem D167_3 : decode (cod 167) 3 = .ok (.if_icmp .ne 5, 3) := by rw [cc_167]; decide +kernel
theorem D167_6 : decode (cod 167) 6 = .ok (.iconst 1, 1) := by rw [cc_167]; decide +kernel
theorem D167_7 : decode (cod 167) 7 = .ok (.ireturn, 1) := by rw [cc_167]; decide +kernel
theorem D167_8 : decode (cod 167) 8 = .ok (.aload_n 0, 1) := by rw [cc_167]; decide +kernel
theorem D167_9 : decode (cod 167) 9 = .ok (.getfield 298, 3) := by rw [cc_167]; decide +kernel
theorem D167_12 : decode (cod 167) 12 = .ok (.ifCond .ne 45, 3) := by rw [cc_167]; decide +kernel
theorem D167_15 : decode (cod 167) 15 = .ok (.iload_n 1, 1) := by rw [cc_167]; decide +kernel
theorem D167_16 : decode (cod 167) 16 = .ok (.bipush 43, 2) := by rw [cc_167]; decide +kernel
theorem D167_18 : decode (cod 167) 18 = .ok (.if_icmp .eq 33, 3) := by rw [cc_167]; decide +kernel
theorem D167_21 : decode (cod 167) 21 = .ok (.iload_n 1, 1) := by rw [cc_167]; decide +kernel
theorem D167_22 : decode (cod 167) 22 = .ok (.bipush 45, 2) := by rw [cc_167]; decide +kernel
theorem D167_24 : decode (cod 167) 24 = .ok (.if_icmp .eq 27, 3) := by rw [cc_167]; decide +kernel
theorem D167_27 : decode (cod 167) 27 = .ok (.iload_n 1, 1) := by rw [cc_167]; decide +kernel
theorem D167_28 : decode (cod 167) 28 = .ok (.bipush 42, 2) := by rw [cc_167]; decide +kernel
theorem D167_30 : decode (cod 167) 30 = .ok (.if_icmp .eq 21, 3) := by rw [cc_167]; decide +kernel
theorem D167_33 : decode (cod 167) 33 = .ok (.iload_n 1, 1) := by rw [cc_167]; decide +kernel
theorem D167_34 : decode (cod 167) 34 = .ok (.bipush 47, 2) := by rw [cc_167]; decide +kernel
theorem D167_36 : decode (cod 167) 36 = .ok (.if_icmp .eq 15, 3) := by rw [cc_167]; decide +kernel
theorem D167_39 : decode (cod 167) 39 = .ok (.iload_n 1, 1) := by rw [cc_167]; decide +kernel
theorem D167_40 : decode (cod 167) 40 = .ok (.bipush 40, 2) := by rw [cc_167]; decide +kernel
theorem D167_42 : decode (cod 167) 42 = .ok (.if_icmp .eq 9, 3) := by rw [cc_167]; decide +kernel
theorem D167_45 : decode (cod 167) 45 = .ok (.iload_n 1, 1) := by rw [cc_167]; decide +kernel
theorem D167_46 : decode (cod 167) 46 = .ok (.bipush 41, 2) := by rw [cc_167]; decide +kernel
theorem D167_48 : decode (cod 167) 48 = .ok (.if_icmp .ne 7, 3) := by rw [cc_167]; decide +kernel
theorem D167_51 : decode (cod 167) 51 = .ok (.iconst 1, 1) := by rw [cc_167]; decide +kernel
theorem D167_52 : decode (cod 167) 52 = .ok (.goto 4, 3) := by rw [cc_167]; decide +kernel
theorem D167_55 : decode (cod 167) 55 = .ok (.iconst 0, 1) := by rw [cc_167]; decide +kernel
theorem D167_56 : decode (cod 167) 56 = .ok (.ireturn, 1) := by rw [cc_167]; decide +kernel
theorem D167_57 : decode (cod 167) 57 = .ok (.aload_n 0, 1) := by rw [cc_167]; decide +kernel
theorem D167_58 : decode (cod 167) 58 = .ok (.getfield 298, 3) := by rw [cc_167]; decide +kernel
theorem D167_61 : decode (cod 167) 61 = .ok (.iconst 1, 1) := by rw [cc_167]; decide +kernel
theorem D167_62 : decode (cod 167) 62 = .ok (.if_icmp .ne 25, 3) := by rw [cc_167]; decide +kernel
theorem D167_65 : decode (cod 167) 65 = .ok (.iload_n 1, 1) := by rw [cc_167]; decide +kernel
theorem D167_66 : decode (cod 167) 66 = .ok (.bipush 60, 2) := by rw [cc_167]; decide +kernel
theorem D167_68 : decode (cod 167) 68 = .ok (.if_icmp .eq 15, 3) := by rw [cc_167]; decide +kernel
theorem D167_71 : decode (cod 167) 71 = .ok (.iload_n 1, 1) := by rw [cc_167]; decide +kernel
theorem D167_72 : decode (cod 167) 72 = .ok (.bipush 61, 2) := by rw [cc_167]; decide +kernel
theorem D167_74 : decode (cod 167) 74 = .ok (.if_icmp .eq 9, 3) := by rw [cc_167]; decide +kernel
theorem D167_77 : decode (cod 167) 77 = .ok (.iload_n 1, 1) := by rw [cc_167]; decide +kernel
theorem D167_78 : decode (cod 167) 78 = .ok (.bipush 62, 2) := by rw [cc_167]; decide +kernel
theorem D167_80 : decode (cod 167) 80 = .ok (.if_icmp .ne 7, 3) := by rw [cc_167]; decide +kernel
theorem D167_83 : decode (cod 167) 83 = .ok (.iconst 1, 1) := by rw [cc_167]; decide +kernel
theorem D167_84 : decode (cod 167) 84 = .ok (.goto 4, 3) := by rw [cc_167]; decide +kernel
theorem D167_87 : decode (cod 167) 87 = .ok (.iconst 0, 1) := by rw [cc_167]; decide +kernel
theorem D167_88 : decode (cod 167) 88 = .ok (.ireturn, 1) := by rw [cc_167]; decide +kernel
theorem b167_0 {d : Nat} {i0 : Nat} {x1 : Int} {I L : Nat → Nat → Nat → Int} {t : Nat → Nat} : Res d 167 0 [vr 12 i0, vi x1] [] (mk I L t) = if ¬ x1 = 59 then Res d 167 8 [vr 12 i0, vi x1] [] (mk I L t) else Res d 167 6 [vr 12 i0, vi x1] [] (mk I L t) :=
  Eq.trans (e_iload_n D167_0 rfl rfl) <| Eq.trans (e_bipush (x := 59) D167_1 rfl rfl) <| e_icne D167_3 rfl rfl
theorem b167_6 {d : Nat} {i0 : Nat} {x1 : Int} {I L : Nat → Nat → Nat → Int} {t : Nat → Nat} : Res d 167 6 [vr 12 i0, vi x1] [] (mk I L t) = some (vi 1, (mk I L t)) :=
  Eq.trans (e_iconst (x := 1) D167_6 rfl rfl) <| e_iret D167_7 rfl
theorem b167_8 {d : Nat} {i0 : Nat} {x1 : Int} {I L : Nat → Nat → Nat → Int} {t : Nat → Nat} : Res d 167 8 [vr 12 i0, vi x1] [] (mk I L t) = if ¬ I 12 i0 45 = 0 then Res d 167 57 [vr 12 i0, vi x1] [] (mk I L t) else Res d 167 15 [vr 12 i0, vi x1] [] (mk I L t) :=
  Eq.trans (e_aload_n D167_8 rfl rfl) <| Eq.trans (e_getI D167_9 rfl o_167 f_12_298 (sh_12 _) (by decide)) <| e_ifne D167_12 rfl rfl
theorem b167_15 {d : Nat} {i0 : Nat} {x1 : Int} {I L : Nat → Nat → Nat → Int} {t : Nat → Nat} : Res d 167 15 [vr 12 i0, vi x1] [] (mk I L t) = if x1 = 43 then Res d 167 51 [vr 12 i0, vi x1] [] (mk I L t) else Res d 167 21 [vr 12 i0, vi x1] [] (mk I L t) :=
  Eq.trans (e_iload_n D167_15 rfl rfl) <| Eq.trans (e_bipush (x := 43) D167_16 rfl rfl) <| e_iceq D167_18 rfl rfl
theorem b167_21 {d : Nat} {i0 : Nat} {x1 : Int} {I L : Nat → Nat → Nat → Int} {t : Nat → Nat} : Res d 167 21 [vr 12 i0, vi x1] [] (mk I L t) = if x1 = 45 then Res d 167 51 [vr 12 i0, vi x1] [] (mk I L t) else Res d 167 27 [vr 12 i0, vi x1] [] (mk I L t) :=
  Eq.trans (e_iload_n D167_21 rfl rfl) <| Eq.trans (e_bipush (x := 45) D167_22 rfl rfl) <| e_iceq D167_24 rfl rfl
theorem b167_27 {d : Nat} {i0 : Nat} {x1 : Int} {I L : Nat → Nat → Nat → Int} {t : Nat → Nat} : Res d 167 27 [vr 12 i0, vi x1] [] (mk I L t) = if x1 = 42 then Res d 167 51 [vr 12 i0, vi x1] [] (mk I L t) else Res d 167 33 [vr 12 i0, vi x1] [] (mk I L t) :=
  Eq.trans (e_iload_n D167_27 rfl rfl) <| Eq.trans (e_bipush (x := 42) D167_28 rfl rfl) <| e_iceq D167_30 rfl rfl
theorem b167_33 {d : Nat} {i0 : Nat} {x1 : Int} {I L : Nat → Nat → Nat → Int} {t : Nat → Nat} : Res d 167 33 [vr 12 i0, vi x1] [] (mk I L t) = if x1 = 47 then Res d 167 51 [vr 12 i0, vi x1] [] (mk I L t) else Res d 167 39 [vr 12 i0, vi x1] [] (mk I L t) :=
  Eq.trans (e_iload_n D167_33 rfl rfl) <| Eq.trans (e_bipush (x := 47) D167_34 rfl rfl) <| e_iceq D167_36 rfl rfl
theorem b167_39 {d : Nat} {i0 : Nat} {x1 : Int} {I L : Nat → Nat → Nat → Int} {t : Nat → Nat} : Res d 167 39 [vr 12 i0, vi x1] [] (mk I L t) = if x1 = 40 then Res d 167 51 [vr 12 i0, vi x1] [] (mk I L t) else Res d 167 45 [vr 12 i0, vi x1] [] (mk I L t) :=
  Eq.trans (e_iload_n D167_39 rfl rfl) <| Eq.trans (e_bipush (x := 40) D167_40 rfl rfl) <| e_iceq D167_42 rfl rfl
theorem b167_45 {d : Nat} {i0 : Nat} {x1 : Int} {I L : Nat → Nat → Nat → Int} {t : Nat → Nat} : Res d 167 45 [vr 12 i0, vi x1] [] (mk I L t) = if ¬ x1 = 41 then Res d 167 55 [vr 12 i0, vi x1] [] (mk I L t) else Res d 167 51 [vr 12 i0, vi x1] [] (mk I L t) :=
  Eq.trans (e_iload_n D167_45 rfl rfl) <| Eq.trans (e_bipush (x := 41) D167_46 rfl rfl) <| e_icne D167_48 rfl rfl
theorem b167_51 {d : Nat} {i0 : Nat} {x1 : Int} {I L : Nat → Nat → Nat → Int} {t : Nat → Nat} : Res d 167 51 [vr 12 i0, vi x1] [] (mk I L t) = Res d 167 56 [vr 12 i0, vi x1] [vi 1] (mk I L t) :=
  Eq.trans (e_iconst (x := 1) D167_51 rfl rfl) <| e_goto (q1 := 56) D167_52 rfl
theorem b167_55 {d : Nat} {i0 : Nat} {x1 : Int} {I L : Nat → Nat → Nat → Int} {t : Nat → Nat} : Res d 167 55 [vr 12 i0, vi x1] [] (mk I L t) = Res d 167 56 [vr 12 i0, vi x1] [vi 0] (mk I L t) :=
  e_iconst (x := 0) D167_55 rfl rfl
theorem b167_56 {d : Nat} {i0 : Nat} {x1 xs0 : Int} {I L : Nat → Nat → Nat → Int} {t : Nat → Nat} (g1 : xs0 = 0 ∨ xs0 = 1) : Res d 167 56 [vr 12 i0, vi x1] [vi xs0] (mk I L t) = some (vi xs0, (mk I L t)) :=
  e_iret D167_56 (nrz rfl g1)
theorem b167_57 {d : Nat} {i0 : Nat} {x1 : Int} {I L : Nat → Nat → Nat → Int} {t : Nat → Nat} : Res d 167 57 [vr 12 i0, vi x1] [] (mk I L t) = if ¬ I 12 i0 45 = 1 then Res d 167 87 [vr 12 i0, vi x1] [] (mk I L t) else Res d 167 65 [vr 12 i0, vi x1] [] (mk I L t) :=
  Eq.trans (e_aload_n D167_57 rfl rfl) <| Eq.trans (e_getI D167_58 rfl o_167 f_12_298 (sh_12 _) (by decide)) <| Eq.trans (e_iconst (x := 1) D167_61 rfl rfl) <| e_icne D167_62 rfl rfl
theorem b167_65 {d : Nat} {i0 : Nat} {x1 : Int} {I L : Nat → Nat → Nat → Int} {t : Nat → Nat} : Res d 167 65 [vr 12 i0, vi x1] [] (mk I L t) = if x1 = 60 then Res d 167 83 [vr 12 i0, vi x1] [] (mk I L t) else Res d 167 71 [vr 12 i0, vi x1] [] (mk I L t) :=
  Eq.trans (e_iload_n D167_65 rfl rfl) <| Eq.trans (e_bipush (x := 60) D167_66 rfl rfl) <| e_iceq D167_68 rfl rfl
theorem b167_71 {d : Nat} {i0 : Nat} {x1 : Int} {I L : Nat → Nat → Nat → Int} {t : Nat → Nat} : Res d 167 71 [vr 12 i0, vi x1] [] (mk I L t) = if x1 = 61 then Res d 167 83 [vr 12 i0, vi x1] [] (mk I L t) else Res d 167 77 [vr 12 i0, vi x1] [] (mk I L t) :=
  Eq.trans (e_iload_n D167_71 rfl rfl) <| Eq.trans (e_bipush (x := 61) D167_72 rfl rfl) <| e_iceq D167_74 rfl rfl
theorem b167_77 {d : Nat} {i0 : Nat} {x1 : Int} {I L : Nat → Nat → Nat → Int} {t : Nat → Nat} : Res d 167 77 [vr 12 i0, vi x1] [] (mk I L t) = if ¬ x1 = 62 then Res d 167 87 [vr 12 i0, vi x1] [] (mk I L t) else Res d 167 83 [vr 12 i0, vi x1] [] (mk I L t) :=
  Eq.trans (e_iload_n D167_77 rfl rfl) <| Eq.trans (e_bipush (x := 62) D167_78 rfl rfl) <| e_icne D167_80 rfl rfl
theorem b167_83 {d : Nat} {i0 : Nat} {x1 : Int} {I L : Nat → Nat → Nat → Int} {t : Nat → Nat} : Res d 167 83 [vr 12 i0, vi x1] [] (mk I L t) = Res d 167 88 [vr 12 i0, vi x1] [vi 1] (mk I L t) :=
  Eq.trans (e_iconst (x := 1) D167_83 rfl rfl) <| e_goto (q1 := 88) D167_84 rfl
theorem b167_87 {d : Nat} {i0 : Nat} {x1 : Int} {I L : Nat → Nat → Nat → Int} {t : Nat → Nat} : Res d 167 87 [vr 12 i0, vi x1] [] (mk I L t) = Res d 167 88 [vr 12 i0, vi x1] [vi 0] (mk I L t) :=
  e_iconst (x := 0) D167_87 rfl rfl
theorem b167_88 {d : Nat} {i0 : Nat} {x1 xs0 : Int} {I L : Nat → Nat → Nat → Int} {t : Nat → Nat} (g1 : xs0 = 0 ∨ xs0 = 1) : Res d 167 88 [vr 12 i0, vi x1] [vi xs0] (mk I L t) = some (vi xs0, (mk I L t)) :=
  e_iret D167_88 (nrz rfl g1)
/-! m_next0 -/
theorem cc_168 : cod 168 = cX12_next0 := rfl
theorem D168_0 : decode (cod 168) 0 = .ok (.aload_n 0, 1) := by rw [cc_168]; decide +kernel
theorem D168_1 : decode (cod 168) 1 = .ok (.aload_n 0, 1) := by rw [cc_168]; decide +kernel
theorem D168_2 : decode (cod 168) 2 = .ok (.getfield 242, 3) := by rw [cc_168]; decide +kernel
theorem D168_5 : decode (cod 168) 5 = .ok (.invokevirtual 314, 3) := by rw [cc_168]; decide +kernel
theorem D168_8 : decode (cod 168) 8 = .ok (.bipush 32, 2) := by rw [cc_168]; decide +kernel
theorem D168_10 : decode (cod 168) 10 = .ok (.if_icmp .eq 16, 3) := by rw [cc_168]; decide +kernel
theorem D168_13 : decode (cod 168) 13 = .ok (.aload_n 0, 1) := by rw [cc_168]; decide +kernel
theorem D168_14 : decode (cod 168) 14 = .ok (.aload_n 0, 1) := by rw [cc_168]; decide +kernel
theorem D168_15 : decode (cod 168) 15 = .ok (.getfield 242, 3) := by rw [cc_168]; decide +kernel
theorem D168_18 : decode (cod 168) 18 = .ok (.invokevirtual 314, 3) := by rw [cc_168]; decide +kernel
theorem D168_21 : decode (cod 168) 21 = .ok (.bipush 10, 2) := by rw [cc_168]; decide +kernel
theorem D168_23 : decode (cod 168) 23 = .ok (.if_icmp .ne 16, 3) := by rw [cc_168]; decide +kernel
theorem D168_26 : decode (cod 168) 26 = .ok (.aload_n 0, 1) := by rw [cc_168]; decide +kernel
theorem D168_27 : decode (cod 168) 27 = .ok (.dup, 1) := by rw [cc_168]; decide +kernel
theorem D168_28 : decode (cod 168) 28 = .ok (.getfield 242, 3) := by rw [cc_168]; decide +kernel
theorem D168_31 : decode (cod 168) 31 = .ok (.iconst 1, 1) := by rw [cc_168]; decide +kernel
theorem D168_32 : decode (cod 168) 32 = .ok (.iadd, 1) := by rw [cc_168]; decide +kernel
theorem D168_33 : decode (cod 168) 33 = .ok (.putfield 242, 3) := by rw [cc_168]; decide +kernel
theorem D168_36 : decode (cod 168) 36 = .ok (.goto (-36), 3) := by rw [cc_168]; decide +kernel
theorem D168_39 : decode (cod 168) 39 = .ok (.aload_n 0, 1) := by rw [cc_168]; decide +kernel
theorem D168_40 : decode (cod 168) 40 = .ok (.aload_n 0, 1) := by rw [cc_168]; decide +kernel
theorem D168_41 : decode (cod 168) 41 = .ok (.getfield 242, 3) := by rw [cc_168]; decide +kernel
theorem D168_44 : decode (cod 168) 44 = .ok (.putfield 245, 3) := by rw [cc_168]; decide +kernel
theorem D168_47 : decode (cod 168) 47 = .ok (.aload_n 0, 1) := by rw [cc_168]; decide +kernel
theorem D168_48 : decode (cod 168) 48 = .ok (.aload_n 0, 1) := by rw [cc_168]; decide +kernel
theorem D168_49 : decode (cod 168) 49 = .ok (.getfield 242, 3) := by rw [cc_168]; decide +kernel
theorem D168_52 : decode (cod 168) 52 = .ok (.invokevirtual 314, 3) := by rw [cc_168]; decide +kernel
theorem D168_55 : decode (cod 168) 55 = .ok (.istore_n 1, 1) := by rw [cc_168]; decide +kernel
theorem D168_56 : decode (cod 168) 56 = .ok (.iload_n 1, 1) := by rw [cc_168]; decide +kernel
theorem D168_57 : decode (cod 168) 57 = .ok (.iconst (-1), 1) := by rw [cc_168]; decide +kernel
theorem D168_58 : decode (cod 168) 58 = .ok (.if_icmp .ne 11, 3) := by rw [cc_168]; decide +kernel
theorem D168_61 : decode (cod 168) 61 = .ok (.aload_n 0, 1) := by rw [cc_168]; decide +kernel
theorem D168_62 : decode (cod 168) 62 = .ok (.iconst 0, 1) := by rw [cc_168]; decide +kernel
theorem D168_63 : decode (cod 168) 63 = .ok (.putfield 318, 3) := by rw [cc_168]; decide +kernel
theorem D168_66 : decode (cod 168) 66 = .ok (.goto 178, 3) := by rw [cc_168]; decide +kernel
theorem D168_69 : decode (cod 168) 69 = .ok (.iload_n 1, 1) := by rw [cc_168]; decide +kernel
theorem D168_70 : decode (cod 168) 70 = .ok (.invokestatic 321, 3) := by rw [cc_168]; decide +kernel
theorem D168_73 : decode (cod 168) 73 = .ok (.ifCond .eq 41, 3) := by rw [cc_168]; decide +kernel
theorem D168_76 : decode (cod 168) 76 = .ok (.aload_n 0, 1) := by rw [cc_168]; decide +kernel
theorem D168_77 : decode (cod 168) 77 = .ok (.aload_n 0, 1) := by rw [cc_168]; decide +kernel
theorem D168_78 : decode (cod 168) 78 = .ok (.getfield 242, 3) := by rw [cc_168]; decide +kernel
theorem D168_81 : decode (cod 168) 81 = .ok (.invokevirtual 314, 3) := by rw [cc_168]; decide +kernel
theorem D168_84 : decode (cod 168) 84 = .ok (.invokestatic 321, 3) := by rw [cc_168]; decide +kernel
theorem D168_87 : decode (cod 168) 87 = .ok (.ifCond .eq 16, 3) := by rw [cc_168]; decide +kernel
theorem D168_90 : decode (cod 168) 90 = .ok (.aload_n 0, 1) := by rw [cc_168]; decide +kernel
theorem D168_91 : decode (cod 168) 91 = .ok (.dup, 1) := by rw [cc_168]; decide +kernel
theorem D168_92 : decode (cod 168) 92 = .ok (.getfield 242, 3) := by rw [cc_168]; decide +kernel
theorem D168_95 : decode (cod 168) 95 = .ok (.iconst 1, 1) := by rw [cc_168]; decide +kernel
theorem D168_96 : decode (cod 168) 96 = .ok (.iadd, 1) := by rw [cc_168]; decide +kernel
theorem D168_97 : decode (cod 168) 97 = .ok (.putfield 242, 3) := by rw [cc_168]; decide +kernel
theorem D168_100 : decode (cod 168) 100 = .ok (.goto (-24), 3) := by rw [cc_168]; decide +kernel
theorem D168_103 : decode (cod 168) 103 = .ok (.aload_n 0, 1) := by rw [cc_168]; decide +kernel
theorem D168_104 : decode (cod 168) 104 = .ok (.aload_n 0, 1) := by rw [cc_168]; decide +kernel
theorem D168_105 : decode (cod 168) 105 = .ok (.invokevirtual 324, 3) := by rw [cc_168]; decide +kernel
theorem D168_108 : decode (cod 168) 108 = .ok (.putfield 318, 3) := by rw [cc_168]; decide +kernel
theorem D168_111 : decode (cod 168) 111 = .ok (.goto 133, 3) := by rw [cc_168]; decide +kernel
theorem D168_114 : decode (cod 168) 114 = .ok (.iload_n 1, 1) := by rw [cc_168]; decide +kernel
theorem D168_115 : decode (cod 168) 115 = .ok (.invokestatic 327, 3) := by rw [cc_168]; decide +kernel
theorem D168_118 : decode (cod 168) 118 = .ok (.ifCond .eq 96, 3) := by rw [cc_168]; decide +kernel
theorem D168_121 : decode (cod 168) 121 = .ok (.aload_n 0, 1) := by rw [cc_168]; decide +kernel
theorem D168_122 : decode (cod 168) 122 = .ok (.iconst 0, 1) := by rw [cc_168]; decide +kernel
theorem D168_123 : decode (cod 168) 123 = .ok (.putfield 330, 3) := by rw [cc_168]; decide +kernel
theorem D168_126 : decode (cod 168) 126 = .ok (.aload_n 0, 1) := by rw [cc_168]; decide +kernel
theorem D168_127 : decode (cod 168) 127 = .ok (.aload_n 0, 1) := by rw [cc_168]; decide +kernel
theorem D168_128 : decode (cod 168) 128 = .ok (.getfield 242, 3) := by rw [cc_168]; decide +kernel
theorem D168_131 : decode (cod 168) 131 = .ok (.invokevirtual 314, 3) := by rw [cc_168]; decide +kernel
theorem D168_134 : decode (cod 168) 134 = .ok (.invokestatic 327, 3) := by rw [cc_168]; decide +kernel
theorem D168_137 : decode (cod 168) 137 = .ok (.ifCond .eq 52, 3) := by rw [cc_168]; decide +kernel
theorem D168_140 : decode (cod 168) 140 = .ok (.aload_n 0, 1) := by rw [cc_168]; decide +kernel
theorem D168_141 : decode (cod 168) 141 = .ok (.getfield 242, 3) := by rw [cc_168]; decide +kernel
theorem D168_144 : decode (cod 168) 144 = .ok (.aload_n 0, 1) := by rw [cc_168]; decide +kernel
theorem D168_145 : decode (cod 168) 145 = .ok (.getfield 245, 3) := by rw [cc_168]; decide +kernel
theorem D168_148 : decode (cod 168) 148 = .ok (.iconst 4, 1) := by rw [cc_168]; decide +kernel
theorem D168_149 : decode (cod 168) 149 = .ok (.iadd, 1) := by rw [cc_168]; decide +kernel
theorem D168_150 : decode (cod 168) 150 = .ok (.if_icmp .ge 26, 3) := by rw [cc_168]; decide +kernel
theorem D168_153 : decode (cod 168) 153 = .ok (.aload_n 0, 1) := by rw [cc_168]; decide +kernel
theorem D168_154 : decode (cod 168) 154 = .ok (.bipush 10, 2) := by rw [cc_168]; decide +kernel
theorem D168_156 : decode (cod 168) 156 = .ok (.aload_n 0, 1) := by rw [cc_168]; decide +kernel
theorem D168_157 : decode (cod 168) 157 = .ok (.getfield 330, 3) := by rw [cc_168]; decide +kernel
theorem D168_160 : decode (cod 168) 160 = .ok (.imul, 1) := by rw [cc_168]; decide +kernel
theorem D168_161 : decode (cod 168) 161 = .ok (.aload_n 0, 1) := by rw [cc_168]; decide +kernel
theorem D168_162 : decode (cod 168) 162 = .ok (.aload_n 0, 1) := by rw [cc_168]; decide +kernel
theorem D168_163 : decode (cod 168) 163 = .ok (.getfield 242, 3) := by rw [cc_168]; decide +kernel
theorem D168_166 : decode (cod 168) 166 = .ok (.invokevirtual 314, 3) := by rw [cc_168]; decide +kernel
theorem D168_169 : decode (cod 168) 169 = .ok (.iadd, 1) := by rw [cc_168]; decide +kernel
theorem D168_170 : decode (cod 168) 170 = .ok (.bipush 48, 2) := by rw [cc_168]; decide +kernel
theorem D168_172 : decode (cod 168) 172 = .ok (.isub, 1) := by rw [cc_168]; decide +kernel
theorem D168_173 : decode (cod 168) 173 = .ok (.putfield 330, 3) := by rw [cc_168]; decide +kernel
theorem D168_176 : decode (cod 168) 176 = .ok (.aload_n 0, 1) := by rw [cc_168]; decide +kernel
theorem D168_177 : decode (cod 168) 177 = .ok (.dup, 1) := by rw [cc_168]; decide +kernel
theorem D168_178 : decode (cod 168) 178 = .ok (.getfield 242, 3) := by rw [cc_168]; decide +kernel
theorem D168_181 : decode (cod 168) 181 = .ok (.iconst 1, 1) := by rw [cc_168]; decide +kernel
theorem D168_182 : decode (cod 168) 182 = .ok (.iadd, 1) := by rw [cc_168]; decide +kernel
theorem D168_183 : decode (cod 168) 183 = .ok (.putfield 242, 3) := by rw [cc_168]; decide +kernel
theorem D168_186 : decode (cod 168) 186 = .ok (.goto (-60), 3) := by rw [cc_168]; decide +kernel
theorem D168_189 : decode (cod 168) 189 = .ok (.aload_n 0, 1) := by rw [cc_168]; decide +kernel
theorem D168_190 : decode (cod 168) 190 = .ok (.aload_n 0, 1) := by rw [cc_168]; decide +kernel
theorem D168_191 : decode (cod 168) 191 = .ok (.getfield 242, 3) := by rw [cc_168]; decide +kernel
theorem D168_194 : decode (cod 168) 194 = .ok (.aload_n 0, 1) := by rw [cc_168]; decide +kernel
theorem D168_195 : decode (cod 168) 195 = .ok (.getfield 245, 3) := by rw [cc_168]; decide +kernel
theorem D168_198 : decode (cod 168) 198 = .ok (.isub, 1) := by rw [cc_168]; decide +kernel
theorem D168_199 : decode (cod 168) 199 = .ok (.iconst 5, 1) := by rw [cc_168]; decide +kernel
theorem D168_200 : decode (cod 168) 200 = .ok (.if_icmp .ge 7, 3) := by rw [cc_168]; decide +kernel
theorem D168_203 : decode (cod 168) 203 = .ok (.iconst 2, 1) := by rw [cc_168]; decide +kernel
theorem D168_204 : decode (cod 168) 204 = .ok (.goto 4, 3) := by rw [cc_168]; decide +kernel
theorem D168_207 : decode (cod 168) 207 = .ok (.iconst 1, 1) := by rw [cc_168]; decide +kernel
theorem D168_208 : decode (cod 168) 208 = .ok (.putfield 318, 3) := by rw [cc_168]; decide +kernel
theorem D168_211 : decode (cod 168) 211 = .ok (.goto 33, 3) := by rw [cc_168]; decide +kernel
theorem D168_214 : decode (cod 168) 214 = .ok (.aload_n 0, 1) := by rw [cc_168]; decide +kernel
theorem D168_215 : decode (cod 168) 215 = .ok (.dup, 1) := by rw [cc_168]; decide +kernel
theorem D168_216 : decode (cod 168) 216 = .ok (.getfield 242, 3) := by rw [cc_168]; decide +kernel
theorem D168_219 : decode (cod 168) 219 = .ok (.iconst 1, 1) := by rw [cc_168]; decide +kernel
theorem D168_220 : decode (cod 168) 220 = .ok (.iadd, 1) := by rw [cc_168]; decide +kernel
theorem D168_221 : decode (cod 168) 221 = .ok (.putfield 242, 3) := by rw [cc_168]; decide +kernel
theorem D168_224 : decode (cod 168) 224 = .ok (.aload_n 0, 1) := by rw [cc_168]; decide +kernel
theorem D168_225 : decode (cod 168) 225 = .ok (.aload_n 0, 1) := by rw [cc_168]; decide +kernel
theorem D168_226 : decode (cod 168) 226 = .ok (.iload_n 1, 1) := by rw [cc_168]; decide +kernel
theorem D168_227 : decode (cod 168) 227 = .ok (.invokevirtual 333, 3) := by rw [cc_168]; decide +kernel
theorem D168_230 : decode (cod 168) 230 = .ok (.ifCond .eq 10, 3) := by rw [cc_168]; decide +kernel
theorem D168_233 : decode (cod 168) 233 = .ok (.bipush 100, 2) := by rw [cc_168]; decide +kernel
theorem D168_235 : decode (cod 168) 235 = .ok (.iload_n 1, 1) := by rw [cc_168]; decide +kernel
theorem D168_236 : decode (cod 168) 236 = .ok (.iadd, 1) := by rw [cc_168]; decide +kernel
theorem D168_237 : decode (cod 168) 237 = .ok (.goto 4, 3) := by rw [cc_168]; decide +kernel
theorem D168_240 : decode (cod 168) 240 = .ok (.iconst 1, 1) := by rw [cc_168]; decide +kernel
theorem D168_241 : decode (cod 168) 241 = .ok (.putfield 318, 3) := by rw [cc_168]; decide +kernel
theorem D168_244 : decode (cod 168) 244 = .ok (.return_, 1) := by rw [cc_168]; decide +kernel
theorem b168_0 {d : Nat} {i0 : Nat} {I L : Nat → Nat → Nat → Int} {t : Nat → Nat} : Res (d + 1) 168 0 [vr 12 i0, vx] [] (mk I L t) = (Cal d 161 [vr 12 i0, vi (I 12 i0 37)] (mk I L t)).bind fun v => Res (d + 1) 168 8 [vr 12 i0, vx] (psh 161 v.1 []) v.2 :=
  Eq.trans (e_aload_n D168_0 rfl rfl) <| Eq.trans (e_aload_n D168_1 rfl rfl) <| Eq.trans (e_getI D168_2 rfl o_168 f_12_242 (sh_12 _) (by decide)) <| e_callV D168_5 rfl o_168 m_12_314 (by decide) rfl rfl
theorem b168_8 {d : Nat} {i0 : Nat} {xs0 : Int} {I L : Nat → Nat → Nat → Int} {t : Nat → Nat} : Res d 168 8 [vr 12 i0, vx] [vi xs0] (mk I L t) = if xs0 = 32 then Res d 168 26 [vr 12 i0, vx] [] (mk I L t) else Res d 168 13 [vr 12 i0, vx] [] (mk I L t) :=
  Eq.trans (e_bipush (x := 32) D168_8 rfl rfl) <| e_iceq D168_10 rfl rfl
theorem b168_13 {d : Nat} {i0 : Nat} {I L : Nat → Nat → Nat → Int} {t : Nat → Nat} : Res (d + 1) 168 13 [vr 12 i0, vx] [] (mk I L t) = (Cal d 161 [vr 12 i0, vi (I 12 i0 37)] (mk I L t)).bind fun v => Res (d + 1) 168 21 [vr 12 i0, vx] (psh 161 v.1 []) v.2 :=
  Eq.trans (e_aload_n D168_13 rfl rfl) <| Eq.trans (e_aload_n D168_14 rfl rfl) <| Eq.trans (e_getI D168_15 rfl o_168 f_12_242 (sh_12 _) (by decide)) <| e_callV D168_18 rfl o_168 m_12_314 (by decide) rfl rfl
theorem b168_21 {d : Nat} {i0 : Nat} {xs0 : Int} {I L : Nat → Nat → Nat → Int} {t : Nat → Nat} : Res d 168 21 [vr 12 i0, vx] [vi xs0] (mk I L t) = if ¬ xs0 = 10 then Res d 168 39 [vr 12 i0, vx] [] (mk I L t) else Res d 168 26 [vr 12 i0, vx] [] (mk I L t) :=
  Eq.trans (e_bipush (x := 10) D168_21 rfl rfl) <| e_icne D168_23 rfl rfl
theorem b168_26 {d : Nat} {i0 : Nat} {I L : Nat → Nat → Nat → Int} {t : Nat → Nat} : Res d 168 26 [vr 12 i0, vx] [] (mk I L t) = Res d 168 0 [vr 12 i0, vx] [] (mk (up3 I 12 i0 37 (w32 ((I 12 i0 37) + 1))) L t) :=
  Eq.trans (e_aload_n D168_26 rfl rfl) <| Eq.trans (e_dup D168_27 rfl) <| Eq.trans (e_getI D168_28 rfl o_168 f_12_242 (sh_12 _) (by decide)) <| Eq.trans (e_iconst (x := 1) D168_31 rfl rfl) <| Eq.trans (e_iadd D168_32 rfl) <| Eq.trans (e_putI D168_33 rfl o_168 f_12_242 (sh_12 _) rfl (by decide) (Or.inl (by decide))) <| e_goto (q1 := 0) D168_36 rfl
theorem b168_39 {d : Nat} {i0 : Nat} {I L : Nat → Nat → Nat → Int} {t : Nat → Nat} : Res (d + 1) 168 39 [vr 12 i0, vx] [] (mk I L t) = (Cal d 161 [vr 12 i0, vi ((up3 I 12 i0 39 (I 12 i0 37)) 12 i0 37)] (mk (up3 I 12 i0 39 (I 12 i0 37)) L t)).bind fun v => Res (d + 1) 168 55 [vr 12 i0, vx] (psh 161 v.1 []) v.2 :=
  Eq.trans (e_aload_n D168_39 rfl rfl) <| Eq.trans (e_aload_n D168_40 rfl rfl) <| Eq.trans (e_getI D168_41 rfl o_168 f_12_242 (sh_12 _) (by decide)) <| Eq.trans (e_putI D168_44 rfl o_168 f_12_245 (sh_12 _) rfl (by decide) (Or.inl (by decide))) <| Eq.trans (e_aload_n D168_47 rfl rfl) <| Eq.trans (e_aload_n D168_48 rfl rfl) <| Eq.trans (e_getI D168_49 rfl o_168 f_12_242 (sh_12 _) (by decide)) <| e_callV D168_52 rfl o_168 m_12_314 (by decide) rfl rfl
theorem b168_55 {d : Nat} {i0 : Nat} {xs0 : Int} {I L : Nat → Nat → Nat → Int} {t : Nat → Nat} : Res d 168 55 [vr 12 i0, vx] [vi xs0] (mk I L t) = if ¬ xs0 = -1 then Res d 168 69 [vr 12 i0, vi xs0] [] (mk I L t) else Res d 168 61 [vr 12 i0, vi xs0] [] (mk I L t) :=
  Eq.trans (e_istore_n (ls1 := [vr 12 i0, vi xs0]) D168_55 rfl (show 1 < 2 by decide) rfl) <| Eq.trans (e_iload_n D168_56 rfl rfl) <| Eq.trans (e_iconst (x := -1) D168_57 rfl rfl) <| e_icne D168_58 rfl rfl
theorem b168_61 {d : Nat} {i0 : Nat} {x1 : Int} {I L : Nat → Nat → Nat → Int} {t : Nat → Nat} : Res d 168 61 [vr 12 i0, vi x1] [] (mk I L t) = Res d 168 244 [vr 12 i0, vi x1] [] (mk (up3 I 12 i0 38 0) L t) :=
  Eq.trans (e_aload_n D168_61 rfl rfl) <| Eq.trans (e_iconst (x := 0) D168_62 rfl rfl) <| Eq.trans (e_putI D168_63 rfl o_168 f_12_318 (sh_12 _) rfl (by decide) (Or.inl (by decide))) <| e_goto (q1 := 244) D168_66 rfl
theorem b168_69 {d : Nat} {i0 : Nat} {x1 : Int} {I L : Nat → Nat → Nat → Int} {t : Nat → Nat} : Res (d + 1) 168 69 [vr 12 i0, vi x1] [] (mk I L t) = (Cal d 162 [vi x1] (mk I L t)).bind fun v => Res (d + 1) 168 73 [vr 12 i0, vi x1] (psh 162 v.1 []) v.2 :=
  Eq.trans (e_iload_n D168_69 rfl rfl) <| e_callS D168_70 rfl o_168 m_12_321 (by decide) rfl rfl
theorem b168_73 {d : Nat} {i0 : Nat} {x1 xs0 : Int} {I L : Nat → Nat → Nat → Int} {t : Nat → Nat} : Res d 168 73 [vr 12 i0, vi x1] [vi xs0] (mk I L t) = if xs0 = 0 then Res d 168 114 [vr 12 i0, vi x1] [] (mk I L t) else Res d 168 76 [vr 12 i0, vi x1] [] (mk I L t) :=
  e_ifeq D168_73 rfl rfl
theorem b168_76 {d : Nat} {i0 : Nat} {x1 : Int} {I L : Nat → Nat → Nat → Int} {t : Nat → Nat} : Res (d + 1) 168 76 [vr 12 i0, vi x1] [] (mk I L t) = (Cal d 161 [vr 12 i0, vi (I 12 i0 37)] (mk I L t)).bind fun v => Res (d + 1) 168 84 [vr 12 i0, vi x1] (psh 161 v.1 []) v.2 :=
  Eq.trans (e_aload_n D168_76 rfl rfl) <| Eq.trans (e_aload_n D168_77 rfl rfl) <| Eq.trans (e_getI D168_78 rfl o_168 f_12_242 (sh_12 _) (by decide)) <| e_callV D168_81 rfl o_168 m_12_314 (by decide) rfl rfl
theorem b168_84 {d : Nat} {i0 : Nat} {x1 xs0 : Int} {I L : Nat → Nat → Nat → Int} {t : Nat → Nat} : Res (d + 1) 168 84 [vr 12 i0, vi x1] [vi xs0] (mk I L t) = (Cal d 162 [vi xs0] (mk I L t)).bind fun v => Res (d + 1) 168 87 [vr 12 i0, vi x1] (psh 162 v.1 []) v.2 :=
  e_callS D168_84 rfl o_168 m_12_321 (by decide) rfl rfl
theorem b168_87 {d : Nat} {i0 : Nat} {x1 xs0 : Int} {I L : Nat → Nat → Nat → Int} {t : Nat → Nat} : Res d 168 87 [vr 12 i0, vi x1] [vi xs0] (mk I L t) = if xs0 = 0 then Res d 168 103 [vr 12 i0, vi x1] [] (mk I L t) else Res d 168 90 [vr 12 i0, vi x1] [] (mk I L t) :=
  e_ifeq D168_87 rfl rfl
theorem b168_90 {d : Nat} {i0 : Nat} {x1 : Int} {I L : Nat → Nat → Nat → Int} {t : Nat → Nat} : Res d 168 90 [vr 12 i0, vi x1] [] (mk I L t) = Res d 168 76 [vr 12 i0, vi x1] [] (mk (up3 I 12 i0 37 (w32 ((I 12 i0 37) + 1))) L t) :=
  Eq.trans (e_aload_n D168_90 rfl rfl) <| Eq.trans (e_dup D168_91 rfl) <| Eq.trans (e_getI D168_92 rfl o_168 f_12_242 (sh_12 _) (by decide)) <| Eq.trans (e_iconst (x := 1) D168_95 rfl rfl) <| Eq.trans (e_iadd D168_96 rfl) <| Eq.trans (e_putI D168_97 rfl o_168 f_12_242 (sh_12 _) rfl (by decide) (Or.inl (by decide))) <| e_goto (q1 := 76) D168_100 rfl
theorem b168_103 {d : Nat} {i0 : Nat} {x1 : Int} {I L : Nat → Nat → Nat → Int} {t : Nat → Nat} : Res (d + 1) 168 103 [vr 12 i0, vi x1] [] (mk I L t) = (Cal d 166 [vr 12 i0] (mk I L t)).bind fun v => Res (d + 1) 168 108 [vr 12 i0, vi x1] (psh 166 v.1 [vr 12 i0]) v.2 :=
  Eq.trans (e_aload_n D168_103 rfl rfl) <| Eq.trans (e_aload_n D168_104 rfl rfl) <| e_callV D168_105 rfl o_168 m_12_324 (by decide) rfl rfl
theorem b168_108 {d : Nat} {i0 is0 : Nat} {x1 xs1 : Int} {I L : Nat → Nat → Nat → Int} {t : Nat → Nat} : Res d 168 108 [vr 12 i0, vi x1] [vi xs1, vr 12 is0] (mk I L t) = Res d 168 244 [vr 12 i0, vi x1] [] (mk (up3 I 12 is0 38 xs1) L t) :=
  Eq.trans (e_putI D168_108 rfl o_168 f_12_318 (sh_12 _) rfl (by decide) (Or.inl (by decide))) <| e_goto (q1 := 244) D168_111 rfl
theorem b168_114 {d : Nat} {i0 : Nat} {x1 : Int} {I L : Nat → Nat → Nat → Int} {t : Nat → Nat} : Res (d + 1) 168 114 [vr 12 i0, vi x1] [] (mk I L t) = (Cal d 163 [vi x1] (mk I L t)).bind fun v => Res (d + 1) 168 118 [vr 12 i0, vi x1] (psh 163 v.1 []) v.2 :=
  Eq.trans (e_iload_n D168_114 rfl rfl) <| e_callS D168_115 rfl o_168 m_12_327 (by decide) rfl rfl
theorem b168_118 {d : Nat} {i0 : Nat} {x1 xs0 : Int} {I L : Nat → Nat → Nat → Int} {t : Nat → Nat} : Res d 168 118 [vr 12 i0, vi x1] [vi xs0] (mk I L t) = if xs0 = 0 then Res d 168 214 [vr 12 i0, vi x1] [] (mk I L t) else Res d 168 121 [vr 12 i0, vi x1] [] (mk I L t) :=
  e_ifeq D168_118 rfl rfl
theorem b168_121 {d : Nat} {i0 : Nat} {x1 : Int} {I L : Nat → Nat → Nat → Int} {t : Nat → Nat} : Res d 168 121 [vr 12 i0, vi x1] [] (mk I L t) = Res d 168 126 [vr 12 i0, vi x1] [] (mk (up3 I 12 i0 40 0) L t) :=
  Eq.trans (e_aload_n D168_121 rfl rfl) <| Eq.trans (e_iconst (x := 0) D168_122 rfl rfl) <| e_putI D168_123 rfl o_168 f_12_330 (sh_12 _) rfl (by decide) (Or.inl (by decide))
theorem b168_126 {d : Nat} {i0 : Nat} {x1 : Int} {I L : Nat → Nat → Nat → Int} {t : Nat → Nat} : Res (d + 1) 168 126 [vr 12 i0, vi x1] [] (mk I L t) = (Cal d 161 [vr 12 i0, vi (I 12 i0 37)] (mk I L t)).bind fun v => Res (d + 1) 168 134 [vr 12 i0, vi x1] (psh 161 v.1 []) v.2 :=
  Eq.trans (e_aload_n D168_126 rfl rfl) <| Eq.trans (e_aload_n D168_127 rfl rfl) <| Eq.trans (e_getI D168_128 rfl o_168 f_12_242 (sh_12 _) (by decide)) <| e_callV D168_131 rfl o_168 m_12_314 (by decide) rfl rfl
theorem b168_134 {d : Nat} {i0 : Nat} {x1 xs0 : Int} {I L : Nat → Nat → Nat → Int} {t : Nat → Nat} : Res (d + 1) 168 134 [vr 12 i0, vi x1] [vi xs0] (mk I L t) = (Cal d 163 [vi xs0] (mk I L t)).bind fun v => Res (d + 1) 168 137 [vr 12 i0, vi x1] (psh 163 v.1 []) v.2 :=
  e_callS D168_134 rfl o_168 m_12_327 (by decide) rfl rfl
theorem b168_137 {d : Nat} {i0 : Nat} {x1 xs0 : Int} {I L : Nat → Nat → Nat → Int} {t : Nat → Nat} : Res d 168 137 [vr 12 i0, vi x1] [vi xs0] (mk I L t) = if xs0 = 0 then Res d 168 189 [vr 12 i0, vi x1] [] (mk I L t) else Res d 168 140 [vr 12 i0, vi x1] [] (mk I L t) :=
  e_ifeq D168_137 rfl rfl
theorem b168_140 {d : Nat} {i0 : Nat} {x1 : Int} {I L : Nat → Nat → Nat → Int} {t : Nat → Nat} : Res d 168 140 [vr 12 i0, vi x1] [] (mk I L t) = if w32 ((I 12 i0 39) + 4) ≤ I 12 i0 37 then Res d 168 176 [vr 12 i0, vi x1] [] (mk I L t) else Res d 168 153 [vr 12 i0, vi x1] [] (mk I L t) :=
  Eq.trans (e_aload_n D168_140 rfl rfl) <| Eq.trans (e_getI D168_141 rfl o_168 f_12_242 (sh_12 _) (by decide)) <| Eq.trans (e_aload_n D168_144 rfl rfl) <| Eq.trans (e_getI D168_145 rfl o_168 f_12_245 (sh_12 _) (by decide)) <| Eq.trans (e_iconst (x := 4) D168_148 rfl rfl) <| Eq.trans (e_iadd D168_149 rfl) <| e_icge D168_150 rfl rfl
theorem b168_153 {d : Nat} {i0 : Nat} {x1 : Int} {I L : Nat → Nat → Nat → Int} {t : Nat → Nat} : Res (d + 1) 168 153 [vr 12 i0, vi x1] [] (mk I L t) = (Cal d 161 [vr 12 i0, vi (I 12 i0 37)] (mk I L t)).bind fun v => Res (d + 1) 168 169 [vr 12 i0, vi x1] (psh 161 v.1 [vi (w32 (10 * (I 12 i0 40))), vr 12 i0]) v.2 :=
  Eq.trans (e_aload_n D168_153 rfl rfl) <| Eq.trans (e_bipush (x := 10) D168_154 rfl rfl) <| Eq.trans (e_aload_n D168_156 rfl rfl) <| Eq.trans (e_getI D168_157 rfl o_168 f_12_330 (sh_12 _) (by decide)) <| Eq.trans (e_imul D168_160 rfl) <| Eq.trans (e_aload_n D168_161 rfl rfl) <| Eq.trans (e_aload_n D168_162 rfl rfl) <| Eq.trans (e_getI D168_163 rfl o_168 f_12_242 (sh_12 _) (by decide)) <| e_callV D168_166 rfl o_168 m_12_314 (by decide) rfl rfl
theorem b168_169 {d : Nat} {i0 is0 : Nat} {x1 xs2 xs1 : Int} {I L : Nat → Nat → Nat → Int} {t : Nat → Nat} : Res d 168 169 [vr 12 i0, vi x1] [vi xs2, vi xs1, vr 12 is0] (mk I L t) = Res d 168 176 [vr 12 i0, vi x1] [] (mk (up3 I 12 is0 40 (w32 ((w32 (xs1 + xs2)) - 48))) L t) :=
  Eq.trans (e_iadd D168_169 rfl) <| Eq.trans (e_bipush (x := 48) D168_170 rfl rfl) <| Eq.trans (e_isub D168_172 rfl) <| e_putI D168_173 rfl o_168 f_12_330 (sh_12 _) rfl (by decide) (Or.inl (by decide))
theorem b168_176 {d : Nat} {i0 : Nat} {x1 : Int} {I L : Nat → Nat → Nat → Int} {t : Nat → Nat} : Res d 168 176 [vr 12 i0, vi x1] [] (mk I L t) = Res d 168 126 [vr 12 i0, vi x1] [] (mk (up3 I 12 i0 37 (w32 ((I 12 i0 37) + 1))) L t) :=
  Eq.trans (e_aload_n D168_176 rfl rfl) <| Eq.trans (e_dup D168_177 rfl) <| Eq.trans (e_getI D168_178 rfl o_168 f_12_242 (sh_12 _) (by decide)) <| Eq.trans (e_iconst (x := 1) D168_181 rfl rfl) <| Eq.trans (e_iadd D168_182 rfl) <| Eq.trans (e_putI D168_183 rfl o_168 f_12_242 (sh_12 _) rfl (by decide) (Or.inl (by decide))) <| e_goto (q1 := 126) D168_186 rfl
theorem b168_189 {d : Nat} {i0 : Nat} {x1 : Int} {I L : Nat → Nat → Nat → Int} {t : Nat → Nat} : Res d 168 189 [vr 12 i0, vi x1] [] (mk I L t) = if 5 ≤ w32 ((I 12 i0 37) - (I 12 i0 39)) then Res d 168 207 [vr 12 i0, vi x1] [vr 12 i0] (mk I L t) else Res d 168 203 [vr 12 i0, vi x1] [vr 12 i0] (mk I L t) :=
  Eq.trans (e_aload_n D168_189 rfl rfl) <| Eq.trans (e_aload_n D168_190 rfl rfl) <| Eq.trans (e_getI D168_191 rfl o_168 f_12_242 (sh_12 _) (by decide)) <| Eq.trans (e_aload_n D168_194 rfl rfl) <| Eq.trans (e_getI D168_195 rfl o_168 f_12_245 (sh_12 _) (by decide)) <| Eq.trans (e_isub D168_198 rfl) <| Eq.trans (e_iconst (x := 5) D168_199 rfl rfl) <| e_icge D168_200 rfl rfl
theorem b168_203 {d : Nat} {i0 is0 : Nat} {x1 : Int} {I L : Nat → Nat → Nat → Int} {t : Nat → Nat} : Res d 168 203 [vr 12 i0, vi x1] [vr 12 is0] (mk I L t) = Res d 168 208 [vr 12 i0, vi x1] [vi 2, vr 12 is0] (mk I L t) :=
  Eq.trans (e_iconst (x := 2) D168_203 rfl rfl) <| e_goto (q1 := 208) D168_204 rfl
theorem b168_207 {d : Nat} {i0 is0 : Nat} {x1 : Int} {I L : Nat → Nat → Nat → Int} {t : Nat → Nat} : Res d 168 207 [vr 12 i0, vi x1] [vr 12 is0] (mk I L t) = Res d 168 208 [vr 12 i0, vi x1] [vi 1, vr 12 is0] (mk I L t) :=
  e_iconst (x := 1) D168_207 rfl rfl
theorem b168_208 {d : Nat} {i0 is0 : Nat} {x1 xs1 : Int} {I L : Nat → Nat → Nat → Int} {t : Nat → Nat} : Res d 168 208 [vr 12 i0, vi x1] [vi xs1, vr 12 is0] (mk I L t) = Res d 168 244 [vr 12 i0, vi x1] [] (mk (up3 I 12 is0 38 xs1) L t) :=
  Eq.trans (e_putI D168_208 rfl o_168 f_12_318 (sh_12 _) rfl (by decide) (Or.inl (by decide))) <| e_goto (q1 := 244) D168_211 rfl
theorem b168_214 {d : Nat} {i0 : Nat} {x1 : Int} {I L : Nat → Nat → Nat → Int} {t : Nat → Nat} : Res (d + 1) 168 214 [vr 12 i0, vi x1] [] (mk I L t) = (Cal d 167 [vr 12 i0, vi x1] (mk (up3 I 12 i0 37 (w32 ((I 12 i0 37) + 1))) L t)).bind fun v => Res (d + 1) 168 230 [vr 12 i0, vi x1] (psh 167 v.1 [vr 12 i0]) v.2 :=
  Eq.trans (e_aload_n D168_214 rfl rfl) <| Eq.trans (e_dup D168_215 rfl) <| Eq.trans (e_getI D168_216 rfl o_168 f_12_242 (sh_12 _) (by decide)) <| Eq.trans (e_iconst (x := 1) D168_219 rfl rfl) <| Eq.trans (e_iadd D168_220 rfl) <| Eq.trans (e_putI D168_221 rfl o_168 f_12_242 (sh_12 _) rfl (by decide) (Or.inl (by decide))) <| Eq.trans (e_aload_n D168_224 rfl rfl) <| Eq.trans (e_aload_n D168_225 rfl rfl) <| Eq.trans (e_iload_n D168_226 rfl rfl) <| e_callV D168_227 rfl o_168 m_12_333 (by decide) rfl rfl
theorem b168_230 {d : Nat} {i0 is0 : Nat} {x1 xs1 : Int} {I L : Nat → Nat → Nat → Int} {t : Nat → Nat} : Res d 168 230 [vr 12 i0, vi x1] [vi xs1, vr 12 is0] (mk I L t) = if xs1 = 0 then Res d 168 240 [vr 12 i0, vi x1] [vr 12 is0] (mk I L t) else Res d 168 233 [vr 12 i0, vi x1] [vr 12 is0] (mk I L t) :=
  e_ifeq D168_230 rfl rfl
theorem b168_233 {d : Nat} {i0 is0 : Nat} {x1 : Int} {I L : Nat → Nat → Nat → Int} {t : Nat → Nat} : Res d 168 233 [vr 12 i0, vi x1] [vr 12 is0] (mk I L t) = Res d 168 241 [vr 12 i0, vi x1] [vi (w32 (100 + x1)), vr 12 is0] (mk I L t) :=
  Eq.trans (e_bipush (x := 100) D168_233 rfl rfl) <| Eq.trans (e_iload_n D168_235 rfl rfl) <| Eq.trans (e_iadd D168_236 rfl) <| e_goto (q1 := 241) D168_237 rfl
theorem b168_240 {d : Nat} {i0 is0 : Nat} {x1 : Int} {I L : Nat → Nat → Nat → Int} {t : Nat → Nat} : Res d 168 240 [vr 12 i0, vi x1] [vr 12 is0] (mk I L t) = Res d 168 241 [vr 12 i0, vi x1] [vi 1, vr 12 is0] (mk I L t) :=
  e_iconst (x := 1) D168_240 rfl rfl
theorem b168_241 {d : Nat} {i0 is0 : Nat} {x1 xs1 : Int} {I L : Nat → Nat → Nat → Int} {t : Nat → Nat} : Res d 168 241 [vr 12 i0, vi x1] [vi xs1, vr 12 is0] (mk I L t) = Res d 168 244 [vr 12 i0, vi x1] [] (mk (up3 I 12 is0 38 xs1) L t) :=
  e_putI D168_241 rfl o_168 f_12_318 (sh_12 _) rfl (by decide) (Or.inl (by decide))
theorem b168_244 {d : Nat} {i0 : Nat} {x1 : Int} {I L : Nat → Nat → Nat → Int} {t : Nat → Nat} : Res d 168 244 [vr 12 i0, vi x1] [] (mk I L t) = some (vx, (mk I L t)) :=
  e_vret D168_244 rfl
