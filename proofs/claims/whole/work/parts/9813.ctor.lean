/-! the constructors, piece by piece (printed by wip/whole/genctor.py) -/
theorem ta_38 {j : Nat} (h : j < 4) : PP t0 38 0 j = some (2, j) := by
  rw [pa_38 _ h]
  have : t0 j = j := if_pos (by omega)
  rw [this]
theorem ta_39 {j : Nat} (h : j < 4) : PP t0 39 0 j = some (9, j) := by
  rw [pa_39 _ h]
  have : t0 (5 + j) = j := by
    unfold t0
    rw [if_neg (by omega), if_pos (by omega)]
    omega
  rw [this]
/-! Face_init -/
theorem cc_8 : cod 8 = cX1_init := rfl
theorem D8_0 : decode (cod 8) 0 = .ok (.aload_n 0, 1) := by rw [cc_8]; decide +kernel
theorem D8_1 : decode (cod 8) 1 = .ok (.invokespecial 3, 3) := by rw [cc_8]; decide +kernel
theorem D8_4 : decode (cod 8) 4 = .ok (.aload_n 0, 1) := by rw [cc_8]; decide +kernel
theorem D8_5 : decode (cod 8) 5 = .ok (.bipush 16, 2) := by rw [cc_8]; decide +kernel
theorem D8_7 : decode (cod 8) 7 = .ok (.newarray .int, 2) := by rw [cc_8]; decide +kernel
theorem D8_9 : decode (cod 8) 9 = .ok (.putfield 9, 3) := by rw [cc_8]; decide +kernel
theorem D8_12 : decode (cod 8) 12 = .ok (.aload_n 0, 1) := by rw [cc_8]; decide +kernel
theorem D8_13 : decode (cod 8) 13 = .ok (.iconst (-1), 1) := by rw [cc_8]; decide +kernel
theorem D8_14 : decode (cod 8) 14 = .ok (.putfield 15, 3) := by rw [cc_8]; decide +kernel
theorem D8_17 : decode (cod 8) 17 = .ok (.return_, 1) := by rw [cc_8]; decide +kernel
theorem N8_0 {d i k : Nat} {I L : H3} {W : WT}  (n0 : nm k = (22, i)) : Cal (d + 1) 8 [vr 1 i] (cn I L W k) = some (vx, (cn (up3 I 1 i 2 ((-1))) L (ws W 1 i 0) (k + 1))) :=
  show Res (d + 1) 8 0 [vr 1 i] [] (cn I L W k) = _ from Eq.trans (e_aload_n D8_0 rfl rfl) <| Eq.trans (c_obj (ne := 0) (w := 267) D8_1 rfl rfl rfl rfl (by simp [cw])) <| Eq.trans (e_aload_n D8_4 rfl rfl) <| Eq.trans (e_bipush (x := 16) D8_5 rfl rfl) <| Eq.trans (c_narr (n := 16) (e := 0) (k' := k + 1) D8_7 rfl rfl (by decide) (by decide) rfl n0 rfl rfl) <| Eq.trans (c_putP (ne := 0) (w := 268) D8_9 rfl rfl rfl (sh_1 _) rfl ⟨rfl, rfl, rfl⟩ (by decide) rfl) <| Eq.trans (e_aload_n D8_12 rfl rfl) <| Eq.trans (e_iconst (x := -1) D8_13 rfl rfl) <| Eq.trans (c_putI (ne := 0) (w := 273) D8_14 rfl rfl rfl (sh_1 _) rfl ⟨rfl, rfl, rfl⟩ (by decide)) <| e_vret D8_17 rfl
/-! Head_init -/
theorem cc_12 : cod 12 = cX2_init := rfl
theorem D12_0 : decode (cod 12) 0 = .ok (.aload_n 0, 1) := by rw [cc_12]; decide +kernel
theorem D12_1 : decode (cod 12) 1 = .ok (.invokespecial 3, 3) := by rw [cc_12]; decide +kernel
theorem D12_4 : decode (cod 12) 4 = .ok (.aload_n 0, 1) := by rw [cc_12]; decide +kernel
theorem D12_5 : decode (cod 12) 5 = .ok (.sipush 400, 3) := by rw [cc_12]; decide +kernel
theorem D12_8 : decode (cod 12) 8 = .ok (.newarray .int, 2) := by rw [cc_12]; decide +kernel
theorem D12_10 : decode (cod 12) 10 = .ok (.putfield 9, 3) := by rw [cc_12]; decide +kernel
theorem D12_13 : decode (cod 12) 13 = .ok (.aload_n 0, 1) := by rw [cc_12]; decide +kernel
theorem D12_14 : decode (cod 12) 14 = .ok (.sipush 400, 3) := by rw [cc_12]; decide +kernel
theorem D12_17 : decode (cod 12) 17 = .ok (.newarray .int, 2) := by rw [cc_12]; decide +kernel
theorem D12_19 : decode (cod 12) 19 = .ok (.putfield 15, 3) := by rw [cc_12]; decide +kernel
theorem D12_22 : decode (cod 12) 22 = .ok (.aload_n 0, 1) := by rw [cc_12]; decide +kernel
theorem D12_23 : decode (cod 12) 23 = .ok (.bipush 8, 2) := by rw [cc_12]; decide +kernel
theorem D12_25 : decode (cod 12) 25 = .ok (.newarray .int, 2) := by rw [cc_12]; decide +kernel
theorem D12_27 : decode (cod 12) 27 = .ok (.putfield 18, 3) := by rw [cc_12]; decide +kernel
theorem D12_30 : decode (cod 12) 30 = .ok (.aload_n 0, 1) := by rw [cc_12]; decide +kernel
theorem D12_31 : decode (cod 12) 31 = .ok (.bipush 8, 2) := by rw [cc_12]; decide +kernel
theorem D12_33 : decode (cod 12) 33 = .ok (.newarray .int, 2) := by rw [cc_12]; decide +kernel
theorem D12_35 : decode (cod 12) 35 = .ok (.putfield 21, 3) := by rw [cc_12]; decide +kernel
theorem D12_38 : decode (cod 12) 38 = .ok (.aload_n 0, 1) := by rw [cc_12]; decide +kernel
theorem D12_39 : decode (cod 12) 39 = .ok (.bipush 24, 2) := by rw [cc_12]; decide +kernel
theorem D12_41 : decode (cod 12) 41 = .ok (.newarray .int, 2) := by rw [cc_12]; decide +kernel
theorem D12_43 : decode (cod 12) 43 = .ok (.putfield 24, 3) := by rw [cc_12]; decide +kernel
theorem D12_46 : decode (cod 12) 46 = .ok (.return_, 1) := by rw [cc_12]; decide +kernel
theorem N12_0 {d i k : Nat} {I L : H3} {W : WT}  (n0 : nm k = (23, i)) (n1 : nm (k + 1) = (24, i)) (n2 : nm (k + 2) = (25, i)) (n3 : nm (k + 3) = (26, i)) (n4 : nm (k + 4) = (27, i)) : Cal (d + 1) 12 [vr 2 i] (cn I L W k) = some (vx, (cn I L (ws (ws (ws (ws (ws W 2 i 0) 2 i 1) 2 i 2) 2 i 3) 2 i 4) (k + 5))) :=
  show Res (d + 1) 12 0 [vr 2 i] [] (cn I L W k) = _ from Eq.trans (e_aload_n D12_0 rfl rfl) <| Eq.trans (c_obj (ne := 0) (w := 124) D12_1 rfl rfl rfl rfl (by simp [cw])) <| Eq.trans (e_aload_n D12_4 rfl rfl) <| Eq.trans (e_sipush (x := 400) D12_5 rfl rfl) <| Eq.trans (c_narr (n := 400) (e := 0) (k' := k + 1) D12_8 rfl rfl (by decide) (by decide) rfl n0 rfl rfl) <| Eq.trans (c_putP (ne := 0) (w := 125) D12_10 rfl rfl rfl (sh_2 _) rfl ⟨rfl, rfl, rfl⟩ (by decide) rfl) <| Eq.trans (e_aload_n D12_13 rfl rfl) <| Eq.trans (e_sipush (x := 400) D12_14 rfl rfl) <| Eq.trans (c_narr (n := 400) (e := 0) (k' := k + 2) D12_17 rfl rfl (by decide) (by decide) rfl n1 rfl rfl) <| Eq.trans (c_putP (ne := 0) (w := 126) D12_19 rfl rfl rfl (sh_2 _) rfl ⟨rfl, rfl, rfl⟩ (by decide) rfl) <| Eq.trans (e_aload_n D12_22 rfl rfl) <| Eq.trans (e_bipush (x := 8) D12_23 rfl rfl) <| Eq.trans (c_narr (n := 8) (e := 0) (k' := k + 3) D12_25 rfl rfl (by decide) (by decide) rfl n2 rfl rfl) <| Eq.trans (c_putP (ne := 0) (w := 127) D12_27 rfl rfl rfl (sh_2 _) rfl ⟨rfl, rfl, rfl⟩ (by decide) rfl) <| Eq.trans (e_aload_n D12_30 rfl rfl) <| Eq.trans (e_bipush (x := 8) D12_31 rfl rfl) <| Eq.trans (c_narr (n := 8) (e := 0) (k' := k + 4) D12_33 rfl rfl (by decide) (by decide) rfl n3 rfl rfl) <| Eq.trans (c_putP (ne := 0) (w := 128) D12_35 rfl rfl rfl (sh_2 _) rfl ⟨rfl, rfl, rfl⟩ (by decide) rfl) <| Eq.trans (e_aload_n D12_38 rfl rfl) <| Eq.trans (e_bipush (x := 24) D12_39 rfl rfl) <| Eq.trans (c_narr (n := 24) (e := 0) (k' := k + 5) D12_41 rfl rfl (by decide) (by decide) rfl n4 rfl rfl) <| Eq.trans (c_putP (ne := 0) (w := 129) D12_43 rfl rfl rfl (sh_2 _) rfl ⟨rfl, rfl, rfl⟩ (by decide) rfl) <| e_vret D12_46 rfl
/-! Mind_init -/
theorem cc_20 : cod 20 = cX3_init := rfl
theorem D20_0 : decode (cod 20) 0 = .ok (.aload_n 0, 1) := by rw [cc_20]; decide +kernel
theorem D20_1 : decode (cod 20) 1 = .ok (.invokespecial 3, 3) := by rw [cc_20]; decide +kernel
theorem D20_4 : decode (cod 20) 4 = .ok (.aload_n 0, 1) := by rw [cc_20]; decide +kernel
theorem D20_5 : decode (cod 20) 5 = .ok (.bipush 16, 2) := by rw [cc_20]; decide +kernel
theorem D20_7 : decode (cod 20) 7 = .ok (.newarray .int, 2) := by rw [cc_20]; decide +kernel
theorem D20_9 : decode (cod 20) 9 = .ok (.putfield 9, 3) := by rw [cc_20]; decide +kernel
theorem D20_12 : decode (cod 20) 12 = .ok (.aload_n 0, 1) := by rw [cc_20]; decide +kernel
theorem D20_13 : decode (cod 20) 13 = .ok (.bipush 16, 2) := by rw [cc_20]; decide +kernel
theorem D20_15 : decode (cod 20) 15 = .ok (.newarray .int, 2) := by rw [cc_20]; decide +kernel
theorem D20_17 : decode (cod 20) 17 = .ok (.putfield 15, 3) := by rw [cc_20]; decide +kernel
theorem D20_20 : decode (cod 20) 20 = .ok (.return_, 1) := by rw [cc_20]; decide +kernel
theorem N20_0 {d i k : Nat} {I L : H3} {W : WT}  (n0 : nm k = (28, i)) (n1 : nm (k + 1) = (29, i)) : Cal (d + 1) 20 [vr 3 i] (cn I L W k) = some (vx, (cn I L (ws (ws W 3 i 0) 3 i 1) (k + 2))) :=
  show Res (d + 1) 20 0 [vr 3 i] [] (cn I L W k) = _ from Eq.trans (e_aload_n D20_0 rfl rfl) <| Eq.trans (c_obj (ne := 0) (w := 217) D20_1 rfl rfl rfl rfl (by simp [cw])) <| Eq.trans (e_aload_n D20_4 rfl rfl) <| Eq.trans (e_bipush (x := 16) D20_5 rfl rfl) <| Eq.trans (c_narr (n := 16) (e := 0) (k' := k + 1) D20_7 rfl rfl (by decide) (by decide) rfl n0 rfl rfl) <| Eq.trans (c_putP (ne := 0) (w := 218) D20_9 rfl rfl rfl (sh_3 _) rfl ⟨rfl, rfl, rfl⟩ (by decide) rfl) <| Eq.trans (e_aload_n D20_12 rfl rfl) <| Eq.trans (e_bipush (x := 16) D20_13 rfl rfl) <| Eq.trans (c_narr (n := 16) (e := 0) (k' := k + 2) D20_15 rfl rfl (by decide) (by decide) rfl n1 rfl rfl) <| Eq.trans (c_putP (ne := 0) (w := 220) D20_17 rfl rfl rfl (sh_3 _) rfl ⟨rfl, rfl, rfl⟩ (by decide) rfl) <| e_vret D20_20 rfl
/-! Row_init -/
theorem cc_24 : cod 24 = cX4_init := rfl
theorem D24_0 : decode (cod 24) 0 = .ok (.aload_n 0, 1) := by rw [cc_24]; decide +kernel
theorem D24_1 : decode (cod 24) 1 = .ok (.invokespecial 3, 3) := by rw [cc_24]; decide +kernel
theorem D24_4 : decode (cod 24) 4 = .ok (.aload_n 0, 1) := by rw [cc_24]; decide +kernel
theorem D24_5 : decode (cod 24) 5 = .ok (.bipush 9, 2) := by rw [cc_24]; decide +kernel
theorem D24_7 : decode (cod 24) 7 = .ok (.newarray .int, 2) := by rw [cc_24]; decide +kernel
theorem D24_9 : decode (cod 24) 9 = .ok (.putfield 9, 3) := by rw [cc_24]; decide +kernel
theorem D24_12 : decode (cod 24) 12 = .ok (.return_, 1) := by rw [cc_24]; decide +kernel
theorem N24_0 {d i k : Nat} {I L : H3} {W : WT}  (n0 : nm k = (30, i)) : Cal (d + 1) 24 [vr 4 i] (cn I L W k) = some (vx, (cn I L (ws W 4 i 0) (k + 1))) :=
  show Res (d + 1) 24 0 [vr 4 i] [] (cn I L W k) = _ from Eq.trans (e_aload_n D24_0 rfl rfl) <| Eq.trans (c_obj (ne := 0) (w := 336) D24_1 rfl rfl rfl rfl (by simp [cw])) <| Eq.trans (e_aload_n D24_4 rfl rfl) <| Eq.trans (e_bipush (x := 9) D24_5 rfl rfl) <| Eq.trans (c_narr (n := 9) (e := 0) (k' := k + 1) D24_7 rfl rfl (by decide) (by decide) rfl n0 rfl rfl) <| Eq.trans (c_putP (ne := 0) (w := 337) D24_9 rfl rfl rfl (sh_4 _) rfl ⟨rfl, rfl, rfl⟩ (by decide) rfl) <| e_vret D24_12 rfl
/-! Said_init -/
theorem cc_29 : cod 29 = cX5_init := rfl
theorem D29_0 : decode (cod 29) 0 = .ok (.aload_n 0, 1) := by rw [cc_29]; decide +kernel
theorem D29_1 : decode (cod 29) 1 = .ok (.invokespecial 3, 3) := by rw [cc_29]; decide +kernel
theorem D29_4 : decode (cod 29) 4 = .ok (.aload_n 0, 1) := by rw [cc_29]; decide +kernel
theorem D29_5 : decode (cod 29) 5 = .ok (.bipush 12, 2) := by rw [cc_29]; decide +kernel
theorem D29_7 : decode (cod 29) 7 = .ok (.newarray .int, 2) := by rw [cc_29]; decide +kernel
theorem D29_9 : decode (cod 29) 9 = .ok (.putfield 11, 3) := by rw [cc_29]; decide +kernel
theorem D29_12 : decode (cod 29) 12 = .ok (.aload_n 0, 1) := by rw [cc_29]; decide +kernel
theorem D29_13 : decode (cod 29) 13 = .ok (.bipush 12, 2) := by rw [cc_29]; decide +kernel
theorem D29_15 : decode (cod 29) 15 = .ok (.newarray .int, 2) := by rw [cc_29]; decide +kernel
theorem D29_17 : decode (cod 29) 17 = .ok (.putfield 15, 3) := by rw [cc_29]; decide +kernel
theorem D29_20 : decode (cod 29) 20 = .ok (.aload_n 0, 1) := by rw [cc_29]; decide +kernel
theorem D29_21 : decode (cod 29) 21 = .ok (.bipush 12, 2) := by rw [cc_29]; decide +kernel
theorem D29_23 : decode (cod 29) 23 = .ok (.newarray .int, 2) := by rw [cc_29]; decide +kernel
theorem D29_25 : decode (cod 29) 25 = .ok (.putfield 18, 3) := by rw [cc_29]; decide +kernel
theorem D29_28 : decode (cod 29) 28 = .ok (.return_, 1) := by rw [cc_29]; decide +kernel
theorem N29_0 {d i k : Nat} {I L : H3} {W : WT}  (n0 : nm k = (31, i)) (n1 : nm (k + 1) = (32, i)) (n2 : nm (k + 2) = (33, i)) : Cal (d + 1) 29 [vr 5 i] (cn I L W k) = some (vx, (cn I L (ws (ws (ws W 5 i 0) 5 i 1) 5 i 2) (k + 3))) :=
  show Res (d + 1) 29 0 [vr 5 i] [] (cn I L W k) = _ from Eq.trans (e_aload_n D29_0 rfl rfl) <| Eq.trans (c_obj (ne := 0) (w := 104) D29_1 rfl rfl rfl rfl (by simp [cw])) <| Eq.trans (e_aload_n D29_4 rfl rfl) <| Eq.trans (e_bipush (x := 12) D29_5 rfl rfl) <| Eq.trans (c_narr (n := 12) (e := 0) (k' := k + 1) D29_7 rfl rfl (by decide) (by decide) rfl n0 rfl rfl) <| Eq.trans (c_putP (ne := 0) (w := 105) D29_9 rfl rfl rfl (sh_5 _) rfl ⟨rfl, rfl, rfl⟩ (by decide) rfl) <| Eq.trans (e_aload_n D29_12 rfl rfl) <| Eq.trans (e_bipush (x := 12) D29_13 rfl rfl) <| Eq.trans (c_narr (n := 12) (e := 0) (k' := k + 2) D29_15 rfl rfl (by decide) (by decide) rfl n1 rfl rfl) <| Eq.trans (c_putP (ne := 0) (w := 106) D29_17 rfl rfl rfl (sh_5 _) rfl ⟨rfl, rfl, rfl⟩ (by decide) rfl) <| Eq.trans (e_aload_n D29_20 rfl rfl) <| Eq.trans (e_bipush (x := 12) D29_21 rfl rfl) <| Eq.trans (c_narr (n := 12) (e := 0) (k' := k + 3) D29_23 rfl rfl (by decide) (by decide) rfl n2 rfl rfl) <| Eq.trans (c_putP (ne := 0) (w := 107) D29_25 rfl rfl rfl (sh_5 _) rfl ⟨rfl, rfl, rfl⟩ (by decide) rfl) <| e_vret D29_28 rfl
/-! Tape_init -/
theorem cc_34 : cod 34 = cX7_init := rfl
theorem D34_0 : decode (cod 34) 0 = .ok (.aload_n 0, 1) := by rw [cc_34]; decide +kernel
theorem D34_1 : decode (cod 34) 1 = .ok (.invokespecial 3, 3) := by rw [cc_34]; decide +kernel
theorem D34_4 : decode (cod 34) 4 = .ok (.aload_n 0, 1) := by rw [cc_34]; decide +kernel
theorem D34_5 : decode (cod 34) 5 = .ok (.sipush 400, 3) := by rw [cc_34]; decide +kernel
theorem D34_8 : decode (cod 34) 8 = .ok (.newarray .int, 2) := by rw [cc_34]; decide +kernel
theorem D34_10 : decode (cod 34) 10 = .ok (.putfield 9, 3) := by rw [cc_34]; decide +kernel
theorem D34_13 : decode (cod 34) 13 = .ok (.aload_n 0, 1) := by rw [cc_34]; decide +kernel
theorem D34_14 : decode (cod 34) 14 = .ok (.sipush 401, 3) := by rw [cc_34]; decide +kernel
theorem D34_17 : decode (cod 34) 17 = .ok (.newarray .int, 2) := by rw [cc_34]; decide +kernel
theorem D34_19 : decode (cod 34) 19 = .ok (.putfield 15, 3) := by rw [cc_34]; decide +kernel
theorem D34_22 : decode (cod 34) 22 = .ok (.aload_n 0, 1) := by rw [cc_34]; decide +kernel
theorem D34_23 : decode (cod 34) 23 = .ok (.sipush 401, 3) := by rw [cc_34]; decide +kernel
theorem D34_26 : decode (cod 34) 26 = .ok (.newarray .int, 2) := by rw [cc_34]; decide +kernel
theorem D34_28 : decode (cod 34) 28 = .ok (.putfield 18, 3) := by rw [cc_34]; decide +kernel
theorem D34_31 : decode (cod 34) 31 = .ok (.aload_n 0, 1) := by rw [cc_34]; decide +kernel
theorem D34_32 : decode (cod 34) 32 = .ok (.sipush 401, 3) := by rw [cc_34]; decide +kernel
theorem D34_35 : decode (cod 34) 35 = .ok (.newarray .int, 2) := by rw [cc_34]; decide +kernel
theorem D34_37 : decode (cod 34) 37 = .ok (.putfield 21, 3) := by rw [cc_34]; decide +kernel
theorem D34_40 : decode (cod 34) 40 = .ok (.aload_n 0, 1) := by rw [cc_34]; decide +kernel
theorem D34_41 : decode (cod 34) 41 = .ok (.iconst (-1), 1) := by rw [cc_34]; decide +kernel
theorem D34_42 : decode (cod 34) 42 = .ok (.putfield 24, 3) := by rw [cc_34]; decide +kernel
theorem D34_45 : decode (cod 34) 45 = .ok (.return_, 1) := by rw [cc_34]; decide +kernel
theorem N34_0 {d i k : Nat} {I L : H3} {W : WT}  (n0 : nm k = (34, i)) (n1 : nm (k + 1) = (35, i)) (n2 : nm (k + 2) = (36, i)) (n3 : nm (k + 3) = (37, i)) : Cal (d + 1) 34 [vr 7 i] (cn I L W k) = some (vx, (cn (up3 I 7 i 12 ((-1))) L (ws (ws (ws (ws W 7 i 0) 7 i 1) 7 i 2) 7 i 3) (k + 4))) :=
  show Res (d + 1) 34 0 [vr 7 i] [] (cn I L W k) = _ from Eq.trans (e_aload_n D34_0 rfl rfl) <| Eq.trans (c_obj (ne := 0) (w := 47) D34_1 rfl rfl rfl rfl (by simp [cw])) <| Eq.trans (e_aload_n D34_4 rfl rfl) <| Eq.trans (e_sipush (x := 400) D34_5 rfl rfl) <| Eq.trans (c_narr (n := 400) (e := 0) (k' := k + 1) D34_8 rfl rfl (by decide) (by decide) rfl n0 rfl rfl) <| Eq.trans (c_putP (ne := 0) (w := 48) D34_10 rfl rfl rfl (sh_7 _) rfl ⟨rfl, rfl, rfl⟩ (by decide) rfl) <| Eq.trans (e_aload_n D34_13 rfl rfl) <| Eq.trans (e_sipush (x := 401) D34_14 rfl rfl) <| Eq.trans (c_narr (n := 401) (e := 0) (k' := k + 2) D34_17 rfl rfl (by decide) (by decide) rfl n1 rfl rfl) <| Eq.trans (c_putP (ne := 0) (w := 49) D34_19 rfl rfl rfl (sh_7 _) rfl ⟨rfl, rfl, rfl⟩ (by decide) rfl) <| Eq.trans (e_aload_n D34_22 rfl rfl) <| Eq.trans (e_sipush (x := 401) D34_23 rfl rfl) <| Eq.trans (c_narr (n := 401) (e := 0) (k' := k + 3) D34_26 rfl rfl (by decide) (by decide) rfl n2 rfl rfl) <| Eq.trans (c_putP (ne := 0) (w := 50) D34_28 rfl rfl rfl (sh_7 _) rfl ⟨rfl, rfl, rfl⟩ (by decide) rfl) <| Eq.trans (e_aload_n D34_31 rfl rfl) <| Eq.trans (e_sipush (x := 401) D34_32 rfl rfl) <| Eq.trans (c_narr (n := 401) (e := 0) (k' := k + 4) D34_35 rfl rfl (by decide) (by decide) rfl n3 rfl rfl) <| Eq.trans (c_putP (ne := 0) (w := 51) D34_37 rfl rfl rfl (sh_7 _) rfl ⟨rfl, rfl, rfl⟩ (by decide) rfl) <| Eq.trans (e_aload_n D34_40 rfl rfl) <| Eq.trans (e_iconst (x := -1) D34_41 rfl rfl) <| Eq.trans (c_putI (ne := 0) (w := 65) D34_42 rfl rfl rfl (sh_7 _) rfl ⟨rfl, rfl, rfl⟩ (by decide)) <| e_vret D34_45 rfl
/-! Way_init -/
theorem cc_64 : cod 64 = cX9_init := rfl
theorem D64_0 : decode (cod 64) 0 = .ok (.aload_n 0, 1) := by rw [cc_64]; decide +kernel
theorem D64_1 : decode (cod 64) 1 = .ok (.invokespecial 3, 3) := by rw [cc_64]; decide +kernel
theorem D64_4 : decode (cod 64) 4 = .ok (.aload_n 0, 1) := by rw [cc_64]; decide +kernel
theorem D64_5 : decode (cod 64) 5 = .ok (.iconst (-1), 1) := by rw [cc_64]; decide +kernel
theorem D64_6 : decode (cod 64) 6 = .ok (.putfield 9, 3) := by rw [cc_64]; decide +kernel
theorem D64_9 : decode (cod 64) 9 = .ok (.aload_n 0, 1) := by rw [cc_64]; decide +kernel
theorem D64_10 : decode (cod 64) 10 = .ok (.iconst (-1), 1) := by rw [cc_64]; decide +kernel
theorem D64_11 : decode (cod 64) 11 = .ok (.putfield 15, 3) := by rw [cc_64]; decide +kernel
theorem D64_14 : decode (cod 64) 14 = .ok (.return_, 1) := by rw [cc_64]; decide +kernel
theorem N64_0 {d i k : Nat} {I L : H3} {W : WT}   : Cal (d + 1) 64 [vr 9 i] (cn I L W k) = some (vx, (cn (up3 (up3 I 9 i 2 ((-1))) 9 i 3 ((-1))) L W k)) :=
  show Res (d + 1) 64 0 [vr 9 i] [] (cn I L W k) = _ from Eq.trans (e_aload_n D64_0 rfl rfl) <| Eq.trans (c_obj (ne := 0) (w := 152) D64_1 rfl rfl rfl rfl (by simp [cw])) <| Eq.trans (e_aload_n D64_4 rfl rfl) <| Eq.trans (e_iconst (x := -1) D64_5 rfl rfl) <| Eq.trans (c_putI (ne := 0) (w := 157) D64_6 rfl rfl rfl (sh_9 _) rfl ⟨rfl, rfl, rfl⟩ (by decide)) <| Eq.trans (e_aload_n D64_9 rfl rfl) <| Eq.trans (e_iconst (x := -1) D64_10 rfl rfl) <| Eq.trans (c_putI (ne := 0) (w := 159) D64_11 rfl rfl rfl (sh_9 _) rfl ⟨rfl, rfl, rfl⟩ (by decide)) <| e_vret D64_14 rfl
/-! Show_init -/
theorem cc_33 : cod 33 = cX6_init := rfl
theorem D33_0 : decode (cod 33) 0 = .ok (.aload_n 0, 1) := by rw [cc_33]; decide +kernel
theorem D33_1 : decode (cod 33) 1 = .ok (.invokespecial 1, 3) := by rw [cc_33]; decide +kernel
theorem D33_4 : decode (cod 33) 4 = .ok (.aload_n 0, 1) := by rw [cc_33]; decide +kernel
theorem D33_5 : decode (cod 33) 5 = .ok (.new 7, 3) := by rw [cc_33]; decide +kernel
theorem D33_8 : decode (cod 33) 8 = .ok (.dup, 1) := by rw [cc_33]; decide +kernel
theorem D33_9 : decode (cod 33) 9 = .ok (.invokespecial 9, 3) := by rw [cc_33]; decide +kernel
theorem D33_12 : decode (cod 33) 12 = .ok (.putfield 10, 3) := by rw [cc_33]; decide +kernel
theorem D33_15 : decode (cod 33) 15 = .ok (.return_, 1) := by rw [cc_33]; decide +kernel
theorem N33_0 {d i k : Nat} {I L : H3} {W : WT} {J1 : H3} {V1 : WT} (n0 : nm k = (4, 6 + i)) (c1 : Cal d 24 [vr 4 (6 + i)] (cn I L W (k + 1)) = some (vx, cn J1 L V1 (k + 2))) : Cal (d + 1) 33 [vr 6 i] (cn I L W k) = some (vx, (cn J1 L (ws V1 6 i 0) (k + 2))) :=
  show Res (d + 1) 33 0 [vr 6 i] [] (cn I L W k) = _ from Eq.trans (e_aload_n D33_0 rfl rfl) <| Eq.trans (c_obj (ne := 0) (w := 351) D33_1 rfl rfl rfl rfl (by simp [cw])) <| Eq.trans (e_aload_n D33_4 rfl rfl) <| Eq.trans (c_new (w := 352) (k' := k + 1) D33_5 rfl rfl rfl (by decide) n0 (sh_4 _) rfl) <| Eq.trans (e_dup D33_8 rfl) <| Eq.trans (c_init (z := 24) (ne := 1) (w := 353) (as := [vr 4 (6 + i)]) (rest := [vr 4 (6 + i), vr 6 i]) D33_9 rfl rfl rfl (by decide) rfl rfl rfl c1) <| Eq.trans (c_putP (ne := 0) (w := 354) D33_12 rfl rfl rfl (sh_6 _) rfl ⟨rfl, rfl, rfl⟩ (by decide) rfl) <| e_vret D33_15 rfl
/-! World_init -/
theorem cc_68 : cod 68 = cX10_init := rfl
theorem D68_0 : decode (cod 68) 0 = .ok (.aload_n 0, 1) := by rw [cc_68]; decide +kernel
theorem D68_1 : decode (cod 68) 1 = .ok (.invokespecial 3, 3) := by rw [cc_68]; decide +kernel
theorem D68_4 : decode (cod 68) 4 = .ok (.aload_n 0, 1) := by rw [cc_68]; decide +kernel
theorem D68_5 : decode (cod 68) 5 = .ok (.new 9, 3) := by rw [cc_68]; decide +kernel
theorem D68_8 : decode (cod 68) 8 = .ok (.dup, 1) := by rw [cc_68]; decide +kernel
theorem D68_9 : decode (cod 68) 9 = .ok (.invokespecial 11, 3) := by rw [cc_68]; decide +kernel
theorem D68_12 : decode (cod 68) 12 = .ok (.putfield 12, 3) := by rw [cc_68]; decide +kernel
theorem D68_15 : decode (cod 68) 15 = .ok (.aload_n 0, 1) := by rw [cc_68]; decide +kernel
theorem D68_16 : decode (cod 68) 16 = .ok (.new 18, 3) := by rw [cc_68]; decide +kernel
theorem D68_19 : decode (cod 68) 19 = .ok (.dup, 1) := by rw [cc_68]; decide +kernel
theorem D68_20 : decode (cod 68) 20 = .ok (.invokespecial 20, 3) := by rw [cc_68]; decide +kernel
theorem D68_23 : decode (cod 68) 23 = .ok (.putfield 21, 3) := by rw [cc_68]; decide +kernel
theorem D68_26 : decode (cod 68) 26 = .ok (.return_, 1) := by rw [cc_68]; decide +kernel
theorem N68_0 {d i k : Nat} {I L : H3} {W : WT} {J1 : H3} {V1 : WT} {J2 : H3} {V2 : WT} (n0 : nm k = (3, 20 + i)) (c1 : Cal d 20 [vr 3 (20 + i)] (cn I L W (k + 1)) = some (vx, cn J1 L V1 (k + 3))) (n3 : nm (k + 3) = (4, 106 + i)) (c2 : Cal d 24 [vr 4 (106 + i)] (cn J1 L (ws V1 10 i 0) (k + 4)) = some (vx, cn J2 L V2 (k + 5))) : Cal (d + 1) 68 [vr 10 i] (cn I L W k) = some (vx, (cn J2 L (ws V2 10 i 1) (k + 5))) :=
  show Res (d + 1) 68 0 [vr 10 i] [] (cn I L W k) = _ from Eq.trans (e_aload_n D68_0 rfl rfl) <| Eq.trans (c_obj (ne := 0) (w := 387) D68_1 rfl rfl rfl rfl (by simp [cw])) <| Eq.trans (e_aload_n D68_4 rfl rfl) <| Eq.trans (c_new (w := 388) (k' := k + 1) D68_5 rfl rfl rfl (by decide) n0 (sh_3 _) rfl) <| Eq.trans (e_dup D68_8 rfl) <| Eq.trans (c_init (z := 20) (ne := 1) (w := 389) (as := [vr 3 (20 + i)]) (rest := [vr 3 (20 + i), vr 10 i]) D68_9 rfl rfl rfl (by decide) rfl rfl rfl c1) <| Eq.trans (c_putP (ne := 0) (w := 392) D68_12 rfl rfl rfl (sh_10 _) rfl ⟨rfl, rfl, rfl⟩ (by decide) rfl) <| Eq.trans (e_aload_n D68_15 rfl rfl) <| Eq.trans (c_new (w := 390) (k' := k + 4) D68_16 rfl rfl rfl (by decide) n3 (sh_4 _) rfl) <| Eq.trans (e_dup D68_19 rfl) <| Eq.trans (c_init (z := 24) (ne := 1) (w := 391) (as := [vr 4 (106 + i)]) (rest := [vr 4 (106 + i), vr 10 i]) D68_20 rfl rfl rfl (by decide) rfl rfl rfl c2) <| Eq.trans (c_putP (ne := 0) (w := 394) D68_23 rfl rfl rfl (sh_10 _) rfl ⟨rfl, rfl, rfl⟩ (by decide) rfl) <| e_vret D68_26 rfl
/-! Texts_init -/
theorem cc_48 : cod 48 = cX8_init := rfl
theorem D48_0 : decode (cod 48) 0 = .ok (.aload_n 0, 1) := by rw [cc_48]; decide +kernel
theorem D48_1 : decode (cod 48) 1 = .ok (.invokespecial 3, 3) := by rw [cc_48]; decide +kernel
theorem D48_4 : decode (cod 48) 4 = .ok (.aload_n 0, 1) := by rw [cc_48]; decide +kernel
theorem D48_5 : decode (cod 48) 5 = .ok (.new 9, 3) := by rw [cc_48]; decide +kernel
theorem D48_8 : decode (cod 48) 8 = .ok (.dup, 1) := by rw [cc_48]; decide +kernel
theorem D48_9 : decode (cod 48) 9 = .ok (.invokespecial 11, 3) := by rw [cc_48]; decide +kernel
theorem D48_12 : decode (cod 48) 12 = .ok (.putfield 12, 3) := by rw [cc_48]; decide +kernel
theorem D48_15 : decode (cod 48) 15 = .ok (.aload_n 0, 1) := by rw [cc_48]; decide +kernel
theorem D48_16 : decode (cod 48) 16 = .ok (.iconst 4, 1) := by rw [cc_48]; decide +kernel
theorem D48_17 : decode (cod 48) 17 = .ok (.anewarray 18, 3) := by rw [cc_48]; decide +kernel
theorem D48_20 : decode (cod 48) 20 = .ok (.putfield 20, 3) := by rw [cc_48]; decide +kernel
theorem D48_23 : decode (cod 48) 23 = .ok (.aload_n 0, 1) := by rw [cc_48]; decide +kernel
theorem D48_24 : decode (cod 48) 24 = .ok (.iconst 4, 1) := by rw [cc_48]; decide +kernel
theorem D48_25 : decode (cod 48) 25 = .ok (.anewarray 24, 3) := by rw [cc_48]; decide +kernel
theorem D48_28 : decode (cod 48) 28 = .ok (.putfield 26, 3) := by rw [cc_48]; decide +kernel
theorem D48_31 : decode (cod 48) 31 = .ok (.aload_n 0, 1) := by rw [cc_48]; decide +kernel
theorem D48_32 : decode (cod 48) 32 = .ok (.new 30, 3) := by rw [cc_48]; decide +kernel
theorem D48_35 : decode (cod 48) 35 = .ok (.dup, 1) := by rw [cc_48]; decide +kernel
theorem D48_36 : decode (cod 48) 36 = .ok (.invokespecial 32, 3) := by rw [cc_48]; decide +kernel
theorem D48_39 : decode (cod 48) 39 = .ok (.putfield 33, 3) := by rw [cc_48]; decide +kernel
theorem D48_42 : decode (cod 48) 42 = .ok (.aload_n 0, 1) := by rw [cc_48]; decide +kernel
theorem D48_43 : decode (cod 48) 43 = .ok (.new 18, 3) := by rw [cc_48]; decide +kernel
theorem D48_46 : decode (cod 48) 46 = .ok (.dup, 1) := by rw [cc_48]; decide +kernel
theorem D48_47 : decode (cod 48) 47 = .ok (.invokespecial 37, 3) := by rw [cc_48]; decide +kernel
theorem D48_50 : decode (cod 48) 50 = .ok (.putfield 38, 3) := by rw [cc_48]; decide +kernel
theorem D48_53 : decode (cod 48) 53 = .ok (.aload_n 0, 1) := by rw [cc_48]; decide +kernel
theorem D48_54 : decode (cod 48) 54 = .ok (.new 24, 3) := by rw [cc_48]; decide +kernel
theorem D48_57 : decode (cod 48) 57 = .ok (.dup, 1) := by rw [cc_48]; decide +kernel
theorem D48_58 : decode (cod 48) 58 = .ok (.invokespecial 42, 3) := by rw [cc_48]; decide +kernel
theorem D48_61 : decode (cod 48) 61 = .ok (.putfield 43, 3) := by rw [cc_48]; decide +kernel
theorem D48_64 : decode (cod 48) 64 = .ok (.aload_n 0, 1) := by rw [cc_48]; decide +kernel
theorem D48_65 : decode (cod 48) 65 = .ok (.new 30, 3) := by rw [cc_48]; decide +kernel
theorem D48_68 : decode (cod 48) 68 = .ok (.dup, 1) := by rw [cc_48]; decide +kernel
theorem D48_69 : decode (cod 48) 69 = .ok (.invokespecial 32, 3) := by rw [cc_48]; decide +kernel
theorem D48_72 : decode (cod 48) 72 = .ok (.putfield 47, 3) := by rw [cc_48]; decide +kernel
theorem D48_75 : decode (cod 48) 75 = .ok (.iconst 0, 1) := by rw [cc_48]; decide +kernel
theorem D48_76 : decode (cod 48) 76 = .ok (.istore_n 1, 1) := by rw [cc_48]; decide +kernel
theorem D48_77 : decode (cod 48) 77 = .ok (.iload_n 1, 1) := by rw [cc_48]; decide +kernel
theorem D48_78 : decode (cod 48) 78 = .ok (.iconst 4, 1) := by rw [cc_48]; decide +kernel
theorem D48_79 : decode (cod 48) 79 = .ok (.if_icmp .ge 22, 3) := by rw [cc_48]; decide +kernel
theorem D48_82 : decode (cod 48) 82 = .ok (.aload_n 0, 1) := by rw [cc_48]; decide +kernel
theorem D48_83 : decode (cod 48) 83 = .ok (.getfield 20, 3) := by rw [cc_48]; decide +kernel
theorem D48_86 : decode (cod 48) 86 = .ok (.iload_n 1, 1) := by rw [cc_48]; decide +kernel
theorem D48_87 : decode (cod 48) 87 = .ok (.new 18, 3) := by rw [cc_48]; decide +kernel
theorem D48_90 : decode (cod 48) 90 = .ok (.dup, 1) := by rw [cc_48]; decide +kernel
theorem D48_91 : decode (cod 48) 91 = .ok (.invokespecial 37, 3) := by rw [cc_48]; decide +kernel
theorem D48_94 : decode (cod 48) 94 = .ok (.aastore, 1) := by rw [cc_48]; decide +kernel
theorem D48_95 : decode (cod 48) 95 = .ok (.iinc 1 1, 3) := by rw [cc_48]; decide +kernel
theorem D48_98 : decode (cod 48) 98 = .ok (.goto (-21), 3) := by rw [cc_48]; decide +kernel
theorem D48_101 : decode (cod 48) 101 = .ok (.iconst 0, 1) := by rw [cc_48]; decide +kernel
theorem D48_102 : decode (cod 48) 102 = .ok (.istore_n 1, 1) := by rw [cc_48]; decide +kernel
theorem D48_103 : decode (cod 48) 103 = .ok (.iload_n 1, 1) := by rw [cc_48]; decide +kernel
theorem D48_104 : decode (cod 48) 104 = .ok (.iconst 4, 1) := by rw [cc_48]; decide +kernel
theorem D48_105 : decode (cod 48) 105 = .ok (.if_icmp .ge 22, 3) := by rw [cc_48]; decide +kernel
theorem D48_108 : decode (cod 48) 108 = .ok (.aload_n 0, 1) := by rw [cc_48]; decide +kernel
theorem D48_109 : decode (cod 48) 109 = .ok (.getfield 26, 3) := by rw [cc_48]; decide +kernel
theorem D48_112 : decode (cod 48) 112 = .ok (.iload_n 1, 1) := by rw [cc_48]; decide +kernel
theorem D48_113 : decode (cod 48) 113 = .ok (.new 24, 3) := by rw [cc_48]; decide +kernel
theorem D48_116 : decode (cod 48) 116 = .ok (.dup, 1) := by rw [cc_48]; decide +kernel
theorem D48_117 : decode (cod 48) 117 = .ok (.invokespecial 42, 3) := by rw [cc_48]; decide +kernel
theorem D48_120 : decode (cod 48) 120 = .ok (.aastore, 1) := by rw [cc_48]; decide +kernel
theorem D48_121 : decode (cod 48) 121 = .ok (.iinc 1 1, 3) := by rw [cc_48]; decide +kernel
theorem D48_124 : decode (cod 48) 124 = .ok (.goto (-21), 3) := by rw [cc_48]; decide +kernel
theorem D48_127 : decode (cod 48) 127 = .ok (.return_, 1) := by rw [cc_48]; decide +kernel
theorem N48_0 {d : Nat} {I L : H3} {W : WT} {J1 : H3} {V1 : WT} {J2 : H3} {V2 : WT} {J3 : H3} {V3 : WT} {J4 : H3} {V4 : WT} {J5 : H3} {V5 : WT} (c1 : Cal d 34 [vr 7 0] (cn I L W 12) = some (vx, cn J1 L V1 16)) (c2 : Cal d 29 [vr 5 0] (cn J1 L (ws (ws (ws V1 8 0 0) 8 0 1) 8 0 2) 19) = some (vx, cn J2 L V2 22)) (c3 : Cal d 12 [vr 2 4] (cn J2 L (ws V2 8 0 3) 23) = some (vx, cn J3 L V3 28)) (c4 : Cal d 64 [vr 9 4] (cn J3 L (ws V3 8 0 4) 29) = some (vx, cn J4 L V4 29)) (c5 : Cal d 29 [vr 5 1] (cn J4 L (ws V4 8 0 5) 30) = some (vx, cn J5 L V5 33)) : Cal (d + 1) 48 [vr 8 0] (cn I L W 11) = Res (d + 1) 48 77 [vr 8 0, vi 0] [] (cn J5 L (ws V5 8 0 6) 33) :=
  show Res (d + 1) 48 0 [vr 8 0, vx] [] (cn I L W 11) = _ from Eq.trans (e_aload_n D48_0 rfl rfl) <| Eq.trans (c_obj (ne := 0) (w := 41) D48_1 rfl rfl rfl rfl (by simp [cw])) <| Eq.trans (e_aload_n D48_4 rfl rfl) <| Eq.trans (c_new (w := 42) (k' := 12) D48_5 rfl rfl rfl (by decide) (by decide +kernel) (sh_7 _) rfl) <| Eq.trans (e_dup D48_8 rfl) <| Eq.trans (c_init (z := 34) (ne := 1) (w := 44) (as := [vr 7 0]) (rest := [vr 7 0, vr 8 0]) D48_9 rfl rfl rfl (by decide) rfl rfl rfl c1) <| Eq.trans (c_putP (ne := 0) (w := 174) D48_12 rfl rfl rfl (sh_8 _) rfl ⟨rfl, rfl, rfl⟩ (by decide) rfl) <| Eq.trans (e_aload_n D48_15 rfl rfl) <| Eq.trans (e_iconst (x := 4) D48_16 rfl rfl) <| Eq.trans (c_anew (n := 4) (c := 2) (w := 95) (k' := 17) D48_17 rfl rfl rfl (by decide) rfl (by decide) rfl (by decide +kernel) rfl rfl) <| Eq.trans (c_putP (ne := 0) (w := 176) D48_20 rfl rfl rfl (sh_8 _) rfl ⟨rfl, rfl, rfl⟩ (by decide) rfl) <| Eq.trans (e_aload_n D48_23 rfl rfl) <| Eq.trans (e_iconst (x := 4) D48_24 rfl rfl) <| Eq.trans (c_anew (n := 4) (c := 9) (w := 97) (k' := 18) D48_25 rfl rfl rfl (by decide) rfl (by decide) rfl (by decide +kernel) rfl rfl) <| Eq.trans (c_putP (ne := 0) (w := 178) D48_28 rfl rfl rfl (sh_8 _) rfl ⟨rfl, rfl, rfl⟩ (by decide) rfl) <| Eq.trans (e_aload_n D48_31 rfl rfl) <| Eq.trans (c_new (w := 99) (k' := 19) D48_32 rfl rfl rfl (by decide) (by decide +kernel) (sh_5 _) rfl) <| Eq.trans (e_dup D48_35 rfl) <| Eq.trans (c_init (z := 29) (ne := 1) (w := 101) (as := [vr 5 0]) (rest := [vr 5 0, vr 8 0]) D48_36 rfl rfl rfl (by decide) rfl rfl rfl c2) <| Eq.trans (c_putP (ne := 0) (w := 180) D48_39 rfl rfl rfl (sh_8 _) rfl ⟨rfl, rfl, rfl⟩ (by decide) rfl) <| Eq.trans (e_aload_n D48_42 rfl rfl) <| Eq.trans (c_new (w := 95) (k' := 23) D48_43 rfl rfl rfl (by decide) (by decide +kernel) (sh_2 _) rfl) <| Eq.trans (e_dup D48_46 rfl) <| Eq.trans (c_init (z := 12) (ne := 1) (w := 121) (as := [vr 2 4]) (rest := [vr 2 4, vr 8 0]) D48_47 rfl rfl rfl (by decide) rfl rfl rfl c3) <| Eq.trans (c_putP (ne := 0) (w := 182) D48_50 rfl rfl rfl (sh_8 _) rfl ⟨rfl, rfl, rfl⟩ (by decide) rfl) <| Eq.trans (e_aload_n D48_53 rfl rfl) <| Eq.trans (c_new (w := 97) (k' := 29) D48_54 rfl rfl rfl (by decide) (by decide +kernel) (sh_9 _) rfl) <| Eq.trans (e_dup D48_57 rfl) <| Eq.trans (c_init (z := 64) (ne := 1) (w := 149) (as := [vr 9 4]) (rest := [vr 9 4, vr 8 0]) D48_58 rfl rfl rfl (by decide) rfl rfl rfl c4) <| Eq.trans (c_putP (ne := 0) (w := 183) D48_61 rfl rfl rfl (sh_8 _) rfl ⟨rfl, rfl, rfl⟩ (by decide) rfl) <| Eq.trans (e_aload_n D48_64 rfl rfl) <| Eq.trans (c_new (w := 99) (k' := 30) D48_65 rfl rfl rfl (by decide) (by decide +kernel) (sh_5 _) rfl) <| Eq.trans (e_dup D48_68 rfl) <| Eq.trans (c_init (z := 29) (ne := 1) (w := 101) (as := [vr 5 1]) (rest := [vr 5 1, vr 8 0]) D48_69 rfl rfl rfl (by decide) rfl rfl rfl c5) <| Eq.trans (c_putP (ne := 0) (w := 184) D48_72 rfl rfl rfl (sh_8 _) rfl ⟨rfl, rfl, rfl⟩ (by decide) rfl) <| Eq.trans (e_iconst (x := 0) D48_75 rfl rfl) <| e_istore_n (ls1 := [vr 8 0, vi 0]) D48_76 rfl (show 1 < 2 by decide) rfl
theorem N48_77 {d j k : Nat} {I L : H3} {W : WT} {J1 : H3} {V1 : WT} (hx : ¬ 4 ≤ (j : Int)) (w8_1 : W 8 0 1 = true) (n0 : nm k = (2, j)) (c1 : Cal d 12 [vr 2 j] (cn I L W (k + 1)) = some (vx, cn J1 L V1 (k + 6))) (hj : j < 4) : Res (d + 1) 48 77 [vr 8 0, vi ((j : Int))] [] (cn I L W k) = Res (d + 1) 48 77 [vr 8 0, vi (w32 ((j : Int) + 1))] [] (cn J1 L (ws V1 38 0 j) (k + 6)) :=
  Eq.trans (e_iload_n D48_77 rfl rfl) <| Eq.trans (e_iconst (x := 4) D48_78 rfl rfl) <| Eq.trans (c_icge (q1 := 101) D48_79 rfl rfl hx) <| Eq.trans (e_aload_n D48_82 rfl rfl) <| Eq.trans (c_getP (ne := 0) (w := 176) (p := (38, 0)) D48_83 rfl rfl rfl (sh_8 _) (by decide) w8_1 rfl) <| Eq.trans (e_iload_n D48_86 rfl rfl) <| Eq.trans (c_new (w := 95) (k' := k + 1) D48_87 rfl rfl rfl (by decide) n0 (sh_2 _) rfl) <| Eq.trans (e_dup D48_90 rfl) <| Eq.trans (c_init (z := 12) (ne := 1) (w := 121) (as := [vr 2 j]) (rest := [vr 2 j, vi ((j : Int)), vr 38 0]) D48_91 rfl rfl rfl (by decide) rfl rfl rfl c1) <| Eq.trans (c_aast (s := j) (n := 4) D48_94 rfl ⟨by show 10 ≤ 12; decide, by show 12 < 23; decide⟩ (sh_2 _) (aq_38 _) rfl rfl hj (ta_38 hj)) <| Eq.trans (e_iinc (ls1 := [vr 8 0, vi (w32 ((j : Int) + 1))]) D48_95 rfl rfl rfl) <| e_goto (q1 := 77) D48_98 rfl
theorem N48_77x {d j k : Nat} {I L : H3} {W : WT}  (hx : 4 ≤ (j : Int)) : Res (d + 1) 48 77 [vr 8 0, vi ((j : Int))] [] (cn I L W k) = Res (d + 1) 48 103 [vr 8 0, vi 0] [] (cn I L W k) :=
  Eq.trans (e_iload_n D48_77 rfl rfl) <| Eq.trans (e_iconst (x := 4) D48_78 rfl rfl) <| Eq.trans (c_icge' (q1 := 101) D48_79 rfl rfl hx) <| Eq.trans (e_iconst (x := 0) D48_101 rfl rfl) <| e_istore_n (ls1 := [vr 8 0, vi 0]) D48_102 rfl (show 1 < 2 by decide) rfl
theorem N48_103 {d j k : Nat} {I L : H3} {W : WT} {J1 : H3} {V1 : WT} (hx : ¬ 4 ≤ (j : Int)) (w8_2 : W 8 0 2 = true) (n0 : nm k = (9, j)) (c1 : Cal d 64 [vr 9 j] (cn I L W (k + 1)) = some (vx, cn J1 L V1 (k + 1))) (hj : j < 4) : Res (d + 1) 48 103 [vr 8 0, vi ((j : Int))] [] (cn I L W k) = Res (d + 1) 48 103 [vr 8 0, vi (w32 ((j : Int) + 1))] [] (cn J1 L (ws V1 39 0 j) (k + 1)) :=
  Eq.trans (e_iload_n D48_103 rfl rfl) <| Eq.trans (e_iconst (x := 4) D48_104 rfl rfl) <| Eq.trans (c_icge (q1 := 127) D48_105 rfl rfl hx) <| Eq.trans (e_aload_n D48_108 rfl rfl) <| Eq.trans (c_getP (ne := 0) (w := 178) (p := (39, 0)) D48_109 rfl rfl rfl (sh_8 _) (by decide) w8_2 rfl) <| Eq.trans (e_iload_n D48_112 rfl rfl) <| Eq.trans (c_new (w := 97) (k' := k + 1) D48_113 rfl rfl rfl (by decide) n0 (sh_9 _) rfl) <| Eq.trans (e_dup D48_116 rfl) <| Eq.trans (c_init (z := 64) (ne := 1) (w := 149) (as := [vr 9 j]) (rest := [vr 9 j, vi ((j : Int)), vr 39 0]) D48_117 rfl rfl rfl (by decide) rfl rfl rfl c1) <| Eq.trans (c_aast (s := j) (n := 4) D48_120 rfl ⟨by show 10 ≤ 19; decide, by show 19 < 23; decide⟩ (sh_9 _) (aq_39 _) rfl rfl hj (ta_39 hj)) <| Eq.trans (e_iinc (ls1 := [vr 8 0, vi (w32 ((j : Int) + 1))]) D48_121 rfl rfl rfl) <| e_goto (q1 := 103) D48_124 rfl
theorem N48_103x {d j k : Nat} {I L : H3} {W : WT}  (hx : 4 ≤ (j : Int)) : Res (d + 1) 48 103 [vr 8 0, vi ((j : Int))] [] (cn I L W k) = some (vx, (cn I L W k)) :=
  Eq.trans (e_iload_n D48_103 rfl rfl) <| Eq.trans (e_iconst (x := 4) D48_104 rfl rfl) <| Eq.trans (c_icge' (q1 := 127) D48_105 rfl rfl hx) <| e_vret D48_127 rfl
/-! Bench_init -/
theorem cc_0 : cod 0 = cX0_init := rfl
theorem D0_0 : decode (cod 0) 0 = .ok (.aload_n 0, 1) := by rw [cc_0]; decide +kernel
theorem D0_1 : decode (cod 0) 1 = .ok (.invokespecial 3, 3) := by rw [cc_0]; decide +kernel
theorem D0_4 : decode (cod 0) 4 = .ok (.aload_n 0, 1) := by rw [cc_0]; decide +kernel
theorem D0_5 : decode (cod 0) 5 = .ok (.bipush 10, 2) := by rw [cc_0]; decide +kernel
theorem D0_7 : decode (cod 0) 7 = .ok (.newarray .int, 2) := by rw [cc_0]; decide +kernel
theorem D0_9 : decode (cod 0) 9 = .ok (.putfield 9, 3) := by rw [cc_0]; decide +kernel
theorem D0_12 : decode (cod 0) 12 = .ok (.aload_n 0, 1) := by rw [cc_0]; decide +kernel
theorem D0_13 : decode (cod 0) 13 = .ok (.bipush 9, 2) := by rw [cc_0]; decide +kernel
theorem D0_15 : decode (cod 0) 15 = .ok (.newarray .int, 2) := by rw [cc_0]; decide +kernel
theorem D0_17 : decode (cod 0) 17 = .ok (.putfield 15, 3) := by rw [cc_0]; decide +kernel
theorem D0_20 : decode (cod 0) 20 = .ok (.aload_n 0, 1) := by rw [cc_0]; decide +kernel
theorem D0_21 : decode (cod 0) 21 = .ok (.bipush 10, 2) := by rw [cc_0]; decide +kernel
theorem D0_23 : decode (cod 0) 23 = .ok (.newarray .int, 2) := by rw [cc_0]; decide +kernel
theorem D0_25 : decode (cod 0) 25 = .ok (.putfield 18, 3) := by rw [cc_0]; decide +kernel
theorem D0_28 : decode (cod 0) 28 = .ok (.aload_n 0, 1) := by rw [cc_0]; decide +kernel
theorem D0_29 : decode (cod 0) 29 = .ok (.bipush 16, 2) := by rw [cc_0]; decide +kernel
theorem D0_31 : decode (cod 0) 31 = .ok (.newarray .int, 2) := by rw [cc_0]; decide +kernel
theorem D0_33 : decode (cod 0) 33 = .ok (.putfield 21, 3) := by rw [cc_0]; decide +kernel
theorem D0_36 : decode (cod 0) 36 = .ok (.aload_n 0, 1) := by rw [cc_0]; decide +kernel
theorem D0_37 : decode (cod 0) 37 = .ok (.bipush 9, 2) := by rw [cc_0]; decide +kernel
theorem D0_39 : decode (cod 0) 39 = .ok (.newarray .int, 2) := by rw [cc_0]; decide +kernel
theorem D0_41 : decode (cod 0) 41 = .ok (.putfield 24, 3) := by rw [cc_0]; decide +kernel
theorem D0_44 : decode (cod 0) 44 = .ok (.aload_n 0, 1) := by rw [cc_0]; decide +kernel
theorem D0_45 : decode (cod 0) 45 = .ok (.bipush 9, 2) := by rw [cc_0]; decide +kernel
theorem D0_47 : decode (cod 0) 47 = .ok (.newarray .int, 2) := by rw [cc_0]; decide +kernel
theorem D0_49 : decode (cod 0) 49 = .ok (.putfield 27, 3) := by rw [cc_0]; decide +kernel
theorem D0_52 : decode (cod 0) 52 = .ok (.aload_n 0, 1) := by rw [cc_0]; decide +kernel
theorem D0_53 : decode (cod 0) 53 = .ok (.iconst 4, 1) := by rw [cc_0]; decide +kernel
theorem D0_54 : decode (cod 0) 54 = .ok (.newarray .long, 2) := by rw [cc_0]; decide +kernel
theorem D0_56 : decode (cod 0) 56 = .ok (.putfield 30, 3) := by rw [cc_0]; decide +kernel
theorem D0_59 : decode (cod 0) 59 = .ok (.aload_n 0, 1) := by rw [cc_0]; decide +kernel
theorem D0_60 : decode (cod 0) 60 = .ok (.iconst 4, 1) := by rw [cc_0]; decide +kernel
theorem D0_61 : decode (cod 0) 61 = .ok (.newarray .long, 2) := by rw [cc_0]; decide +kernel
theorem D0_63 : decode (cod 0) 63 = .ok (.putfield 34, 3) := by rw [cc_0]; decide +kernel
theorem D0_66 : decode (cod 0) 66 = .ok (.aload_n 0, 1) := by rw [cc_0]; decide +kernel
theorem D0_67 : decode (cod 0) 67 = .ok (.new 37, 3) := by rw [cc_0]; decide +kernel
theorem D0_70 : decode (cod 0) 70 = .ok (.dup, 1) := by rw [cc_0]; decide +kernel
theorem D0_71 : decode (cod 0) 71 = .ok (.invokespecial 39, 3) := by rw [cc_0]; decide +kernel
theorem D0_74 : decode (cod 0) 74 = .ok (.putfield 40, 3) := by rw [cc_0]; decide +kernel
theorem D0_77 : decode (cod 0) 77 = .ok (.aload_n 0, 1) := by rw [cc_0]; decide +kernel
theorem D0_78 : decode (cod 0) 78 = .ok (.bipush 9, 2) := by rw [cc_0]; decide +kernel
theorem D0_80 : decode (cod 0) 80 = .ok (.anewarray 44, 3) := by rw [cc_0]; decide +kernel
theorem D0_83 : decode (cod 0) 83 = .ok (.putfield 46, 3) := by rw [cc_0]; decide +kernel
theorem D0_86 : decode (cod 0) 86 = .ok (.aload_n 0, 1) := by rw [cc_0]; decide +kernel
theorem D0_87 : decode (cod 0) 87 = .ok (.new 44, 3) := by rw [cc_0]; decide +kernel
theorem D0_90 : decode (cod 0) 90 = .ok (.dup, 1) := by rw [cc_0]; decide +kernel
theorem D0_91 : decode (cod 0) 91 = .ok (.invokespecial 50, 3) := by rw [cc_0]; decide +kernel
theorem D0_94 : decode (cod 0) 94 = .ok (.putfield 51, 3) := by rw [cc_0]; decide +kernel
theorem D0_97 : decode (cod 0) 97 = .ok (.aload_n 0, 1) := by rw [cc_0]; decide +kernel
theorem D0_98 : decode (cod 0) 98 = .ok (.new 44, 3) := by rw [cc_0]; decide +kernel
theorem D0_101 : decode (cod 0) 101 = .ok (.dup, 1) := by rw [cc_0]; decide +kernel
theorem D0_102 : decode (cod 0) 102 = .ok (.invokespecial 50, 3) := by rw [cc_0]; decide +kernel
theorem D0_105 : decode (cod 0) 105 = .ok (.putfield 55, 3) := by rw [cc_0]; decide +kernel
theorem D0_108 : decode (cod 0) 108 = .ok (.iconst 0, 1) := by rw [cc_0]; decide +kernel
theorem D0_109 : decode (cod 0) 109 = .ok (.istore_n 1, 1) := by rw [cc_0]; decide +kernel
theorem D0_110 : decode (cod 0) 110 = .ok (.iload_n 1, 1) := by rw [cc_0]; decide +kernel
theorem D0_111 : decode (cod 0) 111 = .ok (.bipush 9, 2) := by rw [cc_0]; decide +kernel
theorem D0_113 : decode (cod 0) 113 = .ok (.if_icmp .ge 22, 3) := by rw [cc_0]; decide +kernel
theorem D0_116 : decode (cod 0) 116 = .ok (.aload_n 0, 1) := by rw [cc_0]; decide +kernel
theorem D0_117 : decode (cod 0) 117 = .ok (.getfield 46, 3) := by rw [cc_0]; decide +kernel
theorem D0_120 : decode (cod 0) 120 = .ok (.iload_n 1, 1) := by rw [cc_0]; decide +kernel
theorem D0_121 : decode (cod 0) 121 = .ok (.new 44, 3) := by rw [cc_0]; decide +kernel
theorem D0_124 : decode (cod 0) 124 = .ok (.dup, 1) := by rw [cc_0]; decide +kernel
theorem D0_125 : decode (cod 0) 125 = .ok (.invokespecial 50, 3) := by rw [cc_0]; decide +kernel
theorem D0_128 : decode (cod 0) 128 = .ok (.aastore, 1) := by rw [cc_0]; decide +kernel
theorem D0_129 : decode (cod 0) 129 = .ok (.iinc 1 1, 3) := by rw [cc_0]; decide +kernel
theorem D0_132 : decode (cod 0) 132 = .ok (.goto (-22), 3) := by rw [cc_0]; decide +kernel
theorem D0_135 : decode (cod 0) 135 = .ok (.return_, 1) := by rw [cc_0]; decide +kernel
theorem N0_0 {d : Nat} {I L : H3} {W : WT} {J1 : H3} {V1 : WT} {J2 : H3} {V2 : WT} {J3 : H3} {V3 : WT} (c1 : Cal d 20 [vr 3 60] (cn I L (ws (ws (ws (ws (ws (ws (ws (ws W 0 0 0) 0 0 1) 0 0 2) 0 0 3) 0 0 4) 0 0 5) 0 0 6) 0 0 7) 76) = some (vx, cn J1 L V1 78)) (c2 : Cal d 8 [vr 1 129] (cn J1 L (ws (ws V1 0 0 8) 0 0 9) 80) = some (vx, cn J2 L V2 81)) (c3 : Cal d 8 [vr 1 130] (cn J2 L (ws V2 0 0 10) 82) = some (vx, cn J3 L V3 83)) : Cal (d + 1) 0 [vr 0 0] (cn I L W 67) = Res (d + 1) 0 110 [vr 0 0, vi 0] [] (cn J3 L (ws V3 0 0 11) 83) :=
  show Res (d + 1) 0 0 [vr 0 0, vx] [] (cn I L W 67) = _ from Eq.trans (e_aload_n D0_0 rfl rfl) <| Eq.trans (c_obj (ne := 0) (w := 211) D0_1 rfl rfl rfl rfl (by simp [cw])) <| Eq.trans (e_aload_n D0_4 rfl rfl) <| Eq.trans (e_bipush (x := 10) D0_5 rfl rfl) <| Eq.trans (c_narr (n := 10) (e := 0) (k' := 68) D0_7 rfl rfl (by decide) (by decide) rfl (by decide +kernel) rfl rfl) <| Eq.trans (c_putP (ne := 0) (w := 282) D0_9 rfl rfl rfl (sh_0 _) rfl ⟨rfl, rfl, rfl⟩ (by decide) rfl) <| Eq.trans (e_aload_n D0_12 rfl rfl) <| Eq.trans (e_bipush (x := 9) D0_13 rfl rfl) <| Eq.trans (c_narr (n := 9) (e := 0) (k' := 69) D0_15 rfl rfl (by decide) (by decide) rfl (by decide +kernel) rfl rfl) <| Eq.trans (c_putP (ne := 0) (w := 284) D0_17 rfl rfl rfl (sh_0 _) rfl ⟨rfl, rfl, rfl⟩ (by decide) rfl) <| Eq.trans (e_aload_n D0_20 rfl rfl) <| Eq.trans (e_bipush (x := 10) D0_21 rfl rfl) <| Eq.trans (c_narr (n := 10) (e := 0) (k' := 70) D0_23 rfl rfl (by decide) (by decide) rfl (by decide +kernel) rfl rfl) <| Eq.trans (c_putP (ne := 0) (w := 286) D0_25 rfl rfl rfl (sh_0 _) rfl ⟨rfl, rfl, rfl⟩ (by decide) rfl) <| Eq.trans (e_aload_n D0_28 rfl rfl) <| Eq.trans (e_bipush (x := 16) D0_29 rfl rfl) <| Eq.trans (c_narr (n := 16) (e := 0) (k' := 71) D0_31 rfl rfl (by decide) (by decide) rfl (by decide +kernel) rfl rfl) <| Eq.trans (c_putP (ne := 0) (w := 287) D0_33 rfl rfl rfl (sh_0 _) rfl ⟨rfl, rfl, rfl⟩ (by decide) rfl) <| Eq.trans (e_aload_n D0_36 rfl rfl) <| Eq.trans (e_bipush (x := 9) D0_37 rfl rfl) <| Eq.trans (c_narr (n := 9) (e := 0) (k' := 72) D0_39 rfl rfl (by decide) (by decide) rfl (by decide +kernel) rfl rfl) <| Eq.trans (c_putP (ne := 0) (w := 289) D0_41 rfl rfl rfl (sh_0 _) rfl ⟨rfl, rfl, rfl⟩ (by decide) rfl) <| Eq.trans (e_aload_n D0_44 rfl rfl) <| Eq.trans (e_bipush (x := 9) D0_45 rfl rfl) <| Eq.trans (c_narr (n := 9) (e := 0) (k' := 73) D0_47 rfl rfl (by decide) (by decide) rfl (by decide +kernel) rfl rfl) <| Eq.trans (c_putP (ne := 0) (w := 291) D0_49 rfl rfl rfl (sh_0 _) rfl ⟨rfl, rfl, rfl⟩ (by decide) rfl) <| Eq.trans (e_aload_n D0_52 rfl rfl) <| Eq.trans (e_iconst (x := 4) D0_53 rfl rfl) <| Eq.trans (c_narr (n := 4) (e := 1) (k' := 74) D0_54 rfl rfl (by decide) (by decide) rfl (by decide +kernel) rfl rfl) <| Eq.trans (c_putP (ne := 0) (w := 293) D0_56 rfl rfl rfl (sh_0 _) rfl ⟨rfl, rfl, rfl⟩ (by decide) rfl) <| Eq.trans (e_aload_n D0_59 rfl rfl) <| Eq.trans (e_iconst (x := 4) D0_60 rfl rfl) <| Eq.trans (c_narr (n := 4) (e := 1) (k' := 75) D0_61 rfl rfl (by decide) (by decide) rfl (by decide +kernel) rfl rfl) <| Eq.trans (c_putP (ne := 0) (w := 295) D0_63 rfl rfl rfl (sh_0 _) rfl ⟨rfl, rfl, rfl⟩ (by decide) rfl) <| Eq.trans (e_aload_n D0_66 rfl rfl) <| Eq.trans (c_new (w := 212) (k' := 76) D0_67 rfl rfl rfl (by decide) (by decide +kernel) (sh_3 _) rfl) <| Eq.trans (e_dup D0_70 rfl) <| Eq.trans (c_init (z := 20) (ne := 1) (w := 214) (as := [vr 3 60]) (rest := [vr 3 60, vr 0 0]) D0_71 rfl rfl rfl (by decide) rfl rfl rfl c1) <| Eq.trans (c_putP (ne := 0) (w := 297) D0_74 rfl rfl rfl (sh_0 _) rfl ⟨rfl, rfl, rfl⟩ (by decide) rfl) <| Eq.trans (e_aload_n D0_77 rfl rfl) <| Eq.trans (e_bipush (x := 9) D0_78 rfl rfl) <| Eq.trans (c_anew (n := 9) (c := 1) (w := 262) (k' := 79) D0_80 rfl rfl rfl (by decide) rfl (by decide) rfl (by decide +kernel) rfl rfl) <| Eq.trans (c_putP (ne := 0) (w := 299) D0_83 rfl rfl rfl (sh_0 _) rfl ⟨rfl, rfl, rfl⟩ (by decide) rfl) <| Eq.trans (e_aload_n D0_86 rfl rfl) <| Eq.trans (c_new (w := 262) (k' := 80) D0_87 rfl rfl rfl (by decide) (by decide +kernel) (sh_1 _) rfl) <| Eq.trans (e_dup D0_90 rfl) <| Eq.trans (c_init (z := 8) (ne := 1) (w := 264) (as := [vr 1 129]) (rest := [vr 1 129, vr 0 0]) D0_91 rfl rfl rfl (by decide) rfl rfl rfl c2) <| Eq.trans (c_putP (ne := 0) (w := 301) D0_94 rfl rfl rfl (sh_0 _) rfl ⟨rfl, rfl, rfl⟩ (by decide) rfl) <| Eq.trans (e_aload_n D0_97 rfl rfl) <| Eq.trans (c_new (w := 262) (k' := 82) D0_98 rfl rfl rfl (by decide) (by decide +kernel) (sh_1 _) rfl) <| Eq.trans (e_dup D0_101 rfl) <| Eq.trans (c_init (z := 8) (ne := 1) (w := 264) (as := [vr 1 130]) (rest := [vr 1 130, vr 0 0]) D0_102 rfl rfl rfl (by decide) rfl rfl rfl c3) <| Eq.trans (c_putP (ne := 0) (w := 302) D0_105 rfl rfl rfl (sh_0 _) rfl ⟨rfl, rfl, rfl⟩ (by decide) rfl) <| Eq.trans (e_iconst (x := 0) D0_108 rfl rfl) <| e_istore_n (ls1 := [vr 0 0, vi 0]) D0_109 rfl (show 1 < 2 by decide) rfl
theorem N0_110 {d j k : Nat} {I L : H3} {W : WT} {J1 : H3} {V1 : WT} (hx : ¬ 9 ≤ (j : Int)) (w0_9 : W 0 0 9 = true) (n0 : nm k = (1, 120 + j)) (c1 : Cal d 8 [vr 1 (120 + j)] (cn I L W (k + 1)) = some (vx, cn J1 L V1 (k + 2))) (hj : j < 9) : Res (d + 1) 0 110 [vr 0 0, vi ((j : Int))] [] (cn I L W k) = Res (d + 1) 0 110 [vr 0 0, vi (w32 ((j : Int) + 1))] [] (cn J1 L (ws V1 21 0 j) (k + 2)) :=
  Eq.trans (e_iload_n D0_110 rfl rfl) <| Eq.trans (e_bipush (x := 9) D0_111 rfl rfl) <| Eq.trans (c_icge (q1 := 135) D0_113 rfl rfl hx) <| Eq.trans (e_aload_n D0_116 rfl rfl) <| Eq.trans (c_getP (ne := 0) (w := 299) (p := (21, 0)) D0_117 rfl rfl rfl (sh_0 _) (by decide) w0_9 rfl) <| Eq.trans (e_iload_n D0_120 rfl rfl) <| Eq.trans (c_new (w := 262) (k' := k + 1) D0_121 rfl rfl rfl (by decide) n0 (sh_1 _) rfl) <| Eq.trans (e_dup D0_124 rfl) <| Eq.trans (c_init (z := 8) (ne := 1) (w := 264) (as := [vr 1 (120 + j)]) (rest := [vr 1 (120 + j), vi ((j : Int)), vr 21 0]) D0_125 rfl rfl rfl (by decide) rfl rfl rfl c1) <| Eq.trans (c_aast (s := j) (n := 9) D0_128 rfl ⟨by show 10 ≤ 11; decide, by show 11 < 23; decide⟩ (sh_1 _) (aq_21 _) rfl rfl hj rfl) <| Eq.trans (e_iinc (ls1 := [vr 0 0, vi (w32 ((j : Int) + 1))]) D0_129 rfl rfl rfl) <| e_goto (q1 := 110) D0_132 rfl
theorem N0_110x {d j k : Nat} {I L : H3} {W : WT}  (hx : 9 ≤ (j : Int)) : Res (d + 1) 0 110 [vr 0 0, vi ((j : Int))] [] (cn I L W k) = some (vx, (cn I L W k)) :=
  Eq.trans (e_iload_n D0_110 rfl rfl) <| Eq.trans (e_bipush (x := 9) D0_111 rfl rfl) <| Eq.trans (c_icge' (q1 := 135) D0_113 rfl rfl hx) <| e_vret D0_135 rfl
/-! x_init -/
theorem cc_70 : cod 70 = cX11_init := rfl
theorem D70_0 : decode (cod 70) 0 = .ok (.aload_n 0, 1) := by rw [cc_70]; decide +kernel
theorem D70_1 : decode (cod 70) 1 = .ok (.invokespecial 1, 3) := by rw [cc_70]; decide +kernel
theorem D70_4 : decode (cod 70) 4 = .ok (.aload_n 0, 1) := by rw [cc_70]; decide +kernel
theorem D70_5 : decode (cod 70) 5 = .ok (.bipush 120, 2) := by rw [cc_70]; decide +kernel
theorem D70_7 : decode (cod 70) 7 = .ok (.anewarray 9, 3) := by rw [cc_70]; decide +kernel
theorem D70_10 : decode (cod 70) 10 = .ok (.putfield 11, 3) := by rw [cc_70]; decide +kernel
theorem D70_13 : decode (cod 70) 13 = .ok (.aload_n 0, 1) := by rw [cc_70]; decide +kernel
theorem D70_14 : decode (cod 70) 14 = .ok (.bipush 6, 2) := by rw [cc_70]; decide +kernel
theorem D70_16 : decode (cod 70) 16 = .ok (.bipush 16, 2) := by rw [cc_70]; decide +kernel
theorem D70_18 : decode (cod 70) 18 = .ok (.multianewarray 15 2, 4) := by rw [cc_70]; decide +kernel
theorem D70_22 : decode (cod 70) 22 = .ok (.putfield 17, 3) := by rw [cc_70]; decide +kernel
theorem D70_25 : decode (cod 70) 25 = .ok (.aload_n 0, 1) := by rw [cc_70]; decide +kernel
theorem D70_26 : decode (cod 70) 26 = .ok (.bipush 6, 2) := by rw [cc_70]; decide +kernel
theorem D70_28 : decode (cod 70) 28 = .ok (.anewarray 20, 3) := by rw [cc_70]; decide +kernel
theorem D70_31 : decode (cod 70) 31 = .ok (.putfield 22, 3) := by rw [cc_70]; decide +kernel
theorem D70_34 : decode (cod 70) 34 = .ok (.aload_n 0, 1) := by rw [cc_70]; decide +kernel
theorem D70_35 : decode (cod 70) 35 = .ok (.new 26, 3) := by rw [cc_70]; decide +kernel
theorem D70_38 : decode (cod 70) 38 = .ok (.dup, 1) := by rw [cc_70]; decide +kernel
theorem D70_39 : decode (cod 70) 39 = .ok (.invokespecial 28, 3) := by rw [cc_70]; decide +kernel
theorem D70_42 : decode (cod 70) 42 = .ok (.putfield 29, 3) := by rw [cc_70]; decide +kernel
theorem D70_45 : decode (cod 70) 45 = .ok (.aload_n 0, 1) := by rw [cc_70]; decide +kernel
theorem D70_46 : decode (cod 70) 46 = .ok (.bipush 20, 2) := by rw [cc_70]; decide +kernel
theorem D70_48 : decode (cod 70) 48 = .ok (.anewarray 33, 3) := by rw [cc_70]; decide +kernel
theorem D70_51 : decode (cod 70) 51 = .ok (.putfield 35, 3) := by rw [cc_70]; decide +kernel
theorem D70_54 : decode (cod 70) 54 = .ok (.aload_n 0, 1) := by rw [cc_70]; decide +kernel
theorem D70_55 : decode (cod 70) 55 = .ok (.bipush 100, 2) := by rw [cc_70]; decide +kernel
theorem D70_57 : decode (cod 70) 57 = .ok (.anewarray 39, 3) := by rw [cc_70]; decide +kernel
theorem D70_60 : decode (cod 70) 60 = .ok (.putfield 41, 3) := by rw [cc_70]; decide +kernel
theorem D70_63 : decode (cod 70) 63 = .ok (.aload_n 0, 1) := by rw [cc_70]; decide +kernel
theorem D70_64 : decode (cod 70) 64 = .ok (.bipush 40, 2) := by rw [cc_70]; decide +kernel
theorem D70_66 : decode (cod 70) 66 = .ok (.anewarray 45, 3) := by rw [cc_70]; decide +kernel
theorem D70_69 : decode (cod 70) 69 = .ok (.putfield 47, 3) := by rw [cc_70]; decide +kernel
theorem D70_72 : decode (cod 70) 72 = .ok (.aload_n 0, 1) := by rw [cc_70]; decide +kernel
theorem D70_73 : decode (cod 70) 73 = .ok (.sipush 220, 3) := by rw [cc_70]; decide +kernel
theorem D70_76 : decode (cod 70) 76 = .ok (.newarray .int, 2) := by rw [cc_70]; decide +kernel
theorem D70_78 : decode (cod 70) 78 = .ok (.putfield 51, 3) := by rw [cc_70]; decide +kernel
theorem D70_81 : decode (cod 70) 81 = .ok (.aload_n 0, 1) := by rw [cc_70]; decide +kernel
theorem D70_82 : decode (cod 70) 82 = .ok (.sipush 220, 3) := by rw [cc_70]; decide +kernel
theorem D70_85 : decode (cod 70) 85 = .ok (.newarray .int, 2) := by rw [cc_70]; decide +kernel
theorem D70_87 : decode (cod 70) 87 = .ok (.putfield 55, 3) := by rw [cc_70]; decide +kernel
theorem D70_90 : decode (cod 70) 90 = .ok (.aload_n 0, 1) := by rw [cc_70]; decide +kernel
theorem D70_91 : decode (cod 70) 91 = .ok (.new 58, 3) := by rw [cc_70]; decide +kernel
theorem D70_94 : decode (cod 70) 94 = .ok (.dup, 1) := by rw [cc_70]; decide +kernel
theorem D70_95 : decode (cod 70) 95 = .ok (.invokespecial 60, 3) := by rw [cc_70]; decide +kernel
theorem D70_98 : decode (cod 70) 98 = .ok (.putfield 61, 3) := by rw [cc_70]; decide +kernel
theorem D70_101 : decode (cod 70) 101 = .ok (.iconst 0, 1) := by rw [cc_70]; decide +kernel
theorem D70_102 : decode (cod 70) 102 = .ok (.istore_n 1, 1) := by rw [cc_70]; decide +kernel
theorem D70_103 : decode (cod 70) 103 = .ok (.iload_n 1, 1) := by rw [cc_70]; decide +kernel
theorem D70_104 : decode (cod 70) 104 = .ok (.bipush 120, 2) := by rw [cc_70]; decide +kernel
theorem D70_106 : decode (cod 70) 106 = .ok (.if_icmp .ge 22, 3) := by rw [cc_70]; decide +kernel
theorem D70_109 : decode (cod 70) 109 = .ok (.aload_n 0, 1) := by rw [cc_70]; decide +kernel
theorem D70_110 : decode (cod 70) 110 = .ok (.getfield 11, 3) := by rw [cc_70]; decide +kernel
theorem D70_113 : decode (cod 70) 113 = .ok (.iload_n 1, 1) := by rw [cc_70]; decide +kernel
theorem D70_114 : decode (cod 70) 114 = .ok (.new 9, 3) := by rw [cc_70]; decide +kernel
theorem D70_117 : decode (cod 70) 117 = .ok (.dup, 1) := by rw [cc_70]; decide +kernel
theorem D70_118 : decode (cod 70) 118 = .ok (.invokespecial 65, 3) := by rw [cc_70]; decide +kernel
theorem D70_121 : decode (cod 70) 121 = .ok (.aastore, 1) := by rw [cc_70]; decide +kernel
theorem D70_122 : decode (cod 70) 122 = .ok (.iinc 1 1, 3) := by rw [cc_70]; decide +kernel
theorem D70_125 : decode (cod 70) 125 = .ok (.goto (-22), 3) := by rw [cc_70]; decide +kernel
theorem D70_128 : decode (cod 70) 128 = .ok (.iconst 0, 1) := by rw [cc_70]; decide +kernel
theorem D70_129 : decode (cod 70) 129 = .ok (.istore_n 1, 1) := by rw [cc_70]; decide +kernel
theorem D70_130 : decode (cod 70) 130 = .ok (.iload_n 1, 1) := by rw [cc_70]; decide +kernel
theorem D70_131 : decode (cod 70) 131 = .ok (.bipush 6, 2) := by rw [cc_70]; decide +kernel
theorem D70_133 : decode (cod 70) 133 = .ok (.if_icmp .ge 20, 3) := by rw [cc_70]; decide +kernel
theorem D70_136 : decode (cod 70) 136 = .ok (.aload_n 0, 1) := by rw [cc_70]; decide +kernel
theorem D70_137 : decode (cod 70) 137 = .ok (.getfield 17, 3) := by rw [cc_70]; decide +kernel
theorem D70_140 : decode (cod 70) 140 = .ok (.iload_n 1, 1) := by rw [cc_70]; decide +kernel
theorem D70_141 : decode (cod 70) 141 = .ok (.aaload, 1) := by rw [cc_70]; decide +kernel
theorem D70_142 : decode (cod 70) 142 = .ok (.bipush 16, 2) := by rw [cc_70]; decide +kernel
theorem D70_144 : decode (cod 70) 144 = .ok (.invokestatic 66, 3) := by rw [cc_70]; decide +kernel
theorem D70_147 : decode (cod 70) 147 = .ok (.iinc 1 1, 3) := by rw [cc_70]; decide +kernel
theorem D70_150 : decode (cod 70) 150 = .ok (.goto (-20), 3) := by rw [cc_70]; decide +kernel
theorem D70_153 : decode (cod 70) 153 = .ok (.iconst 0, 1) := by rw [cc_70]; decide +kernel
theorem D70_154 : decode (cod 70) 154 = .ok (.istore_n 1, 1) := by rw [cc_70]; decide +kernel
theorem D70_155 : decode (cod 70) 155 = .ok (.iload_n 1, 1) := by rw [cc_70]; decide +kernel
theorem D70_156 : decode (cod 70) 156 = .ok (.bipush 6, 2) := by rw [cc_70]; decide +kernel
theorem D70_158 : decode (cod 70) 158 = .ok (.if_icmp .ge 22, 3) := by rw [cc_70]; decide +kernel
theorem D70_161 : decode (cod 70) 161 = .ok (.aload_n 0, 1) := by rw [cc_70]; decide +kernel
theorem D70_162 : decode (cod 70) 162 = .ok (.getfield 22, 3) := by rw [cc_70]; decide +kernel
theorem D70_165 : decode (cod 70) 165 = .ok (.iload_n 1, 1) := by rw [cc_70]; decide +kernel
theorem D70_166 : decode (cod 70) 166 = .ok (.new 20, 3) := by rw [cc_70]; decide +kernel
theorem D70_169 : decode (cod 70) 169 = .ok (.dup, 1) := by rw [cc_70]; decide +kernel
theorem D70_170 : decode (cod 70) 170 = .ok (.invokespecial 72, 3) := by rw [cc_70]; decide +kernel
theorem D70_173 : decode (cod 70) 173 = .ok (.aastore, 1) := by rw [cc_70]; decide +kernel
theorem D70_174 : decode (cod 70) 174 = .ok (.iinc 1 1, 3) := by rw [cc_70]; decide +kernel
theorem D70_177 : decode (cod 70) 177 = .ok (.goto (-22), 3) := by rw [cc_70]; decide +kernel
theorem D70_180 : decode (cod 70) 180 = .ok (.iconst 0, 1) := by rw [cc_70]; decide +kernel
theorem D70_181 : decode (cod 70) 181 = .ok (.istore_n 1, 1) := by rw [cc_70]; decide +kernel
theorem D70_182 : decode (cod 70) 182 = .ok (.iload_n 1, 1) := by rw [cc_70]; decide +kernel
theorem D70_183 : decode (cod 70) 183 = .ok (.bipush 20, 2) := by rw [cc_70]; decide +kernel
theorem D70_185 : decode (cod 70) 185 = .ok (.if_icmp .ge 22, 3) := by rw [cc_70]; decide +kernel
theorem D70_188 : decode (cod 70) 188 = .ok (.aload_n 0, 1) := by rw [cc_70]; decide +kernel
theorem D70_189 : decode (cod 70) 189 = .ok (.getfield 35, 3) := by rw [cc_70]; decide +kernel
theorem D70_192 : decode (cod 70) 192 = .ok (.iload_n 1, 1) := by rw [cc_70]; decide +kernel
theorem D70_193 : decode (cod 70) 193 = .ok (.new 33, 3) := by rw [cc_70]; decide +kernel
theorem D70_196 : decode (cod 70) 196 = .ok (.dup, 1) := by rw [cc_70]; decide +kernel
theorem D70_197 : decode (cod 70) 197 = .ok (.invokespecial 73, 3) := by rw [cc_70]; decide +kernel
theorem D70_200 : decode (cod 70) 200 = .ok (.aastore, 1) := by rw [cc_70]; decide +kernel
theorem D70_201 : decode (cod 70) 201 = .ok (.iinc 1 1, 3) := by rw [cc_70]; decide +kernel
theorem D70_204 : decode (cod 70) 204 = .ok (.goto (-22), 3) := by rw [cc_70]; decide +kernel
theorem D70_207 : decode (cod 70) 207 = .ok (.iconst 0, 1) := by rw [cc_70]; decide +kernel
theorem D70_208 : decode (cod 70) 208 = .ok (.istore_n 1, 1) := by rw [cc_70]; decide +kernel
theorem D70_209 : decode (cod 70) 209 = .ok (.iload_n 1, 1) := by rw [cc_70]; decide +kernel
theorem D70_210 : decode (cod 70) 210 = .ok (.bipush 100, 2) := by rw [cc_70]; decide +kernel
theorem D70_212 : decode (cod 70) 212 = .ok (.if_icmp .ge 22, 3) := by rw [cc_70]; decide +kernel
theorem D70_215 : decode (cod 70) 215 = .ok (.aload_n 0, 1) := by rw [cc_70]; decide +kernel
theorem D70_216 : decode (cod 70) 216 = .ok (.getfield 41, 3) := by rw [cc_70]; decide +kernel
theorem D70_219 : decode (cod 70) 219 = .ok (.iload_n 1, 1) := by rw [cc_70]; decide +kernel
theorem D70_220 : decode (cod 70) 220 = .ok (.new 39, 3) := by rw [cc_70]; decide +kernel
theorem D70_223 : decode (cod 70) 223 = .ok (.dup, 1) := by rw [cc_70]; decide +kernel
theorem D70_224 : decode (cod 70) 224 = .ok (.invokespecial 74, 3) := by rw [cc_70]; decide +kernel
theorem D70_227 : decode (cod 70) 227 = .ok (.aastore, 1) := by rw [cc_70]; decide +kernel
theorem D70_228 : decode (cod 70) 228 = .ok (.iinc 1 1, 3) := by rw [cc_70]; decide +kernel
theorem D70_231 : decode (cod 70) 231 = .ok (.goto (-22), 3) := by rw [cc_70]; decide +kernel
theorem D70_234 : decode (cod 70) 234 = .ok (.iconst 0, 1) := by rw [cc_70]; decide +kernel
theorem D70_235 : decode (cod 70) 235 = .ok (.istore_n 1, 1) := by rw [cc_70]; decide +kernel
theorem D70_236 : decode (cod 70) 236 = .ok (.iload_n 1, 1) := by rw [cc_70]; decide +kernel
theorem D70_237 : decode (cod 70) 237 = .ok (.bipush 40, 2) := by rw [cc_70]; decide +kernel
theorem D70_239 : decode (cod 70) 239 = .ok (.if_icmp .ge 22, 3) := by rw [cc_70]; decide +kernel
theorem D70_242 : decode (cod 70) 242 = .ok (.aload_n 0, 1) := by rw [cc_70]; decide +kernel
theorem D70_243 : decode (cod 70) 243 = .ok (.getfield 47, 3) := by rw [cc_70]; decide +kernel
theorem D70_246 : decode (cod 70) 246 = .ok (.iload_n 1, 1) := by rw [cc_70]; decide +kernel
theorem D70_247 : decode (cod 70) 247 = .ok (.new 45, 3) := by rw [cc_70]; decide +kernel
theorem D70_250 : decode (cod 70) 250 = .ok (.dup, 1) := by rw [cc_70]; decide +kernel
theorem D70_251 : decode (cod 70) 251 = .ok (.invokespecial 75, 3) := by rw [cc_70]; decide +kernel
theorem D70_254 : decode (cod 70) 254 = .ok (.aastore, 1) := by rw [cc_70]; decide +kernel
theorem D70_255 : decode (cod 70) 255 = .ok (.iinc 1 1, 3) := by rw [cc_70]; decide +kernel
theorem D70_258 : decode (cod 70) 258 = .ok (.goto (-22), 3) := by rw [cc_70]; decide +kernel
theorem D70_261 : decode (cod 70) 261 = .ok (.return_, 1) := by rw [cc_70]; decide +kernel
theorem N70_0 {d : Nat} {I L : H3} {W : WT}   : Cal (d + 1) 70 [vr 11 0] (cn I L W 1) = Res (d + 1) 70 18 [vr 11 0, vx] [vi 16, vi 6, vr 11 0] (cn I L (ws W 11 0 0) 2) :=
  show Res (d + 1) 70 0 [vr 11 0, vx] [] (cn I L W 1) = _ from Eq.trans (e_aload_n D70_0 rfl rfl) <| Eq.trans (c_obj (ne := 0) (w := 27) D70_1 rfl rfl rfl rfl (by simp [cw])) <| Eq.trans (e_aload_n D70_4 rfl rfl) <| Eq.trans (e_bipush (x := 120) D70_5 rfl rfl) <| Eq.trans (c_anew (n := 120) (c := 1) (w := 30) (k' := 2) D70_7 rfl rfl rfl (by decide) rfl (by decide) rfl (by decide +kernel) rfl rfl) <| Eq.trans (c_putP (ne := 0) (w := 408) D70_10 rfl rfl rfl (sh_11 _) rfl ⟨rfl, rfl, rfl⟩ (by decide) rfl) <| Eq.trans (e_aload_n D70_13 rfl rfl) <| Eq.trans (e_bipush (x := 6) D70_14 rfl rfl) <| e_bipush (x := 16) D70_16 rfl rfl
theorem N70_22 {d : Nat} {I L : H3} {W : WT} {J1 : H3} {V1 : WT} {J2 : H3} {V2 : WT} (c1 : Cal d 48 [vr 8 0] (cn I L (ws (ws W 11 0 1) 11 0 2) 11) = some (vx, cn J1 L V1 61)) (c2 : Cal d 0 [vr 0 0] (cn J1 L (ws (ws (ws (ws (ws (ws V1 11 0 3) 11 0 4) 11 0 5) 11 0 6) 11 0 7) 11 0 8) 67) = some (vx, cn J2 L V2 101)) : Res (d + 1) 70 22 [vr 11 0, vx] [vr 41 0, vr 11 0] (cn I L W 9) = Res (d + 1) 70 103 [vr 11 0, vi 0] [] (cn J2 L (ws V2 11 0 9) 101) :=
  Eq.trans (c_putP (ne := 0) (w := 409) D70_22 rfl rfl rfl (sh_11 _) rfl ⟨rfl, rfl, rfl⟩ (by decide) rfl) <| Eq.trans (e_aload_n D70_25 rfl rfl) <| Eq.trans (e_bipush (x := 6) D70_26 rfl rfl) <| Eq.trans (c_anew (n := 6) (c := 4) (w := 34) (k' := 10) D70_28 rfl rfl rfl (by decide) rfl (by decide) rfl (by decide +kernel) rfl rfl) <| Eq.trans (c_putP (ne := 0) (w := 410) D70_31 rfl rfl rfl (sh_11 _) rfl ⟨rfl, rfl, rfl⟩ (by decide) rfl) <| Eq.trans (e_aload_n D70_34 rfl rfl) <| Eq.trans (c_new (w := 36) (k' := 11) D70_35 rfl rfl rfl (by decide) (by decide +kernel) (sh_8 _) rfl) <| Eq.trans (e_dup D70_38 rfl) <| Eq.trans (c_init (z := 48) (ne := 1) (w := 38) (as := [vr 8 0]) (rest := [vr 8 0, vr 11 0]) D70_39 rfl rfl rfl (by decide) rfl rfl rfl c1) <| Eq.trans (c_putP (ne := 0) (w := 411) D70_42 rfl rfl rfl (sh_11 _) rfl ⟨rfl, rfl, rfl⟩ (by decide) rfl) <| Eq.trans (e_aload_n D70_45 rfl rfl) <| Eq.trans (e_bipush (x := 20) D70_46 rfl rfl) <| Eq.trans (c_anew (n := 20) (c := 3) (w := 200) (k' := 62) D70_48 rfl rfl rfl (by decide) rfl (by decide) rfl (by decide +kernel) rfl rfl) <| Eq.trans (c_putP (ne := 0) (w := 412) D70_51 rfl rfl rfl (sh_11 _) rfl ⟨rfl, rfl, rfl⟩ (by decide) rfl) <| Eq.trans (e_aload_n D70_54 rfl rfl) <| Eq.trans (e_bipush (x := 100) D70_55 rfl rfl) <| Eq.trans (c_anew (n := 100) (c := 6) (w := 202) (k' := 63) D70_57 rfl rfl rfl (by decide) rfl (by decide) rfl (by decide +kernel) rfl rfl) <| Eq.trans (c_putP (ne := 0) (w := 413) D70_60 rfl rfl rfl (sh_11 _) rfl ⟨rfl, rfl, rfl⟩ (by decide) rfl) <| Eq.trans (e_aload_n D70_63 rfl rfl) <| Eq.trans (e_bipush (x := 40) D70_64 rfl rfl) <| Eq.trans (c_anew (n := 40) (c := 10) (w := 204) (k' := 64) D70_66 rfl rfl rfl (by decide) rfl (by decide) rfl (by decide +kernel) rfl rfl) <| Eq.trans (c_putP (ne := 0) (w := 414) D70_69 rfl rfl rfl (sh_11 _) rfl ⟨rfl, rfl, rfl⟩ (by decide) rfl) <| Eq.trans (e_aload_n D70_72 rfl rfl) <| Eq.trans (e_sipush (x := 220) D70_73 rfl rfl) <| Eq.trans (c_narr (n := 220) (e := 0) (k' := 65) D70_76 rfl rfl (by decide) (by decide) rfl (by decide +kernel) rfl rfl) <| Eq.trans (c_putP (ne := 0) (w := 415) D70_78 rfl rfl rfl (sh_11 _) rfl ⟨rfl, rfl, rfl⟩ (by decide) rfl) <| Eq.trans (e_aload_n D70_81 rfl rfl) <| Eq.trans (e_sipush (x := 220) D70_82 rfl rfl) <| Eq.trans (c_narr (n := 220) (e := 0) (k' := 66) D70_85 rfl rfl (by decide) (by decide) rfl (by decide +kernel) rfl rfl) <| Eq.trans (c_putP (ne := 0) (w := 416) D70_87 rfl rfl rfl (sh_11 _) rfl ⟨rfl, rfl, rfl⟩ (by decide) rfl) <| Eq.trans (e_aload_n D70_90 rfl rfl) <| Eq.trans (c_new (w := 206) (k' := 67) D70_91 rfl rfl rfl (by decide) (by decide +kernel) (sh_0 _) rfl) <| Eq.trans (e_dup D70_94 rfl) <| Eq.trans (c_init (z := 0) (ne := 1) (w := 208) (as := [vr 0 0]) (rest := [vr 0 0, vr 11 0]) D70_95 rfl rfl rfl (by decide) rfl rfl rfl c2) <| Eq.trans (c_putP (ne := 0) (w := 417) D70_98 rfl rfl rfl (sh_11 _) rfl ⟨rfl, rfl, rfl⟩ (by decide) rfl) <| Eq.trans (e_iconst (x := 0) D70_101 rfl rfl) <| e_istore_n (ls1 := [vr 11 0, vi 0]) D70_102 rfl (show 1 < 2 by decide) rfl
theorem N70_103 {d j k : Nat} {I L : H3} {W : WT} {J1 : H3} {V1 : WT} (hx : ¬ 120 ≤ (j : Int)) (w11_0 : W 11 0 0 = true) (n0 : nm k = (1, j)) (c1 : Cal d 8 [vr 1 j] (cn I L W (k + 1)) = some (vx, cn J1 L V1 (k + 2))) (hj : j < 120) : Res (d + 1) 70 103 [vr 11 0, vi ((j : Int))] [] (cn I L W k) = Res (d + 1) 70 103 [vr 11 0, vi (w32 ((j : Int) + 1))] [] (cn J1 L (ws V1 40 0 j) (k + 2)) :=
  Eq.trans (e_iload_n D70_103 rfl rfl) <| Eq.trans (e_bipush (x := 120) D70_104 rfl rfl) <| Eq.trans (c_icge (q1 := 128) D70_106 rfl rfl hx) <| Eq.trans (e_aload_n D70_109 rfl rfl) <| Eq.trans (c_getP (ne := 0) (w := 408) (p := (40, 0)) D70_110 rfl rfl rfl (sh_11 _) (by decide) w11_0 rfl) <| Eq.trans (e_iload_n D70_113 rfl rfl) <| Eq.trans (c_new (w := 30) (k' := k + 1) D70_114 rfl rfl rfl (by decide) n0 (sh_1 _) rfl) <| Eq.trans (e_dup D70_117 rfl) <| Eq.trans (c_init (z := 8) (ne := 1) (w := 328) (as := [vr 1 j]) (rest := [vr 1 j, vi ((j : Int)), vr 40 0]) D70_118 rfl rfl rfl (by decide) rfl rfl rfl c1) <| Eq.trans (c_aast (s := j) (n := 120) D70_121 rfl ⟨by show 10 ≤ 11; decide, by show 11 < 23; decide⟩ (sh_1 _) (aq_40 _) rfl rfl hj rfl) <| Eq.trans (e_iinc (ls1 := [vr 11 0, vi (w32 ((j : Int) + 1))]) D70_122 rfl rfl rfl) <| e_goto (q1 := 103) D70_125 rfl
theorem N70_103x {d j k : Nat} {I L : H3} {W : WT}  (hx : 120 ≤ (j : Int)) : Res (d + 1) 70 103 [vr 11 0, vi ((j : Int))] [] (cn I L W k) = Res (d + 1) 70 130 [vr 11 0, vi 0] [] (cn I L W k) :=
  Eq.trans (e_iload_n D70_103 rfl rfl) <| Eq.trans (e_bipush (x := 120) D70_104 rfl rfl) <| Eq.trans (c_icge' (q1 := 128) D70_106 rfl rfl hx) <| Eq.trans (e_iconst (x := 0) D70_128 rfl rfl) <| e_istore_n (ls1 := [vr 11 0, vi 0]) D70_129 rfl (show 1 < 2 by decide) rfl
theorem N70_130 {d j k : Nat} {I L : H3} {W : WT}  (hx : ¬ 6 ≤ (j : Int)) (w11_1 : W 11 0 1 = true) (wa : W 41 0 j = true) (hj : j < 6) : Res (d + 1) 70 130 [vr 11 0, vi ((j : Int))] [] (cn I L W k) = Res (d + 1) 70 130 [vr 11 0, vi (w32 ((j : Int) + 1))] [] (cn (sr I 115 j 16 (fun _ => 16)) L W k) :=
  Eq.trans (e_iload_n D70_130 rfl rfl) <| Eq.trans (e_bipush (x := 6) D70_131 rfl rfl) <| Eq.trans (c_icge (q1 := 153) D70_133 rfl rfl hx) <| Eq.trans (e_aload_n D70_136 rfl rfl) <| Eq.trans (c_getP (ne := 0) (w := 409) (p := (41, 0)) D70_137 rfl rfl rfl (sh_11 _) (by decide) w11_1 rfl) <| Eq.trans (e_iload_n D70_140 rfl rfl) <| Eq.trans (c_aald (n := 6) (p := (115, j)) D70_141 rfl (ae_41 _) (aq_41 _) hj wa rfl) <| Eq.trans (e_bipush (x := 16) D70_142 rfl rfl) <| Eq.trans (c_stat (z := 249) (ne := 0) (w := 329) (as := [vr 115 j, vi 16]) (rest := []) D70_144 rfl rfl rfl (by decide) rfl rfl rfl (s249g (n := 16) rfl rfl rfl (by decide) (by decide))) <| Eq.trans (e_iinc (ls1 := [vr 11 0, vi (w32 ((j : Int) + 1))]) D70_147 rfl rfl rfl) <| e_goto (q1 := 130) D70_150 rfl
theorem N70_130x {d j k : Nat} {I L : H3} {W : WT}  (hx : 6 ≤ (j : Int)) : Res (d + 1) 70 130 [vr 11 0, vi ((j : Int))] [] (cn I L W k) = Res (d + 1) 70 155 [vr 11 0, vi 0] [] (cn I L W k) :=
  Eq.trans (e_iload_n D70_130 rfl rfl) <| Eq.trans (e_bipush (x := 6) D70_131 rfl rfl) <| Eq.trans (c_icge' (q1 := 153) D70_133 rfl rfl hx) <| Eq.trans (e_iconst (x := 0) D70_153 rfl rfl) <| e_istore_n (ls1 := [vr 11 0, vi 0]) D70_154 rfl (show 1 < 2 by decide) rfl
theorem N70_155 {d j k : Nat} {I L : H3} {W : WT} {J1 : H3} {V1 : WT} (hx : ¬ 6 ≤ (j : Int)) (w11_2 : W 11 0 2 = true) (n0 : nm k = (4, j)) (c1 : Cal d 24 [vr 4 j] (cn I L W (k + 1)) = some (vx, cn J1 L V1 (k + 2))) (hj : j < 6) : Res (d + 1) 70 155 [vr 11 0, vi ((j : Int))] [] (cn I L W k) = Res (d + 1) 70 155 [vr 11 0, vi (w32 ((j : Int) + 1))] [] (cn J1 L (ws V1 42 0 j) (k + 2)) :=
  Eq.trans (e_iload_n D70_155 rfl rfl) <| Eq.trans (e_bipush (x := 6) D70_156 rfl rfl) <| Eq.trans (c_icge (q1 := 180) D70_158 rfl rfl hx) <| Eq.trans (e_aload_n D70_161 rfl rfl) <| Eq.trans (c_getP (ne := 0) (w := 410) (p := (42, 0)) D70_162 rfl rfl rfl (sh_11 _) (by decide) w11_2 rfl) <| Eq.trans (e_iload_n D70_165 rfl rfl) <| Eq.trans (c_new (w := 34) (k' := k + 1) D70_166 rfl rfl rfl (by decide) n0 (sh_4 _) rfl) <| Eq.trans (e_dup D70_169 rfl) <| Eq.trans (c_init (z := 24) (ne := 1) (w := 333) (as := [vr 4 j]) (rest := [vr 4 j, vi ((j : Int)), vr 42 0]) D70_170 rfl rfl rfl (by decide) rfl rfl rfl c1) <| Eq.trans (c_aast (s := j) (n := 6) D70_173 rfl ⟨by show 10 ≤ 14; decide, by show 14 < 23; decide⟩ (sh_4 _) (aq_42 _) rfl rfl hj rfl) <| Eq.trans (e_iinc (ls1 := [vr 11 0, vi (w32 ((j : Int) + 1))]) D70_174 rfl rfl rfl) <| e_goto (q1 := 155) D70_177 rfl
theorem N70_155x {d j k : Nat} {I L : H3} {W : WT}  (hx : 6 ≤ (j : Int)) : Res (d + 1) 70 155 [vr 11 0, vi ((j : Int))] [] (cn I L W k) = Res (d + 1) 70 182 [vr 11 0, vi 0] [] (cn I L W k) :=
  Eq.trans (e_iload_n D70_155 rfl rfl) <| Eq.trans (e_bipush (x := 6) D70_156 rfl rfl) <| Eq.trans (c_icge' (q1 := 180) D70_158 rfl rfl hx) <| Eq.trans (e_iconst (x := 0) D70_180 rfl rfl) <| e_istore_n (ls1 := [vr 11 0, vi 0]) D70_181 rfl (show 1 < 2 by decide) rfl
theorem N70_182 {d j k : Nat} {I L : H3} {W : WT} {J1 : H3} {V1 : WT} (hx : ¬ 20 ≤ (j : Int)) (w11_4 : W 11 0 4 = true) (n0 : nm k = (3, j)) (c1 : Cal d 20 [vr 3 j] (cn I L W (k + 1)) = some (vx, cn J1 L V1 (k + 3))) (hj : j < 20) : Res (d + 1) 70 182 [vr 11 0, vi ((j : Int))] [] (cn I L W k) = Res (d + 1) 70 182 [vr 11 0, vi (w32 ((j : Int) + 1))] [] (cn J1 L (ws V1 43 0 j) (k + 3)) :=
  Eq.trans (e_iload_n D70_182 rfl rfl) <| Eq.trans (e_bipush (x := 20) D70_183 rfl rfl) <| Eq.trans (c_icge (q1 := 207) D70_185 rfl rfl hx) <| Eq.trans (e_aload_n D70_188 rfl rfl) <| Eq.trans (c_getP (ne := 0) (w := 412) (p := (43, 0)) D70_189 rfl rfl rfl (sh_11 _) (by decide) w11_4 rfl) <| Eq.trans (e_iload_n D70_192 rfl rfl) <| Eq.trans (c_new (w := 200) (k' := k + 1) D70_193 rfl rfl rfl (by decide) n0 (sh_3 _) rfl) <| Eq.trans (e_dup D70_196 rfl) <| Eq.trans (c_init (z := 20) (ne := 1) (w := 346) (as := [vr 3 j]) (rest := [vr 3 j, vi ((j : Int)), vr 43 0]) D70_197 rfl rfl rfl (by decide) rfl rfl rfl c1) <| Eq.trans (c_aast (s := j) (n := 20) D70_200 rfl ⟨by show 10 ≤ 13; decide, by show 13 < 23; decide⟩ (sh_3 _) (aq_43 _) rfl rfl hj rfl) <| Eq.trans (e_iinc (ls1 := [vr 11 0, vi (w32 ((j : Int) + 1))]) D70_201 rfl rfl rfl) <| e_goto (q1 := 182) D70_204 rfl
theorem N70_182x {d j k : Nat} {I L : H3} {W : WT}  (hx : 20 ≤ (j : Int)) : Res (d + 1) 70 182 [vr 11 0, vi ((j : Int))] [] (cn I L W k) = Res (d + 1) 70 209 [vr 11 0, vi 0] [] (cn I L W k) :=
  Eq.trans (e_iload_n D70_182 rfl rfl) <| Eq.trans (e_bipush (x := 20) D70_183 rfl rfl) <| Eq.trans (c_icge' (q1 := 207) D70_185 rfl rfl hx) <| Eq.trans (e_iconst (x := 0) D70_207 rfl rfl) <| e_istore_n (ls1 := [vr 11 0, vi 0]) D70_208 rfl (show 1 < 2 by decide) rfl
theorem N70_209 {d j k : Nat} {I L : H3} {W : WT} {J1 : H3} {V1 : WT} (hx : ¬ 100 ≤ (j : Int)) (w11_5 : W 11 0 5 = true) (n0 : nm k = (6, j)) (c1 : Cal d 33 [vr 6 j] (cn I L W (k + 1)) = some (vx, cn J1 L V1 (k + 3))) (hj : j < 100) : Res (d + 1) 70 209 [vr 11 0, vi ((j : Int))] [] (cn I L W k) = Res (d + 1) 70 209 [vr 11 0, vi (w32 ((j : Int) + 1))] [] (cn J1 L (ws V1 44 0 j) (k + 3)) :=
  Eq.trans (e_iload_n D70_209 rfl rfl) <| Eq.trans (e_bipush (x := 100) D70_210 rfl rfl) <| Eq.trans (c_icge (q1 := 234) D70_212 rfl rfl hx) <| Eq.trans (e_aload_n D70_215 rfl rfl) <| Eq.trans (c_getP (ne := 0) (w := 413) (p := (44, 0)) D70_216 rfl rfl rfl (sh_11 _) (by decide) w11_5 rfl) <| Eq.trans (e_iload_n D70_219 rfl rfl) <| Eq.trans (c_new (w := 202) (k' := k + 1) D70_220 rfl rfl rfl (by decide) n0 (sh_6 _) rfl) <| Eq.trans (e_dup D70_223 rfl) <| Eq.trans (c_init (z := 33) (ne := 1) (w := 348) (as := [vr 6 j]) (rest := [vr 6 j, vi ((j : Int)), vr 44 0]) D70_224 rfl rfl rfl (by decide) rfl rfl rfl c1) <| Eq.trans (c_aast (s := j) (n := 100) D70_227 rfl ⟨by show 10 ≤ 16; decide, by show 16 < 23; decide⟩ (sh_6 _) (aq_44 _) rfl rfl hj rfl) <| Eq.trans (e_iinc (ls1 := [vr 11 0, vi (w32 ((j : Int) + 1))]) D70_228 rfl rfl rfl) <| e_goto (q1 := 209) D70_231 rfl
theorem N70_209x {d j k : Nat} {I L : H3} {W : WT}  (hx : 100 ≤ (j : Int)) : Res (d + 1) 70 209 [vr 11 0, vi ((j : Int))] [] (cn I L W k) = Res (d + 1) 70 236 [vr 11 0, vi 0] [] (cn I L W k) :=
  Eq.trans (e_iload_n D70_209 rfl rfl) <| Eq.trans (e_bipush (x := 100) D70_210 rfl rfl) <| Eq.trans (c_icge' (q1 := 234) D70_212 rfl rfl hx) <| Eq.trans (e_iconst (x := 0) D70_234 rfl rfl) <| e_istore_n (ls1 := [vr 11 0, vi 0]) D70_235 rfl (show 1 < 2 by decide) rfl
theorem N70_236 {d j k : Nat} {I L : H3} {W : WT} {J1 : H3} {V1 : WT} (hx : ¬ 40 ≤ (j : Int)) (w11_6 : W 11 0 6 = true) (n0 : nm k = (10, j)) (c1 : Cal d 68 [vr 10 j] (cn I L W (k + 1)) = some (vx, cn J1 L V1 (k + 6))) (hj : j < 40) : Res (d + 1) 70 236 [vr 11 0, vi ((j : Int))] [] (cn I L W k) = Res (d + 1) 70 236 [vr 11 0, vi (w32 ((j : Int) + 1))] [] (cn J1 L (ws V1 45 0 j) (k + 6)) :=
  Eq.trans (e_iload_n D70_236 rfl rfl) <| Eq.trans (e_bipush (x := 40) D70_237 rfl rfl) <| Eq.trans (c_icge (q1 := 261) D70_239 rfl rfl hx) <| Eq.trans (e_aload_n D70_242 rfl rfl) <| Eq.trans (c_getP (ne := 0) (w := 414) (p := (45, 0)) D70_243 rfl rfl rfl (sh_11 _) (by decide) w11_6 rfl) <| Eq.trans (e_iload_n D70_246 rfl rfl) <| Eq.trans (c_new (w := 204) (k' := k + 1) D70_247 rfl rfl rfl (by decide) n0 (sh_10 _) rfl) <| Eq.trans (e_dup D70_250 rfl) <| Eq.trans (c_init (z := 68) (ne := 1) (w := 384) (as := [vr 10 j]) (rest := [vr 10 j, vi ((j : Int)), vr 45 0]) D70_251 rfl rfl rfl (by decide) rfl rfl rfl c1) <| Eq.trans (c_aast (s := j) (n := 40) D70_254 rfl ⟨by show 10 ≤ 20; decide, by show 20 < 23; decide⟩ (sh_10 _) (aq_45 _) rfl rfl hj rfl) <| Eq.trans (e_iinc (ls1 := [vr 11 0, vi (w32 ((j : Int) + 1))]) D70_255 rfl rfl rfl) <| e_goto (q1 := 236) D70_258 rfl
theorem N70_236x {d j k : Nat} {I L : H3} {W : WT}  (hx : 40 ≤ (j : Int)) : Res (d + 1) 70 236 [vr 11 0, vi ((j : Int))] [] (cn I L W k) = some (vx, (cn I L W k)) :=
  Eq.trans (e_iload_n D70_236 rfl rfl) <| Eq.trans (e_bipush (x := 40) D70_237 rfl rfl) <| Eq.trans (c_icge' (q1 := 261) D70_239 rfl rfl hx) <| e_vret D70_261 rfl
/-! m_init -/
theorem cc_145 : cod 145 = cX12_init := rfl
theorem D145_0 : decode (cod 145) 0 = .ok (.aload_n 0, 1) := by rw [cc_145]; decide +kernel
theorem D145_1 : decode (cod 145) 1 = .ok (.invokespecial 1, 3) := by rw [cc_145]; decide +kernel
theorem D145_4 : decode (cod 145) 4 = .ok (.aload_n 0, 1) := by rw [cc_145]; decide +kernel
theorem D145_5 : decode (cod 145) 5 = .ok (.sipush 2112, 3) := by rw [cc_145]; decide +kernel
theorem D145_8 : decode (cod 145) 8 = .ok (.newarray .int, 2) := by rw [cc_145]; decide +kernel
theorem D145_10 : decode (cod 145) 10 = .ok (.putfield 7, 3) := by rw [cc_145]; decide +kernel
theorem D145_13 : decode (cod 145) 13 = .ok (.aload_n 0, 1) := by rw [cc_145]; decide +kernel
theorem D145_14 : decode (cod 145) 14 = .ok (.sipush 132, 3) := by rw [cc_145]; decide +kernel
theorem D145_17 : decode (cod 145) 17 = .ok (.newarray .int, 2) := by rw [cc_145]; decide +kernel
theorem D145_19 : decode (cod 145) 19 = .ok (.putfield 13, 3) := by rw [cc_145]; decide +kernel
theorem D145_22 : decode (cod 145) 22 = .ok (.aload_n 0, 1) := by rw [cc_145]; decide +kernel
theorem D145_23 : decode (cod 145) 23 = .ok (.bipush 120, 2) := by rw [cc_145]; decide +kernel
theorem D145_25 : decode (cod 145) 25 = .ok (.newarray .int, 2) := by rw [cc_145]; decide +kernel
theorem D145_27 : decode (cod 145) 27 = .ok (.putfield 16, 3) := by rw [cc_145]; decide +kernel
theorem D145_30 : decode (cod 145) 30 = .ok (.aload_n 0, 1) := by rw [cc_145]; decide +kernel
theorem D145_31 : decode (cod 145) 31 = .ok (.bipush 96, 2) := by rw [cc_145]; decide +kernel
theorem D145_33 : decode (cod 145) 33 = .ok (.newarray .int, 2) := by rw [cc_145]; decide +kernel
theorem D145_35 : decode (cod 145) 35 = .ok (.putfield 19, 3) := by rw [cc_145]; decide +kernel
theorem D145_38 : decode (cod 145) 38 = .ok (.aload_n 0, 1) := by rw [cc_145]; decide +kernel
theorem D145_39 : decode (cod 145) 39 = .ok (.bipush 54, 2) := by rw [cc_145]; decide +kernel
theorem D145_41 : decode (cod 145) 41 = .ok (.newarray .int, 2) := by rw [cc_145]; decide +kernel
theorem D145_43 : decode (cod 145) 43 = .ok (.putfield 22, 3) := by rw [cc_145]; decide +kernel
theorem D145_46 : decode (cod 145) 46 = .ok (.aload_n 0, 1) := by rw [cc_145]; decide +kernel
theorem D145_47 : decode (cod 145) 47 = .ok (.bipush 6, 2) := by rw [cc_145]; decide +kernel
theorem D145_49 : decode (cod 145) 49 = .ok (.newarray .int, 2) := by rw [cc_145]; decide +kernel
theorem D145_51 : decode (cod 145) 51 = .ok (.putfield 25, 3) := by rw [cc_145]; decide +kernel
theorem D145_54 : decode (cod 145) 54 = .ok (.aload_n 0, 1) := by rw [cc_145]; decide +kernel
theorem D145_55 : decode (cod 145) 55 = .ok (.bipush 9, 2) := by rw [cc_145]; decide +kernel
theorem D145_57 : decode (cod 145) 57 = .ok (.newarray .int, 2) := by rw [cc_145]; decide +kernel
theorem D145_59 : decode (cod 145) 59 = .ok (.putfield 28, 3) := by rw [cc_145]; decide +kernel
theorem D145_62 : decode (cod 145) 62 = .ok (.aload_n 0, 1) := by rw [cc_145]; decide +kernel
theorem D145_63 : decode (cod 145) 63 = .ok (.sipush 3200, 3) := by rw [cc_145]; decide +kernel
theorem D145_66 : decode (cod 145) 66 = .ok (.newarray .int, 2) := by rw [cc_145]; decide +kernel
theorem D145_68 : decode (cod 145) 68 = .ok (.putfield 31, 3) := by rw [cc_145]; decide +kernel
theorem D145_71 : decode (cod 145) 71 = .ok (.aload_n 0, 1) := by rw [cc_145]; decide +kernel
theorem D145_72 : decode (cod 145) 72 = .ok (.bipush 32, 2) := by rw [cc_145]; decide +kernel
theorem D145_74 : decode (cod 145) 74 = .ok (.newarray .int, 2) := by rw [cc_145]; decide +kernel
theorem D145_76 : decode (cod 145) 76 = .ok (.putfield 34, 3) := by rw [cc_145]; decide +kernel
theorem D145_79 : decode (cod 145) 79 = .ok (.aload_n 0, 1) := by rw [cc_145]; decide +kernel
theorem D145_80 : decode (cod 145) 80 = .ok (.bipush 32, 2) := by rw [cc_145]; decide +kernel
theorem D145_82 : decode (cod 145) 82 = .ok (.newarray .int, 2) := by rw [cc_145]; decide +kernel
theorem D145_84 : decode (cod 145) 84 = .ok (.putfield 37, 3) := by rw [cc_145]; decide +kernel
theorem D145_87 : decode (cod 145) 87 = .ok (.aload_n 0, 1) := by rw [cc_145]; decide +kernel
theorem D145_88 : decode (cod 145) 88 = .ok (.iconst 4, 1) := by rw [cc_145]; decide +kernel
theorem D145_89 : decode (cod 145) 89 = .ok (.newarray .int, 2) := by rw [cc_145]; decide +kernel
theorem D145_91 : decode (cod 145) 91 = .ok (.putfield 40, 3) := by rw [cc_145]; decide +kernel
theorem D145_94 : decode (cod 145) 94 = .ok (.aload_n 0, 1) := by rw [cc_145]; decide +kernel
theorem D145_95 : decode (cod 145) 95 = .ok (.sipush 800, 3) := by rw [cc_145]; decide +kernel
theorem D145_98 : decode (cod 145) 98 = .ok (.newarray .int, 2) := by rw [cc_145]; decide +kernel
theorem D145_100 : decode (cod 145) 100 = .ok (.putfield 43, 3) := by rw [cc_145]; decide +kernel
theorem D145_103 : decode (cod 145) 103 = .ok (.aload_n 0, 1) := by rw [cc_145]; decide +kernel
theorem D145_104 : decode (cod 145) 104 = .ok (.bipush 8, 2) := by rw [cc_145]; decide +kernel
theorem D145_106 : decode (cod 145) 106 = .ok (.newarray .int, 2) := by rw [cc_145]; decide +kernel
theorem D145_108 : decode (cod 145) 108 = .ok (.putfield 46, 3) := by rw [cc_145]; decide +kernel
theorem D145_111 : decode (cod 145) 111 = .ok (.aload_n 0, 1) := by rw [cc_145]; decide +kernel
theorem D145_112 : decode (cod 145) 112 = .ok (.bipush 8, 2) := by rw [cc_145]; decide +kernel
theorem D145_114 : decode (cod 145) 114 = .ok (.newarray .int, 2) := by rw [cc_145]; decide +kernel
theorem D145_116 : decode (cod 145) 116 = .ok (.putfield 49, 3) := by rw [cc_145]; decide +kernel
theorem D145_119 : decode (cod 145) 119 = .ok (.aload_n 0, 1) := by rw [cc_145]; decide +kernel
theorem D145_120 : decode (cod 145) 120 = .ok (.sipush 400, 3) := by rw [cc_145]; decide +kernel
theorem D145_123 : decode (cod 145) 123 = .ok (.newarray .int, 2) := by rw [cc_145]; decide +kernel
theorem D145_125 : decode (cod 145) 125 = .ok (.putfield 52, 3) := by rw [cc_145]; decide +kernel
theorem D145_128 : decode (cod 145) 128 = .ok (.aload_n 0, 1) := by rw [cc_145]; decide +kernel
theorem D145_129 : decode (cod 145) 129 = .ok (.sipush 420, 3) := by rw [cc_145]; decide +kernel
theorem D145_132 : decode (cod 145) 132 = .ok (.newarray .int, 2) := by rw [cc_145]; decide +kernel
theorem D145_134 : decode (cod 145) 134 = .ok (.putfield 55, 3) := by rw [cc_145]; decide +kernel
theorem D145_137 : decode (cod 145) 137 = .ok (.aload_n 0, 1) := by rw [cc_145]; decide +kernel
theorem D145_138 : decode (cod 145) 138 = .ok (.bipush 12, 2) := by rw [cc_145]; decide +kernel
theorem D145_140 : decode (cod 145) 140 = .ok (.newarray .int, 2) := by rw [cc_145]; decide +kernel
theorem D145_142 : decode (cod 145) 142 = .ok (.putfield 58, 3) := by rw [cc_145]; decide +kernel
theorem D145_145 : decode (cod 145) 145 = .ok (.aload_n 0, 1) := by rw [cc_145]; decide +kernel
theorem D145_146 : decode (cod 145) 146 = .ok (.bipush 12, 2) := by rw [cc_145]; decide +kernel
theorem D145_148 : decode (cod 145) 148 = .ok (.newarray .int, 2) := by rw [cc_145]; decide +kernel
theorem D145_150 : decode (cod 145) 150 = .ok (.putfield 61, 3) := by rw [cc_145]; decide +kernel
theorem D145_153 : decode (cod 145) 153 = .ok (.aload_n 0, 1) := by rw [cc_145]; decide +kernel
theorem D145_154 : decode (cod 145) 154 = .ok (.bipush 12, 2) := by rw [cc_145]; decide +kernel
theorem D145_156 : decode (cod 145) 156 = .ok (.newarray .int, 2) := by rw [cc_145]; decide +kernel
theorem D145_158 : decode (cod 145) 158 = .ok (.putfield 64, 3) := by rw [cc_145]; decide +kernel
theorem D145_161 : decode (cod 145) 161 = .ok (.aload_n 0, 1) := by rw [cc_145]; decide +kernel
theorem D145_162 : decode (cod 145) 162 = .ok (.bipush 12, 2) := by rw [cc_145]; decide +kernel
theorem D145_164 : decode (cod 145) 164 = .ok (.newarray .int, 2) := by rw [cc_145]; decide +kernel
theorem D145_166 : decode (cod 145) 166 = .ok (.putfield 67, 3) := by rw [cc_145]; decide +kernel
theorem D145_169 : decode (cod 145) 169 = .ok (.aload_n 0, 1) := by rw [cc_145]; decide +kernel
theorem D145_170 : decode (cod 145) 170 = .ok (.bipush 12, 2) := by rw [cc_145]; decide +kernel
theorem D145_172 : decode (cod 145) 172 = .ok (.newarray .int, 2) := by rw [cc_145]; decide +kernel
theorem D145_174 : decode (cod 145) 174 = .ok (.putfield 70, 3) := by rw [cc_145]; decide +kernel
theorem D145_177 : decode (cod 145) 177 = .ok (.aload_n 0, 1) := by rw [cc_145]; decide +kernel
theorem D145_178 : decode (cod 145) 178 = .ok (.bipush 12, 2) := by rw [cc_145]; decide +kernel
theorem D145_180 : decode (cod 145) 180 = .ok (.newarray .int, 2) := by rw [cc_145]; decide +kernel
theorem D145_182 : decode (cod 145) 182 = .ok (.putfield 73, 3) := by rw [cc_145]; decide +kernel
theorem D145_185 : decode (cod 145) 185 = .ok (.aload_n 0, 1) := by rw [cc_145]; decide +kernel
theorem D145_186 : decode (cod 145) 186 = .ok (.iconst 4, 1) := by rw [cc_145]; decide +kernel
theorem D145_187 : decode (cod 145) 187 = .ok (.newarray .boolean, 2) := by rw [cc_145]; decide +kernel
theorem D145_189 : decode (cod 145) 189 = .ok (.putfield 76, 3) := by rw [cc_145]; decide +kernel
theorem D145_192 : decode (cod 145) 192 = .ok (.aload_n 0, 1) := by rw [cc_145]; decide +kernel
theorem D145_193 : decode (cod 145) 193 = .ok (.iconst 4, 1) := by rw [cc_145]; decide +kernel
theorem D145_194 : decode (cod 145) 194 = .ok (.newarray .boolean, 2) := by rw [cc_145]; decide +kernel
theorem D145_196 : decode (cod 145) 196 = .ok (.putfield 80, 3) := by rw [cc_145]; decide +kernel
theorem D145_199 : decode (cod 145) 199 = .ok (.aload_n 0, 1) := by rw [cc_145]; decide +kernel
theorem D145_200 : decode (cod 145) 200 = .ok (.iconst 4, 1) := by rw [cc_145]; decide +kernel
theorem D145_201 : decode (cod 145) 201 = .ok (.newarray .int, 2) := by rw [cc_145]; decide +kernel
theorem D145_203 : decode (cod 145) 203 = .ok (.dup, 1) := by rw [cc_145]; decide +kernel
theorem D145_204 : decode (cod 145) 204 = .ok (.iconst 0, 1) := by rw [cc_145]; decide +kernel
theorem D145_205 : decode (cod 145) 205 = .ok (.iconst (-1), 1) := by rw [cc_145]; decide +kernel
theorem D145_206 : decode (cod 145) 206 = .ok (.iastore, 1) := by rw [cc_145]; decide +kernel
theorem D145_207 : decode (cod 145) 207 = .ok (.dup, 1) := by rw [cc_145]; decide +kernel
theorem D145_208 : decode (cod 145) 208 = .ok (.iconst 1, 1) := by rw [cc_145]; decide +kernel
theorem D145_209 : decode (cod 145) 209 = .ok (.iconst (-1), 1) := by rw [cc_145]; decide +kernel
theorem D145_210 : decode (cod 145) 210 = .ok (.iastore, 1) := by rw [cc_145]; decide +kernel
theorem D145_211 : decode (cod 145) 211 = .ok (.dup, 1) := by rw [cc_145]; decide +kernel
theorem D145_212 : decode (cod 145) 212 = .ok (.iconst 2, 1) := by rw [cc_145]; decide +kernel
theorem D145_213 : decode (cod 145) 213 = .ok (.iconst (-1), 1) := by rw [cc_145]; decide +kernel
theorem D145_214 : decode (cod 145) 214 = .ok (.iastore, 1) := by rw [cc_145]; decide +kernel
theorem D145_215 : decode (cod 145) 215 = .ok (.dup, 1) := by rw [cc_145]; decide +kernel
theorem D145_216 : decode (cod 145) 216 = .ok (.iconst 3, 1) := by rw [cc_145]; decide +kernel
theorem D145_217 : decode (cod 145) 217 = .ok (.iconst (-1), 1) := by rw [cc_145]; decide +kernel
theorem D145_218 : decode (cod 145) 218 = .ok (.iastore, 1) := by rw [cc_145]; decide +kernel
theorem D145_219 : decode (cod 145) 219 = .ok (.putfield 83, 3) := by rw [cc_145]; decide +kernel
theorem D145_222 : decode (cod 145) 222 = .ok (.aload_n 0, 1) := by rw [cc_145]; decide +kernel
theorem D145_223 : decode (cod 145) 223 = .ok (.iconst 4, 1) := by rw [cc_145]; decide +kernel
theorem D145_224 : decode (cod 145) 224 = .ok (.newarray .int, 2) := by rw [cc_145]; decide +kernel
theorem D145_226 : decode (cod 145) 226 = .ok (.dup, 1) := by rw [cc_145]; decide +kernel
theorem D145_227 : decode (cod 145) 227 = .ok (.iconst 0, 1) := by rw [cc_145]; decide +kernel
theorem D145_228 : decode (cod 145) 228 = .ok (.iconst (-1), 1) := by rw [cc_145]; decide +kernel
theorem D145_229 : decode (cod 145) 229 = .ok (.iastore, 1) := by rw [cc_145]; decide +kernel
theorem D145_230 : decode (cod 145) 230 = .ok (.dup, 1) := by rw [cc_145]; decide +kernel
theorem D145_231 : decode (cod 145) 231 = .ok (.iconst 1, 1) := by rw [cc_145]; decide +kernel
theorem D145_232 : decode (cod 145) 232 = .ok (.iconst (-1), 1) := by rw [cc_145]; decide +kernel
theorem D145_233 : decode (cod 145) 233 = .ok (.iastore, 1) := by rw [cc_145]; decide +kernel
theorem D145_234 : decode (cod 145) 234 = .ok (.dup, 1) := by rw [cc_145]; decide +kernel
theorem D145_235 : decode (cod 145) 235 = .ok (.iconst 2, 1) := by rw [cc_145]; decide +kernel
theorem D145_236 : decode (cod 145) 236 = .ok (.iconst (-1), 1) := by rw [cc_145]; decide +kernel
theorem D145_237 : decode (cod 145) 237 = .ok (.iastore, 1) := by rw [cc_145]; decide +kernel
theorem D145_238 : decode (cod 145) 238 = .ok (.dup, 1) := by rw [cc_145]; decide +kernel
theorem D145_239 : decode (cod 145) 239 = .ok (.iconst 3, 1) := by rw [cc_145]; decide +kernel
theorem D145_240 : decode (cod 145) 240 = .ok (.iconst (-1), 1) := by rw [cc_145]; decide +kernel
theorem D145_241 : decode (cod 145) 241 = .ok (.iastore, 1) := by rw [cc_145]; decide +kernel
theorem D145_242 : decode (cod 145) 242 = .ok (.putfield 86, 3) := by rw [cc_145]; decide +kernel
theorem D145_245 : decode (cod 145) 245 = .ok (.aload_n 0, 1) := by rw [cc_145]; decide +kernel
theorem D145_246 : decode (cod 145) 246 = .ok (.iconst 4, 1) := by rw [cc_145]; decide +kernel
theorem D145_247 : decode (cod 145) 247 = .ok (.newarray .int, 2) := by rw [cc_145]; decide +kernel
theorem D145_249 : decode (cod 145) 249 = .ok (.putfield 89, 3) := by rw [cc_145]; decide +kernel
theorem D145_252 : decode (cod 145) 252 = .ok (.aload_n 0, 1) := by rw [cc_145]; decide +kernel
theorem D145_253 : decode (cod 145) 253 = .ok (.iconst (-1), 1) := by rw [cc_145]; decide +kernel
theorem D145_254 : decode (cod 145) 254 = .ok (.putfield 92, 3) := by rw [cc_145]; decide +kernel
theorem D145_257 : decode (cod 145) 257 = .ok (.aload_n 0, 1) := by rw [cc_145]; decide +kernel
theorem D145_258 : decode (cod 145) 258 = .ok (.bipush 11, 2) := by rw [cc_145]; decide +kernel
theorem D145_260 : decode (cod 145) 260 = .ok (.newarray .int, 2) := by rw [cc_145]; decide +kernel
theorem D145_262 : decode (cod 145) 262 = .ok (.putfield 96, 3) := by rw [cc_145]; decide +kernel
theorem D145_265 : decode (cod 145) 265 = .ok (.aload_n 0, 1) := by rw [cc_145]; decide +kernel
theorem D145_266 : decode (cod 145) 266 = .ok (.bipush 16, 2) := by rw [cc_145]; decide +kernel
theorem D145_268 : decode (cod 145) 268 = .ok (.newarray .int, 2) := by rw [cc_145]; decide +kernel
theorem D145_270 : decode (cod 145) 270 = .ok (.putfield 99, 3) := by rw [cc_145]; decide +kernel
theorem D145_273 : decode (cod 145) 273 = .ok (.aload_n 0, 1) := by rw [cc_145]; decide +kernel
theorem D145_274 : decode (cod 145) 274 = .ok (.bipush 16, 2) := by rw [cc_145]; decide +kernel
theorem D145_276 : decode (cod 145) 276 = .ok (.newarray .int, 2) := by rw [cc_145]; decide +kernel
theorem D145_278 : decode (cod 145) 278 = .ok (.putfield 102, 3) := by rw [cc_145]; decide +kernel
theorem D145_281 : decode (cod 145) 281 = .ok (.aload_n 0, 1) := by rw [cc_145]; decide +kernel
theorem D145_282 : decode (cod 145) 282 = .ok (.bipush 10, 2) := by rw [cc_145]; decide +kernel
theorem D145_284 : decode (cod 145) 284 = .ok (.newarray .int, 2) := by rw [cc_145]; decide +kernel
theorem D145_286 : decode (cod 145) 286 = .ok (.putfield 105, 3) := by rw [cc_145]; decide +kernel
theorem D145_289 : decode (cod 145) 289 = .ok (.aload_n 0, 1) := by rw [cc_145]; decide +kernel
theorem D145_290 : decode (cod 145) 290 = .ok (.bipush 9, 2) := by rw [cc_145]; decide +kernel
theorem D145_292 : decode (cod 145) 292 = .ok (.newarray .int, 2) := by rw [cc_145]; decide +kernel
theorem D145_294 : decode (cod 145) 294 = .ok (.putfield 108, 3) := by rw [cc_145]; decide +kernel
theorem D145_297 : decode (cod 145) 297 = .ok (.aload_n 0, 1) := by rw [cc_145]; decide +kernel
theorem D145_298 : decode (cod 145) 298 = .ok (.bipush 20, 2) := by rw [cc_145]; decide +kernel
theorem D145_300 : decode (cod 145) 300 = .ok (.newarray .int, 2) := by rw [cc_145]; decide +kernel
theorem D145_302 : decode (cod 145) 302 = .ok (.putfield 111, 3) := by rw [cc_145]; decide +kernel
theorem D145_305 : decode (cod 145) 305 = .ok (.aload_n 0, 1) := by rw [cc_145]; decide +kernel
theorem D145_306 : decode (cod 145) 306 = .ok (.bipush 20, 2) := by rw [cc_145]; decide +kernel
theorem D145_308 : decode (cod 145) 308 = .ok (.newarray .int, 2) := by rw [cc_145]; decide +kernel
theorem D145_310 : decode (cod 145) 310 = .ok (.putfield 114, 3) := by rw [cc_145]; decide +kernel
theorem D145_313 : decode (cod 145) 313 = .ok (.aload_n 0, 1) := by rw [cc_145]; decide +kernel
theorem D145_314 : decode (cod 145) 314 = .ok (.bipush 20, 2) := by rw [cc_145]; decide +kernel
theorem D145_316 : decode (cod 145) 316 = .ok (.newarray .int, 2) := by rw [cc_145]; decide +kernel
theorem D145_318 : decode (cod 145) 318 = .ok (.putfield 117, 3) := by rw [cc_145]; decide +kernel
theorem D145_321 : decode (cod 145) 321 = .ok (.aload_n 0, 1) := by rw [cc_145]; decide +kernel
theorem D145_322 : decode (cod 145) 322 = .ok (.bipush 20, 2) := by rw [cc_145]; decide +kernel
theorem D145_324 : decode (cod 145) 324 = .ok (.newarray .int, 2) := by rw [cc_145]; decide +kernel
theorem D145_326 : decode (cod 145) 326 = .ok (.putfield 120, 3) := by rw [cc_145]; decide +kernel
theorem D145_329 : decode (cod 145) 329 = .ok (.aload_n 0, 1) := by rw [cc_145]; decide +kernel
theorem D145_330 : decode (cod 145) 330 = .ok (.bipush 20, 2) := by rw [cc_145]; decide +kernel
theorem D145_332 : decode (cod 145) 332 = .ok (.newarray .int, 2) := by rw [cc_145]; decide +kernel
theorem D145_334 : decode (cod 145) 334 = .ok (.putfield 123, 3) := by rw [cc_145]; decide +kernel
theorem D145_337 : decode (cod 145) 337 = .ok (.aload_n 0, 1) := by rw [cc_145]; decide +kernel
theorem D145_338 : decode (cod 145) 338 = .ok (.bipush 20, 2) := by rw [cc_145]; decide +kernel
theorem D145_340 : decode (cod 145) 340 = .ok (.newarray .int, 2) := by rw [cc_145]; decide +kernel
theorem D145_342 : decode (cod 145) 342 = .ok (.putfield 126, 3) := by rw [cc_145]; decide +kernel
theorem D145_345 : decode (cod 145) 345 = .ok (.aload_n 0, 1) := by rw [cc_145]; decide +kernel
theorem D145_346 : decode (cod 145) 346 = .ok (.bipush 20, 2) := by rw [cc_145]; decide +kernel
theorem D145_348 : decode (cod 145) 348 = .ok (.newarray .int, 2) := by rw [cc_145]; decide +kernel
theorem D145_350 : decode (cod 145) 350 = .ok (.putfield 129, 3) := by rw [cc_145]; decide +kernel
theorem D145_353 : decode (cod 145) 353 = .ok (.aload_n 0, 1) := by rw [cc_145]; decide +kernel
theorem D145_354 : decode (cod 145) 354 = .ok (.bipush 20, 2) := by rw [cc_145]; decide +kernel
theorem D145_356 : decode (cod 145) 356 = .ok (.newarray .int, 2) := by rw [cc_145]; decide +kernel
theorem D145_358 : decode (cod 145) 358 = .ok (.putfield 132, 3) := by rw [cc_145]; decide +kernel
theorem D145_361 : decode (cod 145) 361 = .ok (.aload_n 0, 1) := by rw [cc_145]; decide +kernel
theorem D145_362 : decode (cod 145) 362 = .ok (.sipush 320, 3) := by rw [cc_145]; decide +kernel
theorem D145_365 : decode (cod 145) 365 = .ok (.newarray .int, 2) := by rw [cc_145]; decide +kernel
theorem D145_367 : decode (cod 145) 367 = .ok (.putfield 135, 3) := by rw [cc_145]; decide +kernel
theorem D145_370 : decode (cod 145) 370 = .ok (.aload_n 0, 1) := by rw [cc_145]; decide +kernel
theorem D145_371 : decode (cod 145) 371 = .ok (.sipush 320, 3) := by rw [cc_145]; decide +kernel
theorem D145_374 : decode (cod 145) 374 = .ok (.newarray .int, 2) := by rw [cc_145]; decide +kernel
theorem D145_376 : decode (cod 145) 376 = .ok (.putfield 138, 3) := by rw [cc_145]; decide +kernel
theorem D145_379 : decode (cod 145) 379 = .ok (.aload_n 0, 1) := by rw [cc_145]; decide +kernel
theorem D145_380 : decode (cod 145) 380 = .ok (.sipush 1900, 3) := by rw [cc_145]; decide +kernel
theorem D145_383 : decode (cod 145) 383 = .ok (.newarray .int, 2) := by rw [cc_145]; decide +kernel
theorem D145_385 : decode (cod 145) 385 = .ok (.putfield 141, 3) := by rw [cc_145]; decide +kernel
theorem D145_388 : decode (cod 145) 388 = .ok (.aload_n 0, 1) := by rw [cc_145]; decide +kernel
theorem D145_389 : decode (cod 145) 389 = .ok (.sipush 1900, 3) := by rw [cc_145]; decide +kernel
theorem D145_392 : decode (cod 145) 392 = .ok (.newarray .int, 2) := by rw [cc_145]; decide +kernel
theorem D145_394 : decode (cod 145) 394 = .ok (.putfield 144, 3) := by rw [cc_145]; decide +kernel
theorem D145_397 : decode (cod 145) 397 = .ok (.aload_n 0, 1) := by rw [cc_145]; decide +kernel
theorem D145_398 : decode (cod 145) 398 = .ok (.sipush 1900, 3) := by rw [cc_145]; decide +kernel
theorem D145_401 : decode (cod 145) 401 = .ok (.newarray .int, 2) := by rw [cc_145]; decide +kernel
theorem D145_403 : decode (cod 145) 403 = .ok (.putfield 147, 3) := by rw [cc_145]; decide +kernel
theorem D145_406 : decode (cod 145) 406 = .ok (.aload_n 0, 1) := by rw [cc_145]; decide +kernel
theorem D145_407 : decode (cod 145) 407 = .ok (.bipush 20, 2) := by rw [cc_145]; decide +kernel
theorem D145_409 : decode (cod 145) 409 = .ok (.newarray .int, 2) := by rw [cc_145]; decide +kernel
theorem D145_411 : decode (cod 145) 411 = .ok (.putfield 150, 3) := by rw [cc_145]; decide +kernel
theorem D145_414 : decode (cod 145) 414 = .ok (.aload_n 0, 1) := by rw [cc_145]; decide +kernel
theorem D145_415 : decode (cod 145) 415 = .ok (.bipush 100, 2) := by rw [cc_145]; decide +kernel
theorem D145_417 : decode (cod 145) 417 = .ok (.newarray .int, 2) := by rw [cc_145]; decide +kernel
theorem D145_419 : decode (cod 145) 419 = .ok (.putfield 153, 3) := by rw [cc_145]; decide +kernel
theorem D145_422 : decode (cod 145) 422 = .ok (.aload_n 0, 1) := by rw [cc_145]; decide +kernel
theorem D145_423 : decode (cod 145) 423 = .ok (.bipush 100, 2) := by rw [cc_145]; decide +kernel
theorem D145_425 : decode (cod 145) 425 = .ok (.newarray .int, 2) := by rw [cc_145]; decide +kernel
theorem D145_427 : decode (cod 145) 427 = .ok (.putfield 156, 3) := by rw [cc_145]; decide +kernel
theorem D145_430 : decode (cod 145) 430 = .ok (.aload_n 0, 1) := by rw [cc_145]; decide +kernel
theorem D145_431 : decode (cod 145) 431 = .ok (.bipush 100, 2) := by rw [cc_145]; decide +kernel
theorem D145_433 : decode (cod 145) 433 = .ok (.newarray .int, 2) := by rw [cc_145]; decide +kernel
theorem D145_435 : decode (cod 145) 435 = .ok (.putfield 159, 3) := by rw [cc_145]; decide +kernel
theorem D145_438 : decode (cod 145) 438 = .ok (.aload_n 0, 1) := by rw [cc_145]; decide +kernel
theorem D145_439 : decode (cod 145) 439 = .ok (.bipush 100, 2) := by rw [cc_145]; decide +kernel
theorem D145_441 : decode (cod 145) 441 = .ok (.newarray .int, 2) := by rw [cc_145]; decide +kernel
theorem D145_443 : decode (cod 145) 443 = .ok (.putfield 162, 3) := by rw [cc_145]; decide +kernel
theorem D145_446 : decode (cod 145) 446 = .ok (.aload_n 0, 1) := by rw [cc_145]; decide +kernel
theorem D145_447 : decode (cod 145) 447 = .ok (.bipush 100, 2) := by rw [cc_145]; decide +kernel
theorem D145_449 : decode (cod 145) 449 = .ok (.newarray .int, 2) := by rw [cc_145]; decide +kernel
theorem D145_451 : decode (cod 145) 451 = .ok (.putfield 165, 3) := by rw [cc_145]; decide +kernel
theorem D145_454 : decode (cod 145) 454 = .ok (.aload_n 0, 1) := by rw [cc_145]; decide +kernel
theorem D145_455 : decode (cod 145) 455 = .ok (.bipush 100, 2) := by rw [cc_145]; decide +kernel
theorem D145_457 : decode (cod 145) 457 = .ok (.newarray .int, 2) := by rw [cc_145]; decide +kernel
theorem D145_459 : decode (cod 145) 459 = .ok (.putfield 168, 3) := by rw [cc_145]; decide +kernel
theorem D145_462 : decode (cod 145) 462 = .ok (.aload_n 0, 1) := by rw [cc_145]; decide +kernel
theorem D145_463 : decode (cod 145) 463 = .ok (.bipush 100, 2) := by rw [cc_145]; decide +kernel
theorem D145_465 : decode (cod 145) 465 = .ok (.newarray .int, 2) := by rw [cc_145]; decide +kernel
theorem D145_467 : decode (cod 145) 467 = .ok (.putfield 171, 3) := by rw [cc_145]; decide +kernel
theorem D145_470 : decode (cod 145) 470 = .ok (.aload_n 0, 1) := by rw [cc_145]; decide +kernel
theorem D145_471 : decode (cod 145) 471 = .ok (.bipush 100, 2) := by rw [cc_145]; decide +kernel
theorem D145_473 : decode (cod 145) 473 = .ok (.newarray .int, 2) := by rw [cc_145]; decide +kernel
theorem D145_475 : decode (cod 145) 475 = .ok (.putfield 174, 3) := by rw [cc_145]; decide +kernel
theorem D145_478 : decode (cod 145) 478 = .ok (.aload_n 0, 1) := by rw [cc_145]; decide +kernel
theorem D145_479 : decode (cod 145) 479 = .ok (.sipush 900, 3) := by rw [cc_145]; decide +kernel
theorem D145_482 : decode (cod 145) 482 = .ok (.newarray .int, 2) := by rw [cc_145]; decide +kernel
theorem D145_484 : decode (cod 145) 484 = .ok (.putfield 177, 3) := by rw [cc_145]; decide +kernel
theorem D145_487 : decode (cod 145) 487 = .ok (.aload_n 0, 1) := by rw [cc_145]; decide +kernel
theorem D145_488 : decode (cod 145) 488 = .ok (.bipush 100, 2) := by rw [cc_145]; decide +kernel
theorem D145_490 : decode (cod 145) 490 = .ok (.newarray .int, 2) := by rw [cc_145]; decide +kernel
theorem D145_492 : decode (cod 145) 492 = .ok (.putfield 180, 3) := by rw [cc_145]; decide +kernel
theorem D145_495 : decode (cod 145) 495 = .ok (.aload_n 0, 1) := by rw [cc_145]; decide +kernel
theorem D145_496 : decode (cod 145) 496 = .ok (.bipush 16, 2) := by rw [cc_145]; decide +kernel
theorem D145_498 : decode (cod 145) 498 = .ok (.newarray .int, 2) := by rw [cc_145]; decide +kernel
theorem D145_500 : decode (cod 145) 500 = .ok (.putfield 183, 3) := by rw [cc_145]; decide +kernel
theorem D145_503 : decode (cod 145) 503 = .ok (.aload_n 0, 1) := by rw [cc_145]; decide +kernel
theorem D145_504 : decode (cod 145) 504 = .ok (.bipush 40, 2) := by rw [cc_145]; decide +kernel
theorem D145_506 : decode (cod 145) 506 = .ok (.newarray .int, 2) := by rw [cc_145]; decide +kernel
theorem D145_508 : decode (cod 145) 508 = .ok (.putfield 186, 3) := by rw [cc_145]; decide +kernel
theorem D145_511 : decode (cod 145) 511 = .ok (.aload_n 0, 1) := by rw [cc_145]; decide +kernel
theorem D145_512 : decode (cod 145) 512 = .ok (.bipush 40, 2) := by rw [cc_145]; decide +kernel
theorem D145_514 : decode (cod 145) 514 = .ok (.newarray .int, 2) := by rw [cc_145]; decide +kernel
theorem D145_516 : decode (cod 145) 516 = .ok (.putfield 189, 3) := by rw [cc_145]; decide +kernel
theorem D145_519 : decode (cod 145) 519 = .ok (.aload_n 0, 1) := by rw [cc_145]; decide +kernel
theorem D145_520 : decode (cod 145) 520 = .ok (.bipush 40, 2) := by rw [cc_145]; decide +kernel
theorem D145_522 : decode (cod 145) 522 = .ok (.newarray .int, 2) := by rw [cc_145]; decide +kernel
theorem D145_524 : decode (cod 145) 524 = .ok (.putfield 192, 3) := by rw [cc_145]; decide +kernel
theorem D145_527 : decode (cod 145) 527 = .ok (.aload_n 0, 1) := by rw [cc_145]; decide +kernel
theorem D145_528 : decode (cod 145) 528 = .ok (.bipush 40, 2) := by rw [cc_145]; decide +kernel
theorem D145_530 : decode (cod 145) 530 = .ok (.newarray .int, 2) := by rw [cc_145]; decide +kernel
theorem D145_532 : decode (cod 145) 532 = .ok (.putfield 195, 3) := by rw [cc_145]; decide +kernel
theorem D145_535 : decode (cod 145) 535 = .ok (.aload_n 0, 1) := by rw [cc_145]; decide +kernel
theorem D145_536 : decode (cod 145) 536 = .ok (.bipush 40, 2) := by rw [cc_145]; decide +kernel
theorem D145_538 : decode (cod 145) 538 = .ok (.newarray .int, 2) := by rw [cc_145]; decide +kernel
theorem D145_540 : decode (cod 145) 540 = .ok (.putfield 198, 3) := by rw [cc_145]; decide +kernel
theorem D145_543 : decode (cod 145) 543 = .ok (.aload_n 0, 1) := by rw [cc_145]; decide +kernel
theorem D145_544 : decode (cod 145) 544 = .ok (.bipush 40, 2) := by rw [cc_145]; decide +kernel
theorem D145_546 : decode (cod 145) 546 = .ok (.newarray .int, 2) := by rw [cc_145]; decide +kernel
theorem D145_548 : decode (cod 145) 548 = .ok (.putfield 201, 3) := by rw [cc_145]; decide +kernel
theorem D145_551 : decode (cod 145) 551 = .ok (.aload_n 0, 1) := by rw [cc_145]; decide +kernel
theorem D145_552 : decode (cod 145) 552 = .ok (.bipush 40, 2) := by rw [cc_145]; decide +kernel
theorem D145_554 : decode (cod 145) 554 = .ok (.newarray .int, 2) := by rw [cc_145]; decide +kernel
theorem D145_556 : decode (cod 145) 556 = .ok (.putfield 204, 3) := by rw [cc_145]; decide +kernel
theorem D145_559 : decode (cod 145) 559 = .ok (.aload_n 0, 1) := by rw [cc_145]; decide +kernel
theorem D145_560 : decode (cod 145) 560 = .ok (.sipush 360, 3) := by rw [cc_145]; decide +kernel
theorem D145_563 : decode (cod 145) 563 = .ok (.newarray .int, 2) := by rw [cc_145]; decide +kernel
theorem D145_565 : decode (cod 145) 565 = .ok (.putfield 207, 3) := by rw [cc_145]; decide +kernel
theorem D145_568 : decode (cod 145) 568 = .ok (.aload_n 0, 1) := by rw [cc_145]; decide +kernel
theorem D145_569 : decode (cod 145) 569 = .ok (.bipush 40, 2) := by rw [cc_145]; decide +kernel
theorem D145_571 : decode (cod 145) 571 = .ok (.newarray .int, 2) := by rw [cc_145]; decide +kernel
theorem D145_573 : decode (cod 145) 573 = .ok (.putfield 210, 3) := by rw [cc_145]; decide +kernel
theorem D145_576 : decode (cod 145) 576 = .ok (.aload_n 0, 1) := by rw [cc_145]; decide +kernel
theorem D145_577 : decode (cod 145) 577 = .ok (.bipush 40, 2) := by rw [cc_145]; decide +kernel
theorem D145_579 : decode (cod 145) 579 = .ok (.newarray .int, 2) := by rw [cc_145]; decide +kernel
theorem D145_581 : decode (cod 145) 581 = .ok (.putfield 213, 3) := by rw [cc_145]; decide +kernel
theorem D145_584 : decode (cod 145) 584 = .ok (.iconst 0, 1) := by rw [cc_145]; decide +kernel
theorem D145_585 : decode (cod 145) 585 = .ok (.istore_n 1, 1) := by rw [cc_145]; decide +kernel
theorem D145_586 : decode (cod 145) 586 = .ok (.iload_n 1, 1) := by rw [cc_145]; decide +kernel
theorem D145_587 : decode (cod 145) 587 = .ok (.bipush 96, 2) := by rw [cc_145]; decide +kernel
theorem D145_589 : decode (cod 145) 589 = .ok (.if_icmp .ge 17, 3) := by rw [cc_145]; decide +kernel
theorem D145_592 : decode (cod 145) 592 = .ok (.aload_n 0, 1) := by rw [cc_145]; decide +kernel
theorem D145_593 : decode (cod 145) 593 = .ok (.getfield 19, 3) := by rw [cc_145]; decide +kernel
theorem D145_596 : decode (cod 145) 596 = .ok (.iload_n 1, 1) := by rw [cc_145]; decide +kernel
theorem D145_597 : decode (cod 145) 597 = .ok (.bipush 16, 2) := by rw [cc_145]; decide +kernel
theorem D145_599 : decode (cod 145) 599 = .ok (.iastore, 1) := by rw [cc_145]; decide +kernel
theorem D145_600 : decode (cod 145) 600 = .ok (.iinc 1 1, 3) := by rw [cc_145]; decide +kernel
theorem D145_603 : decode (cod 145) 603 = .ok (.goto (-17), 3) := by rw [cc_145]; decide +kernel
theorem D145_606 : decode (cod 145) 606 = .ok (.return_, 1) := by rw [cc_145]; decide +kernel
theorem N145_0 {d : Nat} {I L : H3} {W : WT}   : Cal (d + 1) 145 [vr 12 0] (cn I L W 954) = Res (d + 1) 145 137 [vr 12 0, vx] [] (cn I L (ws (ws (ws (ws (ws (ws (ws (ws (ws (ws (ws (ws (ws (ws (ws (ws W 12 0 5) 12 0 6) 12 0 7) 12 0 8) 12 0 9) 12 0 10) 12 0 11) 12 0 13) 12 0 14) 12 0 15) 12 0 16) 12 0 17) 12 0 18) 12 0 19) 12 0 20) 12 0 21) 970) :=
  show Res (d + 1) 145 0 [vr 12 0, vx] [] (cn I L W 954) = _ from Eq.trans (e_aload_n D145_0 rfl rfl) <| Eq.trans (c_obj (ne := 0) (w := 1109) D145_1 rfl rfl rfl rfl (by simp [cw])) <| Eq.trans (e_aload_n D145_4 rfl rfl) <| Eq.trans (e_sipush (x := 2112) D145_5 rfl rfl) <| Eq.trans (c_narr (n := 2112) (e := 0) (k' := 955) D145_8 rfl rfl (by decide) (by decide) rfl (by decide +kernel) rfl rfl) <| Eq.trans (c_putP (ne := 0) (w := 1115) D145_10 rfl rfl rfl (sh_12 _) rfl ⟨rfl, rfl, rfl⟩ (by decide) rfl) <| Eq.trans (e_aload_n D145_13 rfl rfl) <| Eq.trans (e_sipush (x := 132) D145_14 rfl rfl) <| Eq.trans (c_narr (n := 132) (e := 0) (k' := 956) D145_17 rfl rfl (by decide) (by decide) rfl (by decide +kernel) rfl rfl) <| Eq.trans (c_putP (ne := 0) (w := 1116) D145_19 rfl rfl rfl (sh_12 _) rfl ⟨rfl, rfl, rfl⟩ (by decide) rfl) <| Eq.trans (e_aload_n D145_22 rfl rfl) <| Eq.trans (e_bipush (x := 120) D145_23 rfl rfl) <| Eq.trans (c_narr (n := 120) (e := 0) (k' := 957) D145_25 rfl rfl (by decide) (by decide) rfl (by decide +kernel) rfl rfl) <| Eq.trans (c_putP (ne := 0) (w := 1117) D145_27 rfl rfl rfl (sh_12 _) rfl ⟨rfl, rfl, rfl⟩ (by decide) rfl) <| Eq.trans (e_aload_n D145_30 rfl rfl) <| Eq.trans (e_bipush (x := 96) D145_31 rfl rfl) <| Eq.trans (c_narr (n := 96) (e := 0) (k' := 958) D145_33 rfl rfl (by decide) (by decide) rfl (by decide +kernel) rfl rfl) <| Eq.trans (c_putP (ne := 0) (w := 1118) D145_35 rfl rfl rfl (sh_12 _) rfl ⟨rfl, rfl, rfl⟩ (by decide) rfl) <| Eq.trans (e_aload_n D145_38 rfl rfl) <| Eq.trans (e_bipush (x := 54) D145_39 rfl rfl) <| Eq.trans (c_narr (n := 54) (e := 0) (k' := 959) D145_41 rfl rfl (by decide) (by decide) rfl (by decide +kernel) rfl rfl) <| Eq.trans (c_putP (ne := 0) (w := 1119) D145_43 rfl rfl rfl (sh_12 _) rfl ⟨rfl, rfl, rfl⟩ (by decide) rfl) <| Eq.trans (e_aload_n D145_46 rfl rfl) <| Eq.trans (e_bipush (x := 6) D145_47 rfl rfl) <| Eq.trans (c_narr (n := 6) (e := 0) (k' := 960) D145_49 rfl rfl (by decide) (by decide) rfl (by decide +kernel) rfl rfl) <| Eq.trans (c_putP (ne := 0) (w := 1120) D145_51 rfl rfl rfl (sh_12 _) rfl ⟨rfl, rfl, rfl⟩ (by decide) rfl) <| Eq.trans (e_aload_n D145_54 rfl rfl) <| Eq.trans (e_bipush (x := 9) D145_55 rfl rfl) <| Eq.trans (c_narr (n := 9) (e := 0) (k' := 961) D145_57 rfl rfl (by decide) (by decide) rfl (by decide +kernel) rfl rfl) <| Eq.trans (c_putP (ne := 0) (w := 1121) D145_59 rfl rfl rfl (sh_12 _) rfl ⟨rfl, rfl, rfl⟩ (by decide) rfl) <| Eq.trans (e_aload_n D145_62 rfl rfl) <| Eq.trans (e_sipush (x := 3200) D145_63 rfl rfl) <| Eq.trans (c_narr (n := 3200) (e := 0) (k' := 962) D145_66 rfl rfl (by decide) (by decide) rfl (by decide +kernel) rfl rfl) <| Eq.trans (c_putP (ne := 0) (w := 1123) D145_68 rfl rfl rfl (sh_12 _) rfl ⟨rfl, rfl, rfl⟩ (by decide) rfl) <| Eq.trans (e_aload_n D145_71 rfl rfl) <| Eq.trans (e_bipush (x := 32) D145_72 rfl rfl) <| Eq.trans (c_narr (n := 32) (e := 0) (k' := 963) D145_74 rfl rfl (by decide) (by decide) rfl (by decide +kernel) rfl rfl) <| Eq.trans (c_putP (ne := 0) (w := 1124) D145_76 rfl rfl rfl (sh_12 _) rfl ⟨rfl, rfl, rfl⟩ (by decide) rfl) <| Eq.trans (e_aload_n D145_79 rfl rfl) <| Eq.trans (e_bipush (x := 32) D145_80 rfl rfl) <| Eq.trans (c_narr (n := 32) (e := 0) (k' := 964) D145_82 rfl rfl (by decide) (by decide) rfl (by decide +kernel) rfl rfl) <| Eq.trans (c_putP (ne := 0) (w := 1125) D145_84 rfl rfl rfl (sh_12 _) rfl ⟨rfl, rfl, rfl⟩ (by decide) rfl) <| Eq.trans (e_aload_n D145_87 rfl rfl) <| Eq.trans (e_iconst (x := 4) D145_88 rfl rfl) <| Eq.trans (c_narr (n := 4) (e := 0) (k' := 965) D145_89 rfl rfl (by decide) (by decide) rfl (by decide +kernel) rfl rfl) <| Eq.trans (c_putP (ne := 0) (w := 1126) D145_91 rfl rfl rfl (sh_12 _) rfl ⟨rfl, rfl, rfl⟩ (by decide) rfl) <| Eq.trans (e_aload_n D145_94 rfl rfl) <| Eq.trans (e_sipush (x := 800) D145_95 rfl rfl) <| Eq.trans (c_narr (n := 800) (e := 0) (k' := 966) D145_98 rfl rfl (by decide) (by decide) rfl (by decide +kernel) rfl rfl) <| Eq.trans (c_putP (ne := 0) (w := 1127) D145_100 rfl rfl rfl (sh_12 _) rfl ⟨rfl, rfl, rfl⟩ (by decide) rfl) <| Eq.trans (e_aload_n D145_103 rfl rfl) <| Eq.trans (e_bipush (x := 8) D145_104 rfl rfl) <| Eq.trans (c_narr (n := 8) (e := 0) (k' := 967) D145_106 rfl rfl (by decide) (by decide) rfl (by decide +kernel) rfl rfl) <| Eq.trans (c_putP (ne := 0) (w := 1128) D145_108 rfl rfl rfl (sh_12 _) rfl ⟨rfl, rfl, rfl⟩ (by decide) rfl) <| Eq.trans (e_aload_n D145_111 rfl rfl) <| Eq.trans (e_bipush (x := 8) D145_112 rfl rfl) <| Eq.trans (c_narr (n := 8) (e := 0) (k' := 968) D145_114 rfl rfl (by decide) (by decide) rfl (by decide +kernel) rfl rfl) <| Eq.trans (c_putP (ne := 0) (w := 1129) D145_116 rfl rfl rfl (sh_12 _) rfl ⟨rfl, rfl, rfl⟩ (by decide) rfl) <| Eq.trans (e_aload_n D145_119 rfl rfl) <| Eq.trans (e_sipush (x := 400) D145_120 rfl rfl) <| Eq.trans (c_narr (n := 400) (e := 0) (k' := 969) D145_123 rfl rfl (by decide) (by decide) rfl (by decide +kernel) rfl rfl) <| Eq.trans (c_putP (ne := 0) (w := 1130) D145_125 rfl rfl rfl (sh_12 _) rfl ⟨rfl, rfl, rfl⟩ (by decide) rfl) <| Eq.trans (e_aload_n D145_128 rfl rfl) <| Eq.trans (e_sipush (x := 420) D145_129 rfl rfl) <| Eq.trans (c_narr (n := 420) (e := 0) (k' := 970) D145_132 rfl rfl (by decide) (by decide) rfl (by decide +kernel) rfl rfl) <| c_putP (ne := 0) (w := 1131) D145_134 rfl rfl rfl (sh_12 _) rfl ⟨rfl, rfl, rfl⟩ (by decide) rfl
theorem N145_137 {d : Nat} {I L : H3} {W : WT}   : Res (d + 1) 145 137 [vr 12 0, vx] [] (cn I L W 970) = Res (d + 1) 145 252 [vr 12 0, vx] [] (cn (up3 (up3 (up3 (up3 (up3 (up3 (up3 (up3 I 72 0 0 ((-1))) 72 0 1 ((-1))) 72 0 2 ((-1))) 72 0 3 ((-1))) 73 0 0 ((-1))) 73 0 1 ((-1))) 73 0 2 ((-1))) 73 0 3 ((-1))) L (ws (ws (ws (ws (ws (ws (ws (ws (ws (ws (ws W 12 0 22) 12 0 23) 12 0 24) 12 0 25) 12 0 26) 12 0 27) 12 0 28) 12 0 29) 12 0 30) 12 0 31) 12 0 32) 981) :=
  Eq.trans (e_aload_n D145_137 rfl rfl) <| Eq.trans (e_bipush (x := 12) D145_138 rfl rfl) <| Eq.trans (c_narr (n := 12) (e := 0) (k' := 971) D145_140 rfl rfl (by decide) (by decide) rfl (by decide +kernel) rfl rfl) <| Eq.trans (c_putP (ne := 0) (w := 1132) D145_142 rfl rfl rfl (sh_12 _) rfl ⟨rfl, rfl, rfl⟩ (by decide) rfl) <| Eq.trans (e_aload_n D145_145 rfl rfl) <| Eq.trans (e_bipush (x := 12) D145_146 rfl rfl) <| Eq.trans (c_narr (n := 12) (e := 0) (k' := 972) D145_148 rfl rfl (by decide) (by decide) rfl (by decide +kernel) rfl rfl) <| Eq.trans (c_putP (ne := 0) (w := 1133) D145_150 rfl rfl rfl (sh_12 _) rfl ⟨rfl, rfl, rfl⟩ (by decide) rfl) <| Eq.trans (e_aload_n D145_153 rfl rfl) <| Eq.trans (e_bipush (x := 12) D145_154 rfl rfl) <| Eq.trans (c_narr (n := 12) (e := 0) (k' := 973) D145_156 rfl rfl (by decide) (by decide) rfl (by decide +kernel) rfl rfl) <| Eq.trans (c_putP (ne := 0) (w := 1134) D145_158 rfl rfl rfl (sh_12 _) rfl ⟨rfl, rfl, rfl⟩ (by decide) rfl) <| Eq.trans (e_aload_n D145_161 rfl rfl) <| Eq.trans (e_bipush (x := 12) D145_162 rfl rfl) <| Eq.trans (c_narr (n := 12) (e := 0) (k' := 974) D145_164 rfl rfl (by decide) (by decide) rfl (by decide +kernel) rfl rfl) <| Eq.trans (c_putP (ne := 0) (w := 1135) D145_166 rfl rfl rfl (sh_12 _) rfl ⟨rfl, rfl, rfl⟩ (by decide) rfl) <| Eq.trans (e_aload_n D145_169 rfl rfl) <| Eq.trans (e_bipush (x := 12) D145_170 rfl rfl) <| Eq.trans (c_narr (n := 12) (e := 0) (k' := 975) D145_172 rfl rfl (by decide) (by decide) rfl (by decide +kernel) rfl rfl) <| Eq.trans (c_putP (ne := 0) (w := 1136) D145_174 rfl rfl rfl (sh_12 _) rfl ⟨rfl, rfl, rfl⟩ (by decide) rfl) <| Eq.trans (e_aload_n D145_177 rfl rfl) <| Eq.trans (e_bipush (x := 12) D145_178 rfl rfl) <| Eq.trans (c_narr (n := 12) (e := 0) (k' := 976) D145_180 rfl rfl (by decide) (by decide) rfl (by decide +kernel) rfl rfl) <| Eq.trans (c_putP (ne := 0) (w := 1137) D145_182 rfl rfl rfl (sh_12 _) rfl ⟨rfl, rfl, rfl⟩ (by decide) rfl) <| Eq.trans (e_aload_n D145_185 rfl rfl) <| Eq.trans (e_iconst (x := 4) D145_186 rfl rfl) <| Eq.trans (c_narr (n := 4) (e := 2) (k' := 977) D145_187 rfl rfl (by decide) (by decide) rfl (by decide +kernel) rfl rfl) <| Eq.trans (c_putP (ne := 0) (w := 1138) D145_189 rfl rfl rfl (sh_12 _) rfl ⟨rfl, rfl, rfl⟩ (by decide) rfl) <| Eq.trans (e_aload_n D145_192 rfl rfl) <| Eq.trans (e_iconst (x := 4) D145_193 rfl rfl) <| Eq.trans (c_narr (n := 4) (e := 2) (k' := 978) D145_194 rfl rfl (by decide) (by decide) rfl (by decide +kernel) rfl rfl) <| Eq.trans (c_putP (ne := 0) (w := 1139) D145_196 rfl rfl rfl (sh_12 _) rfl ⟨rfl, rfl, rfl⟩ (by decide) rfl) <| Eq.trans (e_aload_n D145_199 rfl rfl) <| Eq.trans (e_iconst (x := 4) D145_200 rfl rfl) <| Eq.trans (c_narr (n := 4) (e := 0) (k' := 979) D145_201 rfl rfl (by decide) (by decide) rfl (by decide +kernel) rfl rfl) <| Eq.trans (e_dup D145_203 rfl) <| Eq.trans (e_iconst (x := 0) D145_204 rfl rfl) <| Eq.trans (e_iconst (x := -1) D145_205 rfl rfl) <| Eq.trans (c_iast (n := 4) D145_206 rfl rfl rfl (by decide)) <| Eq.trans (e_dup D145_207 rfl) <| Eq.trans (e_iconst (x := 1) D145_208 rfl rfl) <| Eq.trans (e_iconst (x := -1) D145_209 rfl rfl) <| Eq.trans (c_iast (n := 4) D145_210 rfl rfl rfl (by decide)) <| Eq.trans (e_dup D145_211 rfl) <| Eq.trans (e_iconst (x := 2) D145_212 rfl rfl) <| Eq.trans (e_iconst (x := -1) D145_213 rfl rfl) <| Eq.trans (c_iast (n := 4) D145_214 rfl rfl rfl (by decide)) <| Eq.trans (e_dup D145_215 rfl) <| Eq.trans (e_iconst (x := 3) D145_216 rfl rfl) <| Eq.trans (e_iconst (x := -1) D145_217 rfl rfl) <| Eq.trans (c_iast (n := 4) D145_218 rfl rfl rfl (by decide)) <| Eq.trans (c_putP (ne := 0) (w := 1140) D145_219 rfl rfl rfl (sh_12 _) rfl ⟨rfl, rfl, rfl⟩ (by decide) rfl) <| Eq.trans (e_aload_n D145_222 rfl rfl) <| Eq.trans (e_iconst (x := 4) D145_223 rfl rfl) <| Eq.trans (c_narr (n := 4) (e := 0) (k' := 980) D145_224 rfl rfl (by decide) (by decide) rfl (by decide +kernel) rfl rfl) <| Eq.trans (e_dup D145_226 rfl) <| Eq.trans (e_iconst (x := 0) D145_227 rfl rfl) <| Eq.trans (e_iconst (x := -1) D145_228 rfl rfl) <| Eq.trans (c_iast (n := 4) D145_229 rfl rfl rfl (by decide)) <| Eq.trans (e_dup D145_230 rfl) <| Eq.trans (e_iconst (x := 1) D145_231 rfl rfl) <| Eq.trans (e_iconst (x := -1) D145_232 rfl rfl) <| Eq.trans (c_iast (n := 4) D145_233 rfl rfl rfl (by decide)) <| Eq.trans (e_dup D145_234 rfl) <| Eq.trans (e_iconst (x := 2) D145_235 rfl rfl) <| Eq.trans (e_iconst (x := -1) D145_236 rfl rfl) <| Eq.trans (c_iast (n := 4) D145_237 rfl rfl rfl (by decide)) <| Eq.trans (e_dup D145_238 rfl) <| Eq.trans (e_iconst (x := 3) D145_239 rfl rfl) <| Eq.trans (e_iconst (x := -1) D145_240 rfl rfl) <| Eq.trans (c_iast (n := 4) D145_241 rfl rfl rfl (by decide)) <| Eq.trans (c_putP (ne := 0) (w := 1141) D145_242 rfl rfl rfl (sh_12 _) rfl ⟨rfl, rfl, rfl⟩ (by decide) rfl) <| Eq.trans (e_aload_n D145_245 rfl rfl) <| Eq.trans (e_iconst (x := 4) D145_246 rfl rfl) <| Eq.trans (c_narr (n := 4) (e := 0) (k' := 981) D145_247 rfl rfl (by decide) (by decide) rfl (by decide +kernel) rfl rfl) <| c_putP (ne := 0) (w := 1142) D145_249 rfl rfl rfl (sh_12 _) rfl ⟨rfl, rfl, rfl⟩ (by decide) rfl
theorem N145_252 {d : Nat} {I L : H3} {W : WT}   : Res (d + 1) 145 252 [vr 12 0, vx] [] (cn I L W 981) = Res (d + 1) 145 361 [vr 12 0, vx] [] (cn (up3 I 12 0 50 ((-1))) L (ws (ws (ws (ws (ws (ws (ws (ws (ws (ws (ws (ws (ws W 12 0 51) 12 0 52) 12 0 53) 12 0 56) 12 0 57) 12 0 58) 12 0 59) 12 0 60) 12 0 61) 12 0 62) 12 0 63) 12 0 64) 12 0 65) 994) :=
  Eq.trans (e_aload_n D145_252 rfl rfl) <| Eq.trans (e_iconst (x := -1) D145_253 rfl rfl) <| Eq.trans (c_putI (ne := 0) (w := 1160) D145_254 rfl rfl rfl (sh_12 _) rfl ⟨rfl, rfl, rfl⟩ (by decide)) <| Eq.trans (e_aload_n D145_257 rfl rfl) <| Eq.trans (e_bipush (x := 11) D145_258 rfl rfl) <| Eq.trans (c_narr (n := 11) (e := 0) (k' := 982) D145_260 rfl rfl (by decide) (by decide) rfl (by decide +kernel) rfl rfl) <| Eq.trans (c_putP (ne := 0) (w := 1161) D145_262 rfl rfl rfl (sh_12 _) rfl ⟨rfl, rfl, rfl⟩ (by decide) rfl) <| Eq.trans (e_aload_n D145_265 rfl rfl) <| Eq.trans (e_bipush (x := 16) D145_266 rfl rfl) <| Eq.trans (c_narr (n := 16) (e := 0) (k' := 983) D145_268 rfl rfl (by decide) (by decide) rfl (by decide +kernel) rfl rfl) <| Eq.trans (c_putP (ne := 0) (w := 1162) D145_270 rfl rfl rfl (sh_12 _) rfl ⟨rfl, rfl, rfl⟩ (by decide) rfl) <| Eq.trans (e_aload_n D145_273 rfl rfl) <| Eq.trans (e_bipush (x := 16) D145_274 rfl rfl) <| Eq.trans (c_narr (n := 16) (e := 0) (k' := 984) D145_276 rfl rfl (by decide) (by decide) rfl (by decide +kernel) rfl rfl) <| Eq.trans (c_putP (ne := 0) (w := 1163) D145_278 rfl rfl rfl (sh_12 _) rfl ⟨rfl, rfl, rfl⟩ (by decide) rfl) <| Eq.trans (e_aload_n D145_281 rfl rfl) <| Eq.trans (e_bipush (x := 10) D145_282 rfl rfl) <| Eq.trans (c_narr (n := 10) (e := 0) (k' := 985) D145_284 rfl rfl (by decide) (by decide) rfl (by decide +kernel) rfl rfl) <| Eq.trans (c_putP (ne := 0) (w := 1166) D145_286 rfl rfl rfl (sh_12 _) rfl ⟨rfl, rfl, rfl⟩ (by decide) rfl) <| Eq.trans (e_aload_n D145_289 rfl rfl) <| Eq.trans (e_bipush (x := 9) D145_290 rfl rfl) <| Eq.trans (c_narr (n := 9) (e := 0) (k' := 986) D145_292 rfl rfl (by decide) (by decide) rfl (by decide +kernel) rfl rfl) <| Eq.trans (c_putP (ne := 0) (w := 1167) D145_294 rfl rfl rfl (sh_12 _) rfl ⟨rfl, rfl, rfl⟩ (by decide) rfl) <| Eq.trans (e_aload_n D145_297 rfl rfl) <| Eq.trans (e_bipush (x := 20) D145_298 rfl rfl) <| Eq.trans (c_narr (n := 20) (e := 0) (k' := 987) D145_300 rfl rfl (by decide) (by decide) rfl (by decide +kernel) rfl rfl) <| Eq.trans (c_putP (ne := 0) (w := 1168) D145_302 rfl rfl rfl (sh_12 _) rfl ⟨rfl, rfl, rfl⟩ (by decide) rfl) <| Eq.trans (e_aload_n D145_305 rfl rfl) <| Eq.trans (e_bipush (x := 20) D145_306 rfl rfl) <| Eq.trans (c_narr (n := 20) (e := 0) (k' := 988) D145_308 rfl rfl (by decide) (by decide) rfl (by decide +kernel) rfl rfl) <| Eq.trans (c_putP (ne := 0) (w := 1169) D145_310 rfl rfl rfl (sh_12 _) rfl ⟨rfl, rfl, rfl⟩ (by decide) rfl) <| Eq.trans (e_aload_n D145_313 rfl rfl) <| Eq.trans (e_bipush (x := 20) D145_314 rfl rfl) <| Eq.trans (c_narr (n := 20) (e := 0) (k' := 989) D145_316 rfl rfl (by decide) (by decide) rfl (by decide +kernel) rfl rfl) <| Eq.trans (c_putP (ne := 0) (w := 1170) D145_318 rfl rfl rfl (sh_12 _) rfl ⟨rfl, rfl, rfl⟩ (by decide) rfl) <| Eq.trans (e_aload_n D145_321 rfl rfl) <| Eq.trans (e_bipush (x := 20) D145_322 rfl rfl) <| Eq.trans (c_narr (n := 20) (e := 0) (k' := 990) D145_324 rfl rfl (by decide) (by decide) rfl (by decide +kernel) rfl rfl) <| Eq.trans (c_putP (ne := 0) (w := 1171) D145_326 rfl rfl rfl (sh_12 _) rfl ⟨rfl, rfl, rfl⟩ (by decide) rfl) <| Eq.trans (e_aload_n D145_329 rfl rfl) <| Eq.trans (e_bipush (x := 20) D145_330 rfl rfl) <| Eq.trans (c_narr (n := 20) (e := 0) (k' := 991) D145_332 rfl rfl (by decide) (by decide) rfl (by decide +kernel) rfl rfl) <| Eq.trans (c_putP (ne := 0) (w := 1172) D145_334 rfl rfl rfl (sh_12 _) rfl ⟨rfl, rfl, rfl⟩ (by decide) rfl) <| Eq.trans (e_aload_n D145_337 rfl rfl) <| Eq.trans (e_bipush (x := 20) D145_338 rfl rfl) <| Eq.trans (c_narr (n := 20) (e := 0) (k' := 992) D145_340 rfl rfl (by decide) (by decide) rfl (by decide +kernel) rfl rfl) <| Eq.trans (c_putP (ne := 0) (w := 1173) D145_342 rfl rfl rfl (sh_12 _) rfl ⟨rfl, rfl, rfl⟩ (by decide) rfl) <| Eq.trans (e_aload_n D145_345 rfl rfl) <| Eq.trans (e_bipush (x := 20) D145_346 rfl rfl) <| Eq.trans (c_narr (n := 20) (e := 0) (k' := 993) D145_348 rfl rfl (by decide) (by decide) rfl (by decide +kernel) rfl rfl) <| Eq.trans (c_putP (ne := 0) (w := 1174) D145_350 rfl rfl rfl (sh_12 _) rfl ⟨rfl, rfl, rfl⟩ (by decide) rfl) <| Eq.trans (e_aload_n D145_353 rfl rfl) <| Eq.trans (e_bipush (x := 20) D145_354 rfl rfl) <| Eq.trans (c_narr (n := 20) (e := 0) (k' := 994) D145_356 rfl rfl (by decide) (by decide) rfl (by decide +kernel) rfl rfl) <| c_putP (ne := 0) (w := 1175) D145_358 rfl rfl rfl (sh_12 _) rfl ⟨rfl, rfl, rfl⟩ (by decide) rfl
theorem N145_361 {d : Nat} {I L : H3} {W : WT}   : Res (d + 1) 145 361 [vr 12 0, vx] [] (cn I L W 994) = Res (d + 1) 145 478 [vr 12 0, vx] [] (cn I L (ws (ws (ws (ws (ws (ws (ws (ws (ws (ws (ws (ws (ws (ws W 12 0 66) 12 0 67) 12 0 68) 12 0 69) 12 0 70) 12 0 71) 12 0 73) 12 0 74) 12 0 75) 12 0 76) 12 0 77) 12 0 78) 12 0 79) 12 0 80) 1008) :=
  Eq.trans (e_aload_n D145_361 rfl rfl) <| Eq.trans (e_sipush (x := 320) D145_362 rfl rfl) <| Eq.trans (c_narr (n := 320) (e := 0) (k' := 995) D145_365 rfl rfl (by decide) (by decide) rfl (by decide +kernel) rfl rfl) <| Eq.trans (c_putP (ne := 0) (w := 1176) D145_367 rfl rfl rfl (sh_12 _) rfl ⟨rfl, rfl, rfl⟩ (by decide) rfl) <| Eq.trans (e_aload_n D145_370 rfl rfl) <| Eq.trans (e_sipush (x := 320) D145_371 rfl rfl) <| Eq.trans (c_narr (n := 320) (e := 0) (k' := 996) D145_374 rfl rfl (by decide) (by decide) rfl (by decide +kernel) rfl rfl) <| Eq.trans (c_putP (ne := 0) (w := 1177) D145_376 rfl rfl rfl (sh_12 _) rfl ⟨rfl, rfl, rfl⟩ (by decide) rfl) <| Eq.trans (e_aload_n D145_379 rfl rfl) <| Eq.trans (e_sipush (x := 1900) D145_380 rfl rfl) <| Eq.trans (c_narr (n := 1900) (e := 0) (k' := 997) D145_383 rfl rfl (by decide) (by decide) rfl (by decide +kernel) rfl rfl) <| Eq.trans (c_putP (ne := 0) (w := 1178) D145_385 rfl rfl rfl (sh_12 _) rfl ⟨rfl, rfl, rfl⟩ (by decide) rfl) <| Eq.trans (e_aload_n D145_388 rfl rfl) <| Eq.trans (e_sipush (x := 1900) D145_389 rfl rfl) <| Eq.trans (c_narr (n := 1900) (e := 0) (k' := 998) D145_392 rfl rfl (by decide) (by decide) rfl (by decide +kernel) rfl rfl) <| Eq.trans (c_putP (ne := 0) (w := 1179) D145_394 rfl rfl rfl (sh_12 _) rfl ⟨rfl, rfl, rfl⟩ (by decide) rfl) <| Eq.trans (e_aload_n D145_397 rfl rfl) <| Eq.trans (e_sipush (x := 1900) D145_398 rfl rfl) <| Eq.trans (c_narr (n := 1900) (e := 0) (k' := 999) D145_401 rfl rfl (by decide) (by decide) rfl (by decide +kernel) rfl rfl) <| Eq.trans (c_putP (ne := 0) (w := 1180) D145_403 rfl rfl rfl (sh_12 _) rfl ⟨rfl, rfl, rfl⟩ (by decide) rfl) <| Eq.trans (e_aload_n D145_406 rfl rfl) <| Eq.trans (e_bipush (x := 20) D145_407 rfl rfl) <| Eq.trans (c_narr (n := 20) (e := 0) (k' := 1000) D145_409 rfl rfl (by decide) (by decide) rfl (by decide +kernel) rfl rfl) <| Eq.trans (c_putP (ne := 0) (w := 1181) D145_411 rfl rfl rfl (sh_12 _) rfl ⟨rfl, rfl, rfl⟩ (by decide) rfl) <| Eq.trans (e_aload_n D145_414 rfl rfl) <| Eq.trans (e_bipush (x := 100) D145_415 rfl rfl) <| Eq.trans (c_narr (n := 100) (e := 0) (k' := 1001) D145_417 rfl rfl (by decide) (by decide) rfl (by decide +kernel) rfl rfl) <| Eq.trans (c_putP (ne := 0) (w := 1183) D145_419 rfl rfl rfl (sh_12 _) rfl ⟨rfl, rfl, rfl⟩ (by decide) rfl) <| Eq.trans (e_aload_n D145_422 rfl rfl) <| Eq.trans (e_bipush (x := 100) D145_423 rfl rfl) <| Eq.trans (c_narr (n := 100) (e := 0) (k' := 1002) D145_425 rfl rfl (by decide) (by decide) rfl (by decide +kernel) rfl rfl) <| Eq.trans (c_putP (ne := 0) (w := 1184) D145_427 rfl rfl rfl (sh_12 _) rfl ⟨rfl, rfl, rfl⟩ (by decide) rfl) <| Eq.trans (e_aload_n D145_430 rfl rfl) <| Eq.trans (e_bipush (x := 100) D145_431 rfl rfl) <| Eq.trans (c_narr (n := 100) (e := 0) (k' := 1003) D145_433 rfl rfl (by decide) (by decide) rfl (by decide +kernel) rfl rfl) <| Eq.trans (c_putP (ne := 0) (w := 1185) D145_435 rfl rfl rfl (sh_12 _) rfl ⟨rfl, rfl, rfl⟩ (by decide) rfl) <| Eq.trans (e_aload_n D145_438 rfl rfl) <| Eq.trans (e_bipush (x := 100) D145_439 rfl rfl) <| Eq.trans (c_narr (n := 100) (e := 0) (k' := 1004) D145_441 rfl rfl (by decide) (by decide) rfl (by decide +kernel) rfl rfl) <| Eq.trans (c_putP (ne := 0) (w := 1186) D145_443 rfl rfl rfl (sh_12 _) rfl ⟨rfl, rfl, rfl⟩ (by decide) rfl) <| Eq.trans (e_aload_n D145_446 rfl rfl) <| Eq.trans (e_bipush (x := 100) D145_447 rfl rfl) <| Eq.trans (c_narr (n := 100) (e := 0) (k' := 1005) D145_449 rfl rfl (by decide) (by decide) rfl (by decide +kernel) rfl rfl) <| Eq.trans (c_putP (ne := 0) (w := 1187) D145_451 rfl rfl rfl (sh_12 _) rfl ⟨rfl, rfl, rfl⟩ (by decide) rfl) <| Eq.trans (e_aload_n D145_454 rfl rfl) <| Eq.trans (e_bipush (x := 100) D145_455 rfl rfl) <| Eq.trans (c_narr (n := 100) (e := 0) (k' := 1006) D145_457 rfl rfl (by decide) (by decide) rfl (by decide +kernel) rfl rfl) <| Eq.trans (c_putP (ne := 0) (w := 1188) D145_459 rfl rfl rfl (sh_12 _) rfl ⟨rfl, rfl, rfl⟩ (by decide) rfl) <| Eq.trans (e_aload_n D145_462 rfl rfl) <| Eq.trans (e_bipush (x := 100) D145_463 rfl rfl) <| Eq.trans (c_narr (n := 100) (e := 0) (k' := 1007) D145_465 rfl rfl (by decide) (by decide) rfl (by decide +kernel) rfl rfl) <| Eq.trans (c_putP (ne := 0) (w := 1189) D145_467 rfl rfl rfl (sh_12 _) rfl ⟨rfl, rfl, rfl⟩ (by decide) rfl) <| Eq.trans (e_aload_n D145_470 rfl rfl) <| Eq.trans (e_bipush (x := 100) D145_471 rfl rfl) <| Eq.trans (c_narr (n := 100) (e := 0) (k' := 1008) D145_473 rfl rfl (by decide) (by decide) rfl (by decide +kernel) rfl rfl) <| c_putP (ne := 0) (w := 1190) D145_475 rfl rfl rfl (sh_12 _) rfl ⟨rfl, rfl, rfl⟩ (by decide) rfl
theorem N145_478 {d : Nat} {I L : H3} {W : WT}   : Res (d + 1) 145 478 [vr 12 0, vx] [] (cn I L W 1008) = Res (d + 1) 145 586 [vr 12 0, vi 0] [] (cn I L (ws (ws (ws (ws (ws (ws (ws (ws (ws (ws (ws (ws (ws W 12 0 81) 12 0 82) 12 0 83) 12 0 84) 12 0 85) 12 0 86) 12 0 87) 12 0 88) 12 0 89) 12 0 90) 12 0 91) 12 0 92) 12 0 93) 1021) :=
  Eq.trans (e_aload_n D145_478 rfl rfl) <| Eq.trans (e_sipush (x := 900) D145_479 rfl rfl) <| Eq.trans (c_narr (n := 900) (e := 0) (k' := 1009) D145_482 rfl rfl (by decide) (by decide) rfl (by decide +kernel) rfl rfl) <| Eq.trans (c_putP (ne := 0) (w := 1191) D145_484 rfl rfl rfl (sh_12 _) rfl ⟨rfl, rfl, rfl⟩ (by decide) rfl) <| Eq.trans (e_aload_n D145_487 rfl rfl) <| Eq.trans (e_bipush (x := 100) D145_488 rfl rfl) <| Eq.trans (c_narr (n := 100) (e := 0) (k' := 1010) D145_490 rfl rfl (by decide) (by decide) rfl (by decide +kernel) rfl rfl) <| Eq.trans (c_putP (ne := 0) (w := 1192) D145_492 rfl rfl rfl (sh_12 _) rfl ⟨rfl, rfl, rfl⟩ (by decide) rfl) <| Eq.trans (e_aload_n D145_495 rfl rfl) <| Eq.trans (e_bipush (x := 16) D145_496 rfl rfl) <| Eq.trans (c_narr (n := 16) (e := 0) (k' := 1011) D145_498 rfl rfl (by decide) (by decide) rfl (by decide +kernel) rfl rfl) <| Eq.trans (c_putP (ne := 0) (w := 1193) D145_500 rfl rfl rfl (sh_12 _) rfl ⟨rfl, rfl, rfl⟩ (by decide) rfl) <| Eq.trans (e_aload_n D145_503 rfl rfl) <| Eq.trans (e_bipush (x := 40) D145_504 rfl rfl) <| Eq.trans (c_narr (n := 40) (e := 0) (k' := 1012) D145_506 rfl rfl (by decide) (by decide) rfl (by decide +kernel) rfl rfl) <| Eq.trans (c_putP (ne := 0) (w := 1194) D145_508 rfl rfl rfl (sh_12 _) rfl ⟨rfl, rfl, rfl⟩ (by decide) rfl) <| Eq.trans (e_aload_n D145_511 rfl rfl) <| Eq.trans (e_bipush (x := 40) D145_512 rfl rfl) <| Eq.trans (c_narr (n := 40) (e := 0) (k' := 1013) D145_514 rfl rfl (by decide) (by decide) rfl (by decide +kernel) rfl rfl) <| Eq.trans (c_putP (ne := 0) (w := 1195) D145_516 rfl rfl rfl (sh_12 _) rfl ⟨rfl, rfl, rfl⟩ (by decide) rfl) <| Eq.trans (e_aload_n D145_519 rfl rfl) <| Eq.trans (e_bipush (x := 40) D145_520 rfl rfl) <| Eq.trans (c_narr (n := 40) (e := 0) (k' := 1014) D145_522 rfl rfl (by decide) (by decide) rfl (by decide +kernel) rfl rfl) <| Eq.trans (c_putP (ne := 0) (w := 1196) D145_524 rfl rfl rfl (sh_12 _) rfl ⟨rfl, rfl, rfl⟩ (by decide) rfl) <| Eq.trans (e_aload_n D145_527 rfl rfl) <| Eq.trans (e_bipush (x := 40) D145_528 rfl rfl) <| Eq.trans (c_narr (n := 40) (e := 0) (k' := 1015) D145_530 rfl rfl (by decide) (by decide) rfl (by decide +kernel) rfl rfl) <| Eq.trans (c_putP (ne := 0) (w := 1197) D145_532 rfl rfl rfl (sh_12 _) rfl ⟨rfl, rfl, rfl⟩ (by decide) rfl) <| Eq.trans (e_aload_n D145_535 rfl rfl) <| Eq.trans (e_bipush (x := 40) D145_536 rfl rfl) <| Eq.trans (c_narr (n := 40) (e := 0) (k' := 1016) D145_538 rfl rfl (by decide) (by decide) rfl (by decide +kernel) rfl rfl) <| Eq.trans (c_putP (ne := 0) (w := 1198) D145_540 rfl rfl rfl (sh_12 _) rfl ⟨rfl, rfl, rfl⟩ (by decide) rfl) <| Eq.trans (e_aload_n D145_543 rfl rfl) <| Eq.trans (e_bipush (x := 40) D145_544 rfl rfl) <| Eq.trans (c_narr (n := 40) (e := 0) (k' := 1017) D145_546 rfl rfl (by decide) (by decide) rfl (by decide +kernel) rfl rfl) <| Eq.trans (c_putP (ne := 0) (w := 1199) D145_548 rfl rfl rfl (sh_12 _) rfl ⟨rfl, rfl, rfl⟩ (by decide) rfl) <| Eq.trans (e_aload_n D145_551 rfl rfl) <| Eq.trans (e_bipush (x := 40) D145_552 rfl rfl) <| Eq.trans (c_narr (n := 40) (e := 0) (k' := 1018) D145_554 rfl rfl (by decide) (by decide) rfl (by decide +kernel) rfl rfl) <| Eq.trans (c_putP (ne := 0) (w := 1200) D145_556 rfl rfl rfl (sh_12 _) rfl ⟨rfl, rfl, rfl⟩ (by decide) rfl) <| Eq.trans (e_aload_n D145_559 rfl rfl) <| Eq.trans (e_sipush (x := 360) D145_560 rfl rfl) <| Eq.trans (c_narr (n := 360) (e := 0) (k' := 1019) D145_563 rfl rfl (by decide) (by decide) rfl (by decide +kernel) rfl rfl) <| Eq.trans (c_putP (ne := 0) (w := 1201) D145_565 rfl rfl rfl (sh_12 _) rfl ⟨rfl, rfl, rfl⟩ (by decide) rfl) <| Eq.trans (e_aload_n D145_568 rfl rfl) <| Eq.trans (e_bipush (x := 40) D145_569 rfl rfl) <| Eq.trans (c_narr (n := 40) (e := 0) (k' := 1020) D145_571 rfl rfl (by decide) (by decide) rfl (by decide +kernel) rfl rfl) <| Eq.trans (c_putP (ne := 0) (w := 1202) D145_573 rfl rfl rfl (sh_12 _) rfl ⟨rfl, rfl, rfl⟩ (by decide) rfl) <| Eq.trans (e_aload_n D145_576 rfl rfl) <| Eq.trans (e_bipush (x := 40) D145_577 rfl rfl) <| Eq.trans (c_narr (n := 40) (e := 0) (k' := 1021) D145_579 rfl rfl (by decide) (by decide) rfl (by decide +kernel) rfl rfl) <| Eq.trans (c_putP (ne := 0) (w := 1203) D145_581 rfl rfl rfl (sh_12 _) rfl ⟨rfl, rfl, rfl⟩ (by decide) rfl) <| Eq.trans (e_iconst (x := 0) D145_584 rfl rfl) <| e_istore_n (ls1 := [vr 12 0, vi 0]) D145_585 rfl (show 1 < 2 by decide) rfl
theorem N145_586 {d j k : Nat} {I L : H3} {W : WT}  (hx : ¬ 96 ≤ (j : Int)) (w12_8 : W 12 0 8 = true) (hj : j < 96) : Res (d + 1) 145 586 [vr 12 0, vi ((j : Int))] [] (cn I L W k) = Res (d + 1) 145 586 [vr 12 0, vi (w32 ((j : Int) + 1))] [] (cn (up3 I 51 0 ((j : Int)).toNat 16) L W k) :=
  Eq.trans (e_iload_n D145_586 rfl rfl) <| Eq.trans (e_bipush (x := 96) D145_587 rfl rfl) <| Eq.trans (c_icge (q1 := 606) D145_589 rfl rfl hx) <| Eq.trans (e_aload_n D145_592 rfl rfl) <| Eq.trans (c_getP (ne := 0) (w := 1118) (p := (51, 0)) D145_593 rfl rfl rfl (sh_12 _) (by decide) w12_8 rfl) <| Eq.trans (e_iload_n D145_596 rfl rfl) <| Eq.trans (e_bipush (x := 16) D145_597 rfl rfl) <| Eq.trans (c_iast (n := 96) D145_599 rfl rfl rfl (by omega)) <| Eq.trans (e_iinc (ls1 := [vr 12 0, vi (w32 ((j : Int) + 1))]) D145_600 rfl rfl rfl) <| e_goto (q1 := 586) D145_603 rfl
theorem N145_586x {d j k : Nat} {I L : H3} {W : WT}  (hx : 96 ≤ (j : Int)) : Res (d + 1) 145 586 [vr 12 0, vi ((j : Int))] [] (cn I L W k) = some (vx, (cn I L W k)) :=
  Eq.trans (e_iload_n D145_586 rfl rfl) <| Eq.trans (e_bipush (x := 96) D145_587 rfl rfl) <| Eq.trans (c_icge' (q1 := 606) D145_589 rfl rfl hx) <| e_vret D145_606 rfl
