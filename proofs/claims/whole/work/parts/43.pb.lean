/-! path equations (printed by wip/whole/genpath.py) -/
/-! x_isFace -/
theorem P104_0_0 {d : Nat} {x1 : Int} {I L : Nat → Nat → Nat → Int} {t : Nat → Nat} (h1 : ¬ (0 ≤ x1 ∧ x1 ≤ (w32 ((I 11 0 10) - 1)))) : Cal (d + 1) 104 [vr 11 0, vi x1] (mk I L t) = some (vi 0, mk I L t) :=
  Eq.trans (show _ = Res (d + 1) 104 0 [vr 11 0, vi x1] [] (mk I L t) from rfl) <| Eq.trans (b104_0) <| Eq.trans (calb (kF102 h1) rfl) <| b104_11 (by decide)
theorem P104_0_1 {d : Nat} {x1 : Int} {I L : Nat → Nat → Nat → Int} {t : Nat → Nat} (h1 : 0 ≤ x1 ∧ x1 ≤ (w32 ((I 11 0 10) - 1))) : Cal (d + 1) 104 [vr 11 0, vi x1] (mk I L t) = some (vi 1, mk I L t) :=
  Eq.trans (show _ = Res (d + 1) 104 0 [vr 11 0, vi x1] [] (mk I L t) from rfl) <| Eq.trans (b104_0) <| Eq.trans (calb (kT102 h1) rfl) <| b104_11 (by decide)
/-! x_isRow -/
theorem P105_0_0 {d : Nat} {x1 : Int} {I L : Nat → Nat → Nat → Int} {t : Nat → Nat} (h1 : ¬ (0 ≤ x1 ∧ x1 ≤ 5)) : Cal (d + 1) 105 [vr 11 0, vi x1] (mk I L t) = some (vi 0, mk I L t) :=
  Eq.trans (show _ = Res (d + 1) 105 0 [vr 11 0, vi x1] [] (mk I L t) from rfl) <| Eq.trans (b105_0) <| Eq.trans (calb (kF102 h1) rfl) <| b105_6 (by decide)
theorem P105_0_1 {d : Nat} {x1 : Int} {I L : Nat → Nat → Nat → Int} {t : Nat → Nat} (h1 : 0 ≤ x1 ∧ x1 ≤ 5) : Cal (d + 1) 105 [vr 11 0, vi x1] (mk I L t) = some (vi 1, mk I L t) :=
  Eq.trans (show _ = Res (d + 1) 105 0 [vr 11 0, vi x1] [] (mk I L t) from rfl) <| Eq.trans (b105_0) <| Eq.trans (calb (kT102 h1) rfl) <| b105_6 (by decide)
/-! x_isMind -/
theorem P106_0_0 {d : Nat} {x1 : Int} {I L : Nat → Nat → Nat → Int} {t : Nat → Nat} (h1 : ¬ (0 ≤ x1 ∧ x1 ≤ (w32 ((I 11 0 12) - 1)))) : Cal (d + 1) 106 [vr 11 0, vi x1] (mk I L t) = some (vi 0, mk I L t) :=
  Eq.trans (show _ = Res (d + 1) 106 0 [vr 11 0, vi x1] [] (mk I L t) from rfl) <| Eq.trans (b106_0) <| Eq.trans (calb (kF102 h1) rfl) <| b106_11 (by decide)
theorem P106_0_1 {d : Nat} {x1 : Int} {I L : Nat → Nat → Nat → Int} {t : Nat → Nat} (h1 : 0 ≤ x1 ∧ x1 ≤ (w32 ((I 11 0 12) - 1))) : Cal (d + 1) 106 [vr 11 0, vi x1] (mk I L t) = some (vi 1, mk I L t) :=
  Eq.trans (show _ = Res (d + 1) 106 0 [vr 11 0, vi x1] [] (mk I L t) from rfl) <| Eq.trans (b106_0) <| Eq.trans (calb (kT102 h1) rfl) <| b106_11 (by decide)
/-! x_isShowing -/
theorem P107_0_0 {d : Nat} {x1 : Int} {I L : Nat → Nat → Nat → Int} {t : Nat → Nat} (h1 : ¬ (0 ≤ x1 ∧ x1 ≤ (w32 ((I 11 0 13) - 1)))) : Cal (d + 1) 107 [vr 11 0, vi x1] (mk I L t) = some (vi 0, mk I L t) :=
  Eq.trans (show _ = Res (d + 1) 107 0 [vr 11 0, vi x1] [] (mk I L t) from rfl) <| Eq.trans (b107_0) <| Eq.trans (calb (kF102 h1) rfl) <| b107_11 (by decide)
theorem P107_0_1 {d : Nat} {x1 : Int} {I L : Nat → Nat → Nat → Int} {t : Nat → Nat} (h1 : 0 ≤ x1 ∧ x1 ≤ (w32 ((I 11 0 13) - 1))) : Cal (d + 1) 107 [vr 11 0, vi x1] (mk I L t) = some (vi 1, mk I L t) :=
  Eq.trans (show _ = Res (d + 1) 107 0 [vr 11 0, vi x1] [] (mk I L t) from rfl) <| Eq.trans (b107_0) <| Eq.trans (calb (kT102 h1) rfl) <| b107_11 (by decide)
/-! Row_has -/
theorem P25_0_0 {d : Nat} {i0 : Nat} {x1 : Int} {I L : Nat → Nat → Nat → Int} {t : Nat → Nat} (h1 : 0 ≤ x1) (h2 : x1 < I 4 i0 1) : Cal d 25 [vr 4 i0, vi x1] (mk I L t) = some (vi 1, mk I L t) :=
  Eq.trans (show _ = Res d 25 0 [vr 4 i0, vi x1] [] (mk I L t) from rfl) <| Eq.trans (b25_0) <| Eq.trans (if_neg (Int.not_lt.mpr h1)) <| Eq.trans (b25_4) <| Eq.trans (if_neg (Int.not_le.mpr h2)) <| Eq.trans (b25_12) <| b25_17 (by decide)
theorem P25_0_1 {d : Nat} {i0 : Nat} {x1 : Int} {I L : Nat → Nat → Nat → Int} {t : Nat → Nat} (h1 : 0 ≤ x1) (h2 : I 4 i0 1 ≤ x1) : Cal d 25 [vr 4 i0, vi x1] (mk I L t) = some (vi 0, mk I L t) :=
  Eq.trans (show _ = Res d 25 0 [vr 4 i0, vi x1] [] (mk I L t) from rfl) <| Eq.trans (b25_0) <| Eq.trans (if_neg (Int.not_lt.mpr h1)) <| Eq.trans (b25_4) <| Eq.trans (if_pos h2) <| Eq.trans (b25_16) <| b25_17 (by decide)
theorem P25_0_2 {d : Nat} {i0 : Nat} {x1 : Int} {I L : Nat → Nat → Nat → Int} {t : Nat → Nat} (h1 : x1 < 0) : Cal d 25 [vr 4 i0, vi x1] (mk I L t) = some (vi 0, mk I L t) :=
  Eq.trans (show _ = Res d 25 0 [vr 4 i0, vi x1] [] (mk I L t) from rfl) <| Eq.trans (b25_0) <| Eq.trans (if_pos h1) <| Eq.trans (b25_16) <| b25_17 (by decide)
/-! Row_faceAt -/
theorem P26_0_0 {d : Nat} {i0 : Nat} {x1 : Int} {I L : Nat → Nat → Nat → Int} {t : Nat → Nat} (h1 : 0 ≤ x1) (h2 : x1 < I 4 i0 1) (g1 : 0 ≤ x1 ∧ x1 < 9) : Cal d 26 [vr 4 i0, vi x1] (mk I L t) = some (vi (I 30 i0 x1.toNat), mk I L t) :=
  Eq.trans (show _ = Res d 26 0 [vr 4 i0, vi x1] [] (mk I L t) from rfl) <| Eq.trans (b26_0) <| Eq.trans (if_neg (Int.not_lt.mpr h1)) <| Eq.trans (b26_4) <| Eq.trans (if_neg (Int.not_le.mpr h2)) <| Eq.trans (b26_12 g1) <| b26_22
theorem P26_0_1 {d : Nat} {i0 : Nat} {x1 : Int} {I L : Nat → Nat → Nat → Int} {t : Nat → Nat} (h1 : 0 ≤ x1) (h2 : I 4 i0 1 ≤ x1) : Cal d 26 [vr 4 i0, vi x1] (mk I L t) = some (vi (-1), mk I L t) :=
  Eq.trans (show _ = Res d 26 0 [vr 4 i0, vi x1] [] (mk I L t) from rfl) <| Eq.trans (b26_0) <| Eq.trans (if_neg (Int.not_lt.mpr h1)) <| Eq.trans (b26_4) <| Eq.trans (if_pos h2) <| Eq.trans (b26_21) <| b26_22
theorem P26_0_2 {d : Nat} {i0 : Nat} {x1 : Int} {I L : Nat → Nat → Nat → Int} {t : Nat → Nat} (h1 : x1 < 0) : Cal d 26 [vr 4 i0, vi x1] (mk I L t) = some (vi (-1), mk I L t) :=
  Eq.trans (show _ = Res d 26 0 [vr 4 i0, vi x1] [] (mk I L t) from rfl) <| Eq.trans (b26_0) <| Eq.trans (if_pos h1) <| Eq.trans (b26_21) <| b26_22
/-! m_isFace -/
theorem P147_0_0 {d : Nat} {x1 : Int} {I L : Nat → Nat → Nat → Int} {t : Nat → Nat} (h1 : ¬ (0 ≤ x1 ∧ x1 ≤ (w32 ((I 12 0 1) - 1)))) : Cal (d + 1) 147 [vr 12 0, vi x1] (mk I L t) = some (vi 0, mk I L t) :=
  Eq.trans (show _ = Res (d + 1) 147 0 [vr 12 0, vi x1] [] (mk I L t) from rfl) <| Eq.trans (b147_0) <| Eq.trans (calb (kF146 h1) rfl) <| b147_11 (by decide)
theorem P147_0_1 {d : Nat} {x1 : Int} {I L : Nat → Nat → Nat → Int} {t : Nat → Nat} (h1 : 0 ≤ x1 ∧ x1 ≤ (w32 ((I 12 0 1) - 1))) : Cal (d + 1) 147 [vr 12 0, vi x1] (mk I L t) = some (vi 1, mk I L t) :=
  Eq.trans (show _ = Res (d + 1) 147 0 [vr 12 0, vi x1] [] (mk I L t) from rfl) <| Eq.trans (b147_0) <| Eq.trans (calb (kT146 h1) rfl) <| b147_11 (by decide)
/-! m_isRow -/
theorem P148_0_0 {d : Nat} {x0 : Int} {I L : Nat → Nat → Nat → Int} {t : Nat → Nat} (h1 : ¬ (0 ≤ x0 ∧ x0 ≤ 5)) : Cal (d + 1) 148 [vi x0] (mk I L t) = some (vi 0, mk I L t) :=
  Eq.trans (show _ = Res (d + 1) 148 0 [vi x0] [] (mk I L t) from rfl) <| Eq.trans (b148_0) <| Eq.trans (calb (kF146 h1) rfl) <| b148_6 (by decide)
theorem P148_0_1 {d : Nat} {x0 : Int} {I L : Nat → Nat → Nat → Int} {t : Nat → Nat} (h1 : 0 ≤ x0 ∧ x0 ≤ 5) : Cal (d + 1) 148 [vi x0] (mk I L t) = some (vi 1, mk I L t) :=
  Eq.trans (show _ = Res (d + 1) 148 0 [vi x0] [] (mk I L t) from rfl) <| Eq.trans (b148_0) <| Eq.trans (calb (kT146 h1) rfl) <| b148_6 (by decide)
/-! m_isKin -/
theorem P149_0_0 {d : Nat} {x0 : Int} {I L : Nat → Nat → Nat → Int} {t : Nat → Nat} (h1 : ¬ (0 ≤ x0 ∧ x0 ≤ 5)) : Cal (d + 1) 149 [vi x0] (mk I L t) = some (vi 0, mk I L t) :=
  Eq.trans (show _ = Res (d + 1) 149 0 [vi x0] [] (mk I L t) from rfl) <| Eq.trans (b149_0) <| Eq.trans (calb (kF146 h1) rfl) <| b149_6 (by decide)
theorem P149_0_1 {d : Nat} {x0 : Int} {I L : Nat → Nat → Nat → Int} {t : Nat → Nat} (h1 : 0 ≤ x0 ∧ x0 ≤ 5) : Cal (d + 1) 149 [vi x0] (mk I L t) = some (vi 1, mk I L t) :=
  Eq.trans (show _ = Res (d + 1) 149 0 [vi x0] [] (mk I L t) from rfl) <| Eq.trans (b149_0) <| Eq.trans (calb (kT146 h1) rfl) <| b149_6 (by decide)
/-! m_isWitness -/
theorem P150_0_0 {d : Nat} {x1 : Int} {I L : Nat → Nat → Nat → Int} {t : Nat → Nat} (h1 : ¬ (0 ≤ x1 ∧ x1 ≤ (w32 ((I 12 0 2) - 1)))) : Cal (d + 1) 150 [vr 12 0, vi x1] (mk I L t) = some (vi 0, mk I L t) :=
  Eq.trans (show _ = Res (d + 1) 150 0 [vr 12 0, vi x1] [] (mk I L t) from rfl) <| Eq.trans (b150_0) <| Eq.trans (calb (kF146 h1) rfl) <| b150_11 (by decide)
theorem P150_0_1 {d : Nat} {x1 : Int} {I L : Nat → Nat → Nat → Int} {t : Nat → Nat} (h1 : 0 ≤ x1 ∧ x1 ≤ (w32 ((I 12 0 2) - 1))) : Cal (d + 1) 150 [vr 12 0, vi x1] (mk I L t) = some (vi 1, mk I L t) :=
  Eq.trans (show _ = Res (d + 1) 150 0 [vr 12 0, vi x1] [] (mk I L t) from rfl) <| Eq.trans (b150_0) <| Eq.trans (calb (kT146 h1) rfl) <| b150_11 (by decide)
/-! m_isPlace -/
theorem P157_0_0 {d : Nat} {x1 : Int} {I L : Nat → Nat → Nat → Int} {t : Nat → Nat} (h1 : ¬ (0 ≤ x1 ∧ x1 ≤ (w32 ((I 12 0 12) - 1)))) : Cal (d + 1) 157 [vr 12 0, vi x1] (mk I L t) = some (vi 0, mk I L t) :=
  Eq.trans (show _ = Res (d + 1) 157 0 [vr 12 0, vi x1] [] (mk I L t) from rfl) <| Eq.trans (b157_0) <| Eq.trans (calb (kF146 h1) rfl) <| b157_11 (by decide)
theorem P157_0_1 {d : Nat} {x1 : Int} {I L : Nat → Nat → Nat → Int} {t : Nat → Nat} (h1 : 0 ≤ x1 ∧ x1 ≤ (w32 ((I 12 0 12) - 1))) : Cal (d + 1) 157 [vr 12 0, vi x1] (mk I L t) = some (vi 1, mk I L t) :=
  Eq.trans (show _ = Res (d + 1) 157 0 [vr 12 0, vi x1] [] (mk I L t) from rfl) <| Eq.trans (b157_0) <| Eq.trans (calb (kT146 h1) rfl) <| b157_11 (by decide)
/-! m_isHead -/
theorem P198_0_0 {d : Nat} {x0 : Int} {I L : Nat → Nat → Nat → Int} {t : Nat → Nat} (h1 : ¬ (0 ≤ x0 ∧ x0 ≤ 3)) : Cal (d + 1) 198 [vi x0] (mk I L t) = some (vi 0, mk I L t) :=
  Eq.trans (show _ = Res (d + 1) 198 0 [vi x0] [] (mk I L t) from rfl) <| Eq.trans (b198_0) <| Eq.trans (calb (kF146 h1) rfl) <| b198_6 (by decide)
theorem P198_0_1 {d : Nat} {x0 : Int} {I L : Nat → Nat → Nat → Int} {t : Nat → Nat} (h1 : 0 ≤ x0 ∧ x0 ≤ 3) : Cal (d + 1) 198 [vi x0] (mk I L t) = some (vi 1, mk I L t) :=
  Eq.trans (show _ = Res (d + 1) 198 0 [vi x0] [] (mk I L t) from rfl) <| Eq.trans (b198_0) <| Eq.trans (calb (kT146 h1) rfl) <| b198_6 (by decide)
/-! m_isShowing -/
theorem P206_0_0 {d : Nat} {x1 : Int} {I L : Nat → Nat → Nat → Int} {t : Nat → Nat} (h1 : ¬ (0 ≤ x1 ∧ x1 ≤ (w32 ((I 12 0 3) - 1)))) : Cal (d + 1) 206 [vr 12 0, vi x1] (mk I L t) = some (vi 0, mk I L t) :=
  Eq.trans (show _ = Res (d + 1) 206 0 [vr 12 0, vi x1] [] (mk I L t) from rfl) <| Eq.trans (b206_0) <| Eq.trans (calb (kF146 h1) rfl) <| b206_11 (by decide)
theorem P206_0_1 {d : Nat} {x1 : Int} {I L : Nat → Nat → Nat → Int} {t : Nat → Nat} (h1 : 0 ≤ x1 ∧ x1 ≤ (w32 ((I 12 0 3) - 1))) : Cal (d + 1) 206 [vr 12 0, vi x1] (mk I L t) = some (vi 1, mk I L t) :=
  Eq.trans (show _ = Res (d + 1) 206 0 [vr 12 0, vi x1] [] (mk I L t) from rfl) <| Eq.trans (b206_0) <| Eq.trans (calb (kT146 h1) rfl) <| b206_11 (by decide)
/-! m_isWay -/
theorem P229_0_0 {d : Nat} {x0 : Int} {I L : Nat → Nat → Nat → Int} {t : Nat → Nat} (h1 : ¬ (0 ≤ x0 ∧ x0 ≤ 3)) : Cal (d + 1) 229 [vi x0] (mk I L t) = some (vi 0, mk I L t) :=
  Eq.trans (show _ = Res (d + 1) 229 0 [vi x0] [] (mk I L t) from rfl) <| Eq.trans (b229_0) <| Eq.trans (calb (kF146 h1) rfl) <| b229_6 (by decide)
theorem P229_0_1 {d : Nat} {x0 : Int} {I L : Nat → Nat → Nat → Int} {t : Nat → Nat} (h1 : 0 ≤ x0 ∧ x0 ≤ 3) : Cal (d + 1) 229 [vi x0] (mk I L t) = some (vi 1, mk I L t) :=
  Eq.trans (show _ = Res (d + 1) 229 0 [vi x0] [] (mk I L t) from rfl) <| Eq.trans (b229_0) <| Eq.trans (calb (kT146 h1) rfl) <| b229_6 (by decide)
/-! m_see -/
theorem P161_0_0 {d : Nat} {x1 : Int} {I L : Nat → Nat → Nat → Int} {t : Nat → Nat} (h1 : x1 < I 12 0 36) (g1 : 0 ≤ x1 ∧ x1 < 400) : Cal d 161 [vr 12 0, vi x1] (mk I L t) = some (vi (I 62 0 x1.toNat), mk I L t) :=
  Eq.trans (show _ = Res d 161 0 [vr 12 0, vi x1] [] (mk I L t) from rfl) <| Eq.trans (b161_0) <| Eq.trans (if_neg (Int.not_le.mpr h1)) <| Eq.trans (b161_8 g1) <| b161_18
theorem P161_0_1 {d : Nat} {x1 : Int} {I L : Nat → Nat → Nat → Int} {t : Nat → Nat} (h1 : I 12 0 36 ≤ x1) : Cal d 161 [vr 12 0, vi x1] (mk I L t) = some (vi (-1), mk I L t) :=
  Eq.trans (show _ = Res d 161 0 [vr 12 0, vi x1] [] (mk I L t) from rfl) <| Eq.trans (b161_0) <| Eq.trans (if_pos h1) <| Eq.trans (b161_17) <| b161_18
/-! m_isLetter -/
theorem P162_0_0 {d : Nat} {x0 : Int} {I L : Nat → Nat → Nat → Int} {t : Nat → Nat} (h1 : ¬ (97 ≤ x0 ∧ x0 ≤ 122)) (h2 : ¬ (65 ≤ x0 ∧ x0 ≤ 90)) : Cal (d + 1) 162 [vi x0] (mk I L t) = some (vi 0, mk I L t) :=
  Eq.trans (show _ = Res (d + 1) 162 0 [vi x0] [] (mk I L t) from rfl) <| Eq.trans (b162_0) <| Eq.trans (calb (kF146 h1) rfl) <| Eq.trans (b162_8) <| Eq.trans (if_neg (by decide)) <| Eq.trans (b162_11) <| Eq.trans (calb (kF146 h2) rfl) <| Eq.trans (b162_19) <| Eq.trans (if_pos (by decide)) <| Eq.trans (b162_26) <| b162_27 (by decide)
theorem P162_0_1 {d : Nat} {x0 : Int} {I L : Nat → Nat → Nat → Int} {t : Nat → Nat} (h1 : ¬ (97 ≤ x0 ∧ x0 ≤ 122)) (h2 : 65 ≤ x0 ∧ x0 ≤ 90) : Cal (d + 1) 162 [vi x0] (mk I L t) = some (vi 1, mk I L t) :=
  Eq.trans (show _ = Res (d + 1) 162 0 [vi x0] [] (mk I L t) from rfl) <| Eq.trans (b162_0) <| Eq.trans (calb (kF146 h1) rfl) <| Eq.trans (b162_8) <| Eq.trans (if_neg (by decide)) <| Eq.trans (b162_11) <| Eq.trans (calb (kT146 h2) rfl) <| Eq.trans (b162_19) <| Eq.trans (if_neg (by decide)) <| Eq.trans (b162_22) <| b162_27 (by decide)
theorem P162_0_2 {d : Nat} {x0 : Int} {I L : Nat → Nat → Nat → Int} {t : Nat → Nat} (h1 : 97 ≤ x0 ∧ x0 ≤ 122) : Cal (d + 1) 162 [vi x0] (mk I L t) = some (vi 1, mk I L t) :=
  Eq.trans (show _ = Res (d + 1) 162 0 [vi x0] [] (mk I L t) from rfl) <| Eq.trans (b162_0) <| Eq.trans (calb (kT146 h1) rfl) <| Eq.trans (b162_8) <| Eq.trans (if_pos (by decide)) <| Eq.trans (b162_22) <| b162_27 (by decide)
/-! m_isDigit -/
theorem P163_0_0 {d : Nat} {x0 : Int} {I L : Nat → Nat → Nat → Int} {t : Nat → Nat} (h1 : ¬ (48 ≤ x0 ∧ x0 ≤ 57)) : Cal (d + 1) 163 [vi x0] (mk I L t) = some (vi 0, mk I L t) :=
  Eq.trans (show _ = Res (d + 1) 163 0 [vi x0] [] (mk I L t) from rfl) <| Eq.trans (b163_0) <| Eq.trans (calb (kF146 h1) rfl) <| b163_8 (by decide)
theorem P163_0_1 {d : Nat} {x0 : Int} {I L : Nat → Nat → Nat → Int} {t : Nat → Nat} (h1 : 48 ≤ x0 ∧ x0 ≤ 57) : Cal (d + 1) 163 [vi x0] (mk I L t) = some (vi 1, mk I L t) :=
  Eq.trans (show _ = Res (d + 1) 163 0 [vi x0] [] (mk I L t) from rfl) <| Eq.trans (b163_0) <| Eq.trans (calb (kT146 h1) rfl) <| b163_8 (by decide)
/-! Tape_isLetter -/
theorem P44_0_0 {d : Nat} {x0 : Int} {I L : Nat → Nat → Nat → Int} {t : Nat → Nat} (h1 : ¬ (97 ≤ x0 ∧ x0 ≤ 122)) (h2 : ¬ (65 ≤ x0 ∧ x0 ≤ 90)) : Cal (d + 1) 44 [vi x0] (mk I L t) = some (vi 0, mk I L t) :=
  Eq.trans (show _ = Res (d + 1) 44 0 [vi x0] [] (mk I L t) from rfl) <| Eq.trans (b44_0) <| Eq.trans (calb (kF102 h1) rfl) <| Eq.trans (b44_8) <| Eq.trans (if_neg (by decide)) <| Eq.trans (b44_11) <| Eq.trans (calb (kF102 h2) rfl) <| Eq.trans (b44_19) <| Eq.trans (if_pos (by decide)) <| Eq.trans (b44_26) <| b44_27 (by decide)
theorem P44_0_1 {d : Nat} {x0 : Int} {I L : Nat → Nat → Nat → Int} {t : Nat → Nat} (h1 : ¬ (97 ≤ x0 ∧ x0 ≤ 122)) (h2 : 65 ≤ x0 ∧ x0 ≤ 90) : Cal (d + 1) 44 [vi x0] (mk I L t) = some (vi 1, mk I L t) :=
  Eq.trans (show _ = Res (d + 1) 44 0 [vi x0] [] (mk I L t) from rfl) <| Eq.trans (b44_0) <| Eq.trans (calb (kF102 h1) rfl) <| Eq.trans (b44_8) <| Eq.trans (if_neg (by decide)) <| Eq.trans (b44_11) <| Eq.trans (calb (kT102 h2) rfl) <| Eq.trans (b44_19) <| Eq.trans (if_neg (by decide)) <| Eq.trans (b44_22) <| b44_27 (by decide)
theorem P44_0_2 {d : Nat} {x0 : Int} {I L : Nat → Nat → Nat → Int} {t : Nat → Nat} (h1 : 97 ≤ x0 ∧ x0 ≤ 122) : Cal (d + 1) 44 [vi x0] (mk I L t) = some (vi 1, mk I L t) :=
  Eq.trans (show _ = Res (d + 1) 44 0 [vi x0] [] (mk I L t) from rfl) <| Eq.trans (b44_0) <| Eq.trans (calb (kT102 h1) rfl) <| Eq.trans (b44_8) <| Eq.trans (if_pos (by decide)) <| Eq.trans (b44_22) <| b44_27 (by decide)
/-! Tape_isDigit -/
theorem P45_0_0 {d : Nat} {x0 : Int} {I L : Nat → Nat → Nat → Int} {t : Nat → Nat} (h1 : ¬ (48 ≤ x0 ∧ x0 ≤ 57)) : Cal (d + 1) 45 [vi x0] (mk I L t) = some (vi 0, mk I L t) :=
  Eq.trans (show _ = Res (d + 1) 45 0 [vi x0] [] (mk I L t) from rfl) <| Eq.trans (b45_0) <| Eq.trans (calb (kF102 h1) rfl) <| b45_8 (by decide)
theorem P45_0_1 {d : Nat} {x0 : Int} {I L : Nat → Nat → Nat → Int} {t : Nat → Nat} (h1 : 48 ≤ x0 ∧ x0 ≤ 57) : Cal (d + 1) 45 [vi x0] (mk I L t) = some (vi 1, mk I L t) :=
  Eq.trans (show _ = Res (d + 1) 45 0 [vi x0] [] (mk I L t) from rfl) <| Eq.trans (b45_0) <| Eq.trans (calb (kT102 h1) rfl) <| b45_8 (by decide)
/-! m_cut -/
theorem P182_0_0 {d : Nat} {x0 x1 x2 : Int} {I L : Nat → Nat → Nat → Int} {t : Nat → Nat} (h1 : x0 < x1) : Cal d 182 [vi x0, vi x1, vi x2] (mk I L t) = some (vi x1, mk I L t) :=
  Eq.trans (show _ = Res d 182 0 [vi x0, vi x1, vi x2] [] (mk I L t) from rfl) <| Eq.trans (b182_0) <| Eq.trans (if_neg (Int.not_le.mpr h1)) <| Eq.trans (b182_5) <| b182_19
theorem P182_0_1 {d : Nat} {x0 x1 x2 : Int} {I L : Nat → Nat → Nat → Int} {t : Nat → Nat} (h1 : x1 ≤ x0) (h2 : x2 < x0) : Cal d 182 [vi x0, vi x1, vi x2] (mk I L t) = some (vi x2, mk I L t) :=
  Eq.trans (show _ = Res d 182 0 [vi x0, vi x1, vi x2] [] (mk I L t) from rfl) <| Eq.trans (b182_0) <| Eq.trans (if_pos h1) <| Eq.trans (b182_9) <| Eq.trans (if_neg (Int.not_le.mpr h2)) <| Eq.trans (b182_14) <| b182_19
theorem P182_0_2 {d : Nat} {x0 x1 x2 : Int} {I L : Nat → Nat → Nat → Int} {t : Nat → Nat} (h1 : x1 ≤ x0) (h2 : x0 ≤ x2) : Cal d 182 [vi x0, vi x1, vi x2] (mk I L t) = some (vi x0, mk I L t) :=
  Eq.trans (show _ = Res d 182 0 [vi x0, vi x1, vi x2] [] (mk I L t) from rfl) <| Eq.trans (b182_0) <| Eq.trans (if_pos h1) <| Eq.trans (b182_9) <| Eq.trans (if_pos h2) <| Eq.trans (b182_18) <| b182_19
/-! x_cut -/
theorem P103_0_0 {d : Nat} {x0 x1 x2 : Int} {I L : Nat → Nat → Nat → Int} {t : Nat → Nat} : Cal (d + 1) 103 [vi x0, vi x1, vi x2] (mk I L t) = some (vi (if x1 < (if x0 < x2 then x0 else x2) then (if x0 < x2 then x0 else x2) else x1), mk I L t) :=
  Eq.trans (show _ = Res (d + 1) 103 0 [vi x0, vi x1, vi x2] [] (mk I L t) from rfl) <| b103_0
/-! m_apart -/
theorem P186_0_0 {d : Nat} {x0 x1 : Int} {I L : Nat → Nat → Nat → Int} {t : Nat → Nat} (h1 : x1 < x0) : Cal d 186 [vi x0, vi x1] (mk I L t) = some (vi (w32 (x0 - x1)), mk I L t) :=
  Eq.trans (show _ = Res d 186 0 [vi x0, vi x1] [] (mk I L t) from rfl) <| Eq.trans (b186_0) <| Eq.trans (if_neg (Int.not_le.mpr h1)) <| Eq.trans (b186_5) <| b186_14
theorem P186_0_1 {d : Nat} {x0 x1 : Int} {I L : Nat → Nat → Nat → Int} {t : Nat → Nat} (h1 : x0 ≤ x1) : Cal d 186 [vi x0, vi x1] (mk I L t) = some (vi (w32 (x1 - x0)), mk I L t) :=
  Eq.trans (show _ = Res d 186 0 [vi x0, vi x1] [] (mk I L t) from rfl) <| Eq.trans (b186_0) <| Eq.trans (if_pos h1) <| Eq.trans (b186_11) <| b186_14
/-! m_blurred -/
theorem P189_0_0 {d : Nat} {x0 x1 y1 : Int} {I L J1 K1 : Nat → Nat → Nat → Int} {t w1 : Nat → Nat} (g1 : w32 (x1 + 1) ≠ 0) (c1 : Cal d 182 [vi (w32 ((w32 ((vIdiv x0 (w32 (x1 + 1))) * (w32 (x1 + 1)))) + (vIdiv x1 2))), vi 0, vi 31] (mk I L t) = some (vi y1, mk J1 K1 w1)) : Cal (d + 1) 189 [vi x0, vi x1] (mk I L t) = some (vi y1, mk J1 K1 w1) :=
  Eq.trans (show _ = Res (d + 1) 189 0 [vi x0, vi x1] [] (mk I L t) from rfl) <| Eq.trans (b189_0 g1) <| Eq.trans (calb c1 rfl) <| b189_19
/-! x_blurred -/
theorem P124_0_0 {d : Nat} {x0 x1 : Int} {I L : Nat → Nat → Nat → Int} {t : Nat → Nat} (h1 : w32 (x1 + 1) ≤ 0) : Cal (d + 1) 124 [vi x0, vi x1] (mk I L t) = some (vi x0, mk I L t) :=
  Eq.trans (show _ = Res (d + 1) 124 0 [vi x0, vi x1, vx] [] (mk I L t) from rfl) <| Eq.trans (b124_0) <| Eq.trans (if_neg (Int.not_lt.mpr h1)) <| Eq.trans (b124_8) <| b124_26
theorem P124_0_1 {d : Nat} {x0 x1 : Int} {I L : Nat → Nat → Nat → Int} {t : Nat → Nat} (h1 : 0 < w32 (x1 + 1)) (g1 : (w32 (x1 + 1)) ≠ 0) : Cal (d + 1) 124 [vi x0, vi x1] (mk I L t) = some (vi (if w32 ((w32 ((vIdiv x0 (w32 (x1 + 1))) * (w32 (x1 + 1)))) + (vIdiv x1 2)) < 31 then w32 ((w32 ((vIdiv x0 (w32 (x1 + 1))) * (w32 (x1 + 1)))) + (vIdiv x1 2)) else 31), mk I L t) :=
  Eq.trans (show _ = Res (d + 1) 124 0 [vi x0, vi x1, vx] [] (mk I L t) from rfl) <| Eq.trans (b124_0) <| Eq.trans (if_pos h1) <| Eq.trans (b124_12 g1) <| b124_26
