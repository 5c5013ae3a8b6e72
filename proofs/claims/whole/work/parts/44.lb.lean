/-! small calls: what they answer; numbers -/
theorem w32_s {x : Int} (h : -2147483648 ≤ x ∧ x ≤ 2147483647) : w32 x = x := w32_id h.1 h.2
theorem b32_w (g : Int32 → Int32 → Int32) (a b : Int) : w32 (b32 g a b) = b32 g a b := w32_t _
theorem vIdiv_eq {a b : Int} (ha : -2147483648 ≤ a ∧ a ≤ 2147483647) (hb : -2147483648 ≤ b ∧ b ≤ 2147483647) : vIdiv a b = w32 (a.tdiv b) := by
  show (Int32.ofInt a / Int32.ofInt b).toInt = _
  rw [Int32.toInt_div, w32_eq]
  have h1 : (Int32.ofInt a).toInt = a := w32_s ha
  have h2 : (Int32.ofInt b).toInt = b := w32_s hb
  rw [h1, h2]
theorem vIdiv_pos {a b : Int} (ha : 0 ≤ a ∧ a ≤ 2147483647) (hb : 0 < b ∧ b ≤ 2147483647) : vIdiv a b = a / b := by
  have h0 : 0 ≤ a / b := Int.ediv_nonneg ha.1 (by omega)
  have h1 : a / b ≤ a := Int.ediv_le_self _ ha.1
  rw [vIdiv_eq (by omega) (by omega), Int.tdiv_eq_ediv_of_nonneg ha.1, w32_s (by omega)]
theorem rvP_pos {n p : Int} {f : Nat → Int} (h : 0 ≤ p ∧ p < n) : rvP n f p = f p.toNat := if_pos h
theorem rvP_neg {n p : Int} {f : Nat → Int} (h : ¬ (0 ≤ p ∧ p < n)) : rvP n f p = -1 := if_neg h
theorem cutP_in {v a b : Int} (h : a ≤ b) : a ≤ cutP v a b ∧ cutP v a b ≤ b := by
  unfold cutP
  split
  · omega
  · split <;> omega
theorem blrP_in (v r : Int) : 0 ≤ blrP v r ∧ blrP v r ≤ 31 := cutP_in (by decide)
section LB
variable {d : Nat} {v a b : Int} {I L : Nat → Nat → Nat → Int} {t : Nat → Nat}
theorem kT104 (h : 0 ≤ v ∧ v < I 11 0 10) (g : 0 ≤ I 11 0 10 ∧ I 11 0 10 ≤ 2000) : Cal (d + 1) 104 [vr 11 0, vi v] (mk I L t) = some (vi 1, mk I L t) := P104_0_1 (by rw [w32_s (by omega)]; omega)
theorem kF104 (h : ¬ (0 ≤ v ∧ v < I 11 0 10)) (g : 0 ≤ I 11 0 10 ∧ I 11 0 10 ≤ 2000) : Cal (d + 1) 104 [vr 11 0, vi v] (mk I L t) = some (vi 0, mk I L t) := P104_0_0 (by rw [w32_s (by omega)]; omega)
theorem kT106 (h : 0 ≤ v ∧ v < I 11 0 12) (g : 0 ≤ I 11 0 12 ∧ I 11 0 12 ≤ 2000) : Cal (d + 1) 106 [vr 11 0, vi v] (mk I L t) = some (vi 1, mk I L t) := P106_0_1 (by rw [w32_s (by omega)]; omega)
theorem kF106 (h : ¬ (0 ≤ v ∧ v < I 11 0 12)) (g : 0 ≤ I 11 0 12 ∧ I 11 0 12 ≤ 2000) : Cal (d + 1) 106 [vr 11 0, vi v] (mk I L t) = some (vi 0, mk I L t) := P106_0_0 (by rw [w32_s (by omega)]; omega)
theorem kT107 (h : 0 ≤ v ∧ v < I 11 0 13) (g : 0 ≤ I 11 0 13 ∧ I 11 0 13 ≤ 2000) : Cal (d + 1) 107 [vr 11 0, vi v] (mk I L t) = some (vi 1, mk I L t) := P107_0_1 (by rw [w32_s (by omega)]; omega)
theorem kF107 (h : ¬ (0 ≤ v ∧ v < I 11 0 13)) (g : 0 ≤ I 11 0 13 ∧ I 11 0 13 ≤ 2000) : Cal (d + 1) 107 [vr 11 0, vi v] (mk I L t) = some (vi 0, mk I L t) := P107_0_0 (by rw [w32_s (by omega)]; omega)
theorem kT147 (h : 0 ≤ v ∧ v < I 12 0 1) (g : 0 ≤ I 12 0 1 ∧ I 12 0 1 ≤ 2000) : Cal (d + 1) 147 [vr 12 0, vi v] (mk I L t) = some (vi 1, mk I L t) := P147_0_1 (by rw [w32_s (by omega)]; omega)
theorem kF147 (h : ¬ (0 ≤ v ∧ v < I 12 0 1)) (g : 0 ≤ I 12 0 1 ∧ I 12 0 1 ≤ 2000) : Cal (d + 1) 147 [vr 12 0, vi v] (mk I L t) = some (vi 0, mk I L t) := P147_0_0 (by rw [w32_s (by omega)]; omega)
theorem kT150 (h : 0 ≤ v ∧ v < I 12 0 2) (g : 0 ≤ I 12 0 2 ∧ I 12 0 2 ≤ 2000) : Cal (d + 1) 150 [vr 12 0, vi v] (mk I L t) = some (vi 1, mk I L t) := P150_0_1 (by rw [w32_s (by omega)]; omega)
theorem kF150 (h : ¬ (0 ≤ v ∧ v < I 12 0 2)) (g : 0 ≤ I 12 0 2 ∧ I 12 0 2 ≤ 2000) : Cal (d + 1) 150 [vr 12 0, vi v] (mk I L t) = some (vi 0, mk I L t) := P150_0_0 (by rw [w32_s (by omega)]; omega)
theorem kT157 (h : 0 ≤ v ∧ v < I 12 0 12) (g : 0 ≤ I 12 0 12 ∧ I 12 0 12 ≤ 2000) : Cal (d + 1) 157 [vr 12 0, vi v] (mk I L t) = some (vi 1, mk I L t) := P157_0_1 (by rw [w32_s (by omega)]; omega)
theorem kF157 (h : ¬ (0 ≤ v ∧ v < I 12 0 12)) (g : 0 ≤ I 12 0 12 ∧ I 12 0 12 ≤ 2000) : Cal (d + 1) 157 [vr 12 0, vi v] (mk I L t) = some (vi 0, mk I L t) := P157_0_0 (by rw [w32_s (by omega)]; omega)
theorem kT206 (h : 0 ≤ v ∧ v < I 12 0 3) (g : 0 ≤ I 12 0 3 ∧ I 12 0 3 ≤ 2000) : Cal (d + 1) 206 [vr 12 0, vi v] (mk I L t) = some (vi 1, mk I L t) := P206_0_1 (by rw [w32_s (by omega)]; omega)
theorem kF206 (h : ¬ (0 ≤ v ∧ v < I 12 0 3)) (g : 0 ≤ I 12 0 3 ∧ I 12 0 3 ≤ 2000) : Cal (d + 1) 206 [vr 12 0, vi v] (mk I L t) = some (vi 0, mk I L t) := P206_0_0 (by rw [w32_s (by omega)]; omega)
theorem kT105 (h : 0 ≤ v ∧ v < 6) : Cal (d + 1) 105 [vr 11 0, vi v] (mk I L t) = some (vi 1, mk I L t) := P105_0_1 (by omega)
theorem kF105 (h : ¬ (0 ≤ v ∧ v < 6)) : Cal (d + 1) 105 [vr 11 0, vi v] (mk I L t) = some (vi 0, mk I L t) := P105_0_0 (by omega)
theorem kT148 (h : 0 ≤ v ∧ v < 6) : Cal (d + 1) 148 [vi v] (mk I L t) = some (vi 1, mk I L t) := P148_0_1 (by omega)
theorem kF148 (h : ¬ (0 ≤ v ∧ v < 6)) : Cal (d + 1) 148 [vi v] (mk I L t) = some (vi 0, mk I L t) := P148_0_0 (by omega)
theorem kT149 (h : 0 ≤ v ∧ v < 6) : Cal (d + 1) 149 [vi v] (mk I L t) = some (vi 1, mk I L t) := P149_0_1 (by omega)
theorem kF149 (h : ¬ (0 ≤ v ∧ v < 6)) : Cal (d + 1) 149 [vi v] (mk I L t) = some (vi 0, mk I L t) := P149_0_0 (by omega)
theorem kT198 (h : 0 ≤ v ∧ v < 4) : Cal (d + 1) 198 [vi v] (mk I L t) = some (vi 1, mk I L t) := P198_0_1 (by omega)
theorem kF198 (h : ¬ (0 ≤ v ∧ v < 4)) : Cal (d + 1) 198 [vi v] (mk I L t) = some (vi 0, mk I L t) := P198_0_0 (by omega)
theorem kT229 (h : 0 ≤ v ∧ v < 4) : Cal (d + 1) 229 [vi v] (mk I L t) = some (vi 1, mk I L t) := P229_0_1 (by omega)
theorem kF229 (h : ¬ (0 ≤ v ∧ v < 4)) : Cal (d + 1) 229 [vi v] (mk I L t) = some (vi 0, mk I L t) := P229_0_0 (by omega)
theorem kT25 {i : Nat} (h : 0 ≤ v ∧ v < I 4 i 1) : Cal d 25 [vr 4 i, vi v] (mk I L t) = some (vi 1, mk I L t) := P25_0_0 h.1 h.2
theorem kF25 {i : Nat} (h : ¬ (0 ≤ v ∧ v < I 4 i 1)) : Cal d 25 [vr 4 i, vi v] (mk I L t) = some (vi 0, mk I L t) := by
  by_cases h1 : 0 ≤ v
  · exact P25_0_1 h1 (by omega)
  · exact P25_0_2 (by omega)
theorem k26 {i : Nat} (g : I 4 i 1 ≤ 9) : Cal d 26 [vr 4 i, vi v] (mk I L t) = some (vi (rvP (I 4 i 1) (I 30 i) v), mk I L t) := by
  by_cases h1 : 0 ≤ v
  · by_cases h2 : v < I 4 i 1
    · rw [rvP_pos ⟨h1, h2⟩]
      exact P26_0_0 h1 h2 (by omega)
    · rw [rvP_neg (by omega)]
      exact P26_0_1 h1 (by omega)
  · rw [rvP_neg (by omega)]
    exact P26_0_2 (by omega)
theorem k161 (g : I 12 0 36 ≤ 400) (g0 : 0 ≤ v) : Cal d 161 [vr 12 0, vi v] (mk I L t) = some (vi (rvP (I 12 0 36) (I 62 0) v), mk I L t) := by
  by_cases h2 : v < I 12 0 36
  · rw [rvP_pos ⟨g0, h2⟩]
    exact P161_0_0 h2 (by omega)
  · rw [rvP_neg (by omega)]
    exact P161_0_1 (by omega)
theorem kT44 (h : isLet v) : Cal (d + 1) 44 [vi v] (mk I L t) = some (vi 1, mk I L t) := by
  by_cases h1 : 97 ≤ v ∧ v ≤ 122
  · exact P44_0_2 h1
  · exact P44_0_1 h1 (by unfold isLet at h; omega)
theorem kF44 (h : ¬ isLet v) : Cal (d + 1) 44 [vi v] (mk I L t) = some (vi 0, mk I L t) := P44_0_0 (fun k => h (Or.inl k)) (fun k => h (Or.inr k))
theorem kT162 (h : isLet v) : Cal (d + 1) 162 [vi v] (mk I L t) = some (vi 1, mk I L t) := by
  by_cases h1 : 97 ≤ v ∧ v ≤ 122
  · exact P162_0_2 h1
  · exact P162_0_1 h1 (by unfold isLet at h; omega)
theorem kF162 (h : ¬ isLet v) : Cal (d + 1) 162 [vi v] (mk I L t) = some (vi 0, mk I L t) := P162_0_0 (fun k => h (Or.inl k)) (fun k => h (Or.inr k))
theorem kT45 (h : 48 ≤ v ∧ v ≤ 57) : Cal (d + 1) 45 [vi v] (mk I L t) = some (vi 1, mk I L t) := P45_0_1 h
theorem kF45 (h : ¬ (48 ≤ v ∧ v ≤ 57)) : Cal (d + 1) 45 [vi v] (mk I L t) = some (vi 0, mk I L t) := P45_0_0 h
theorem kT163 (h : 48 ≤ v ∧ v ≤ 57) : Cal (d + 1) 163 [vi v] (mk I L t) = some (vi 1, mk I L t) := P163_0_1 h
theorem kF163 (h : ¬ (48 ≤ v ∧ v ≤ 57)) : Cal (d + 1) 163 [vi v] (mk I L t) = some (vi 0, mk I L t) := P163_0_0 h
theorem k182 : Cal d 182 [vi v, vi a, vi b] (mk I L t) = some (vi (cutP v a b), mk I L t) := by
  unfold cutP
  split
  · next h => exact P182_0_0 h
  · next h =>
    split
    · next h2 => exact P182_0_1 (by omega) h2
    · exact P182_0_2 (by omega) (by omega)
theorem k103 (g : a ≤ b) : Cal (d + 1) 103 [vi v, vi a, vi b] (mk I L t) = some (vi (cutP v a b), mk I L t) := by
  refine Eq.trans P103_0_0 ?_
  have e : (if a < (if v < b then v else b) then (if v < b then v else b) else a) = cutP v a b := by
    unfold cutP
    by_cases h1 : v < a
    · rw [if_pos h1, if_pos (show v < b by omega), if_neg (by omega)]
    · rw [if_neg h1]
      by_cases h2 : b < v
      · rw [if_pos h2, if_neg (show ¬ v < b by omega)]
        split <;> omega
      · rw [if_neg h2]
        by_cases h3 : v < b
        · rw [if_pos h3]
          split <;> omega
        · rw [if_neg h3]
          split <;> omega
  rw [e]
theorem k186 : Cal d 186 [vi v, vi a] (mk I L t) = some (vi (aptP v a), mk I L t) := by
  unfold aptP
  split
  · next h => exact P186_0_0 h
  · exact P186_0_1 (by omega)
theorem k189 (g : 0 ≤ a ∧ a ≤ 15) : Cal (d + 1) 189 [vi v, vi a] (mk I L t) = some (vi (blrP v a), mk I L t) := P189_0_0 (by rw [w32_s (by omega)]; omega) k182
theorem k124 (g : 0 ≤ a ∧ a ≤ 15) (g0 : 0 ≤ v ∧ v ≤ 31) : Cal (d + 1) 124 [vi v, vi a] (mk I L t) = some (vi (blrP v a), mk I L t) := by
  have e : w32 (a + 1) = a + 1 := w32_s (by omega)
  refine Eq.trans (P124_0_1 (by rw [e]; omega) (by rw [e]; omega)) ?_
  have hq : vIdiv v (w32 (a + 1)) = v / (a + 1) := by rw [e]; exact vIdiv_pos (by omega) (by omega)
  have hr : vIdiv a 2 = a / 2 := vIdiv_pos (by omega) (by omega)
  have h0 : 0 ≤ v / (a + 1) := Int.ediv_nonneg g0.1 (by omega)
  have h1 : 0 ≤ v / (a + 1) * (a + 1) := Int.mul_nonneg h0 (by omega)
  have h2 : v / (a + 1) * (a + 1) ≤ v := Int.ediv_mul_le _ (by omega)
  unfold blrP cutP
  rw [hq, hr, e, w32_s (x := v / (a + 1) * (a + 1)) (by omega), w32_s (x := v / (a + 1) * (a + 1) + a / 2) (by omega), if_neg (show ¬ v / (a + 1) * (a + 1) + a / 2 < 0 by omega)]
  by_cases h3 : v / (a + 1) * (a + 1) + a / 2 < 31
  · rw [if_pos h3, if_neg (by omega)]
  · rw [if_neg h3]
    split
    · rfl
    · have : v / (a + 1) * (a + 1) + a / 2 = 31 := by omega
      rw [this]
end LB
