/-! the loops of the constructors (printed by wip/whole/genloop.py) -/
/-- what a constructor writes -/
def sCo (r _ c : Nat) : Bool := (r == 1 && c == 2) || (r == 9 && (c == 2 || c == 3)) || (r == 7 && c == 12) || r == 115 || r == 51 || r == 72 || r == 73 || (r == 12 && c == 50)
def vCo (r : Nat) : Int := if r = 115 ∨ r = 51 then 16 else -1
def CF (I J : H3) : Prop := ∀ r i c, J r i c = I r i c ∨ (sCo r i c = true ∧ J r i c = vCo r)
theorem CF.rf {I : H3} : CF I I := fun _ _ _ => Or.inl rfl
theorem CF.tr {I J K : H3} (a : CF I J) (b : CF J K) : CF I K := fun r i c => by
  rcases b r i c with h | h
  · rw [h]
    exact a r i c
  · exact Or.inr h
theorem CF.keep {I J : H3} (a : CF I J) {r i c : Nat} (h : I r i c = vCo r) : J r i c = vCo r := by
  rcases a r i c with e | e
  · rw [e, h]
  · exact e.2
theorem CF.up {I J : H3} {r i s : Nat} {x : Int} (a : CF I J) (h : sCo r i s = true) (e : x = vCo r) : CF I (up3 J r i s x) := fun r' i' c => by
  by_cases z : r' = r ∧ i' = i ∧ c = s
  · obtain ⟨rfl, rfl, rfl⟩ := z
    exact Or.inr ⟨h, by rw [up_e]; exact e⟩
  · rw [show up3 J r i s x r' i' c = J r' i' c from if_neg z]
    exact a r' i' c
theorem CF.srr {I J : H3} {i n : Nat} (a : CF I J) : CF I (sr J 115 i n (fun _ => 16)) := fun r' i' c => by
  by_cases z : r' = 115 ∧ i' = i ∧ c < n
  · obtain ⟨rfl, rfl, z⟩ := z
    exact Or.inr ⟨rfl, by rw [sr_lt z]; rfl⟩
  · rw [show sr J 115 i n (fun _ => 16) r' i' c = J r' i' c from if_neg z]
    exact a r' i' c
def AW (W : WT) (r i n : Nat) : Prop := ∀ s, s < n → W r i s = true
theorem AW.mo {W V : WT} {r i n : Nat} (w : WL W V) (h : AW W r i n) : AW V r i n := fun s hs => w r i s (h s hs)
theorem AW_of {W : WT} {r i n : Nat} (h : (List.range n).all (fun s => W r i s) = true) : AW W r i n := fun s hs => List.all_eq_true.mp h s (List.mem_range.mpr hs)
theorem nm_48_77 : ∀ j : Fin 4, nm (33 + 6 * j.val) = (2, j.val) ∧ nm (33 + 6 * j.val + 1) = (23, j.val) ∧ nm (33 + 6 * j.val + 2) = (24, j.val) ∧ nm (33 + 6 * j.val + 3) = (25, j.val) ∧ nm (33 + 6 * j.val + 4) = (26, j.val) ∧ nm (33 + 6 * j.val + 5) = (27, j.val) := by decide +kernel
theorem L48_77 {d : Nat} {L : H3} : ∀ (m j : Nat) (I : H3) (W : WT), j + m = 4 → W 8 0 1 = true → ∃ I' W', Res (d + 2) 48 77 [vr 8 0, vi (j : Int)] [] (cn I L W (33 + 6 * j)) = Res (d + 2) 48 77 [vr 8 0, vi ((4 : Nat) : Int)] [] (cn I' L W' (33 + 6 * 4)) ∧ CF I I' ∧ WL W W' ∧ ∀ i, j ≤ i → i < 4 → AW W' 2 i 5 ∧ W' 38 0 i = true
  | 0, j, I, W, hj, hw => by
    have : j = 4 := by omega
    subst this
    exact ⟨I, W, rfl, CF.rf, WL.rf, fun i a b => by omega⟩
  | m + 1, j, I, W, hj, hw => by
    have hn := nm_48_77 ⟨j, by omega⟩
    dsimp only at hn
    have f1 : CF I (I) := CF.rf
    have w1 : WL W (ws (ws (ws (ws (ws (ws W 2 j 0) 2 j 1) 2 j 2) 2 j 3) 2 j 4) 38 0 j) := WL.rf.ws.ws.ws.ws.ws.ws
    obtain ⟨I', W', r, f, w, g⟩ := L48_77 (d := d) (L := L) m (j + 1) (I) (ws (ws (ws (ws (ws (ws W 2 j 0) 2 j 1) 2 j 2) 2 j 3) 2 j 4) 38 0 j) (by omega) (w1 _ _ _ hw)
    refine ⟨I', W', Eq.trans (N48_77 (d := d + 1) (hx := by omega) (w8_1 := hw) (n0 := hn.1) (c1 := N12_0 (d := d) (n0 := hn.2.1) (n1 := hn.2.2.1) (n2 := hn.2.2.2.1) (n3 := hn.2.2.2.2.1) (n4 := hn.2.2.2.2.2)) (hj := by omega)) ?_, f1.tr f, w1.tr w, fun i a b => ?_⟩
    · rw [lem_w32k (k := j) (by omega)]
      exact r
    · by_cases q : i = j
      · subst q
        exact ⟨AW.mo w (fun s hs => by unfold ws; simp; omega), w _ _ _ (by simp [ws])⟩
      · exact g i (by omega) b
theorem nm_48_103 : ∀ j : Fin 4, nm (57 + 1 * j.val) = (9, j.val) := by decide +kernel
theorem L48_103 {d : Nat} {L : H3} : ∀ (m j : Nat) (I : H3) (W : WT), j + m = 4 → W 8 0 2 = true → ∃ I' W', Res (d + 2) 48 103 [vr 8 0, vi (j : Int)] [] (cn I L W (57 + 1 * j)) = Res (d + 2) 48 103 [vr 8 0, vi ((4 : Nat) : Int)] [] (cn I' L W' (57 + 1 * 4)) ∧ CF I I' ∧ WL W W' ∧ ∀ i, j ≤ i → i < 4 → W' 39 0 i = true ∧ I' 9 i 2 = vCo 9 ∧ I' 9 i 3 = vCo 9
  | 0, j, I, W, hj, hw => by
    have : j = 4 := by omega
    subst this
    exact ⟨I, W, rfl, CF.rf, WL.rf, fun i a b => by omega⟩
  | m + 1, j, I, W, hj, hw => by
    have hn := nm_48_103 ⟨j, by omega⟩
    dsimp only at hn
    have f1 : CF I (up3 (up3 I 9 j 2 (-1)) 9 j 3 (-1)) := (CF.rf.up rfl rfl).up rfl rfl
    have w1 : WL W (ws W 39 0 j) := WL.rf.ws
    obtain ⟨I', W', r, f, w, g⟩ := L48_103 (d := d) (L := L) m (j + 1) (up3 (up3 I 9 j 2 (-1)) 9 j 3 (-1)) (ws W 39 0 j) (by omega) (w1 _ _ _ hw)
    refine ⟨I', W', Eq.trans (N48_103 (d := d + 1) (hx := by omega) (w8_2 := hw) (n0 := hn) (c1 := N64_0 (d := d)) (hj := by omega)) ?_, f1.tr f, w1.tr w, fun i a b => ?_⟩
    · rw [lem_w32k (k := j) (by omega)]
      exact r
    · by_cases q : i = j
      · subst q
        exact ⟨w _ _ _ (by simp [ws]), f.keep (by rw [up_s (by decide), up_e]; rfl), f.keep (by rw [up_e]; rfl)⟩
      · exact g i (by omega) b
theorem nm_0_110 : ∀ j : Fin 9, nm (83 + 2 * j.val) = (1, 120 + j.val) ∧ nm (83 + 2 * j.val + 1) = (22, 120 + j.val) := by decide +kernel
theorem L0_110 {d : Nat} {L : H3} : ∀ (m j : Nat) (I : H3) (W : WT), j + m = 9 → W 0 0 9 = true → ∃ I' W', Res (d + 2) 0 110 [vr 0 0, vi (j : Int)] [] (cn I L W (83 + 2 * j)) = Res (d + 2) 0 110 [vr 0 0, vi ((9 : Nat) : Int)] [] (cn I' L W' (83 + 2 * 9)) ∧ CF I I' ∧ WL W W' ∧ ∀ i, j ≤ i → i < 9 → W' 1 (120 + i) 0 = true ∧ W' 21 0 i = true ∧ I' 1 (120 + i) 2 = vCo 1
  | 0, j, I, W, hj, hw => by
    have : j = 9 := by omega
    subst this
    exact ⟨I, W, rfl, CF.rf, WL.rf, fun i a b => by omega⟩
  | m + 1, j, I, W, hj, hw => by
    have hn := nm_0_110 ⟨j, by omega⟩
    dsimp only at hn
    have f1 : CF I (up3 I 1 (120 + j) 2 (-1)) := CF.rf.up rfl rfl
    have w1 : WL W (ws (ws W 1 (120 + j) 0) 21 0 j) := WL.rf.ws.ws
    obtain ⟨I', W', r, f, w, g⟩ := L0_110 (d := d) (L := L) m (j + 1) (up3 I 1 (120 + j) 2 (-1)) (ws (ws W 1 (120 + j) 0) 21 0 j) (by omega) (w1 _ _ _ hw)
    refine ⟨I', W', Eq.trans (N0_110 (d := d + 1) (hx := by omega) (w0_9 := hw) (n0 := hn.1) (c1 := N8_0 (d := d) (n0 := hn.2)) (hj := by omega)) ?_, f1.tr f, w1.tr w, fun i a b => ?_⟩
    · rw [lem_w32k (k := j) (by omega)]
      exact r
    · by_cases q : i = j
      · subst q
        exact ⟨w _ _ _ (by simp [ws]), w _ _ _ (by simp [ws]), f.keep (by rw [up_e]; rfl)⟩
      · exact g i (by omega) b
theorem nm_70_103 : ∀ j : Fin 120, nm (101 + 2 * j.val) = (1, j.val) ∧ nm (101 + 2 * j.val + 1) = (22, j.val) := by decide +kernel
theorem L70_103 {d : Nat} {L : H3} : ∀ (m j : Nat) (I : H3) (W : WT), j + m = 120 → W 11 0 0 = true → ∃ I' W', Res (d + 3) 70 103 [vr 11 0, vi (j : Int)] [] (cn I L W (101 + 2 * j)) = Res (d + 3) 70 103 [vr 11 0, vi ((120 : Nat) : Int)] [] (cn I' L W' (101 + 2 * 120)) ∧ CF I I' ∧ WL W W' ∧ ∀ i, j ≤ i → i < 120 → W' 1 i 0 = true ∧ W' 40 0 i = true ∧ I' 1 i 2 = vCo 1
  | 0, j, I, W, hj, hw => by
    have : j = 120 := by omega
    subst this
    exact ⟨I, W, rfl, CF.rf, WL.rf, fun i a b => by omega⟩
  | m + 1, j, I, W, hj, hw => by
    have hn := nm_70_103 ⟨j, by omega⟩
    dsimp only at hn
    have f1 : CF I (up3 I 1 j 2 (-1)) := CF.rf.up rfl rfl
    have w1 : WL W (ws (ws W 1 j 0) 40 0 j) := WL.rf.ws.ws
    obtain ⟨I', W', r, f, w, g⟩ := L70_103 (d := d) (L := L) m (j + 1) (up3 I 1 j 2 (-1)) (ws (ws W 1 j 0) 40 0 j) (by omega) (w1 _ _ _ hw)
    refine ⟨I', W', Eq.trans (N70_103 (d := d + 2) (hx := by omega) (w11_0 := hw) (n0 := hn.1) (c1 := N8_0 (d := d + 1) (n0 := hn.2)) (hj := by omega)) ?_, f1.tr f, w1.tr w, fun i a b => ?_⟩
    · rw [lem_w32k (k := j) (by omega)]
      exact r
    · by_cases q : i = j
      · subst q
        exact ⟨w _ _ _ (by simp [ws]), w _ _ _ (by simp [ws]), f.keep (by rw [up_e]; rfl)⟩
      · exact g i (by omega) b
theorem nm_70_155 : ∀ j : Fin 6, nm (341 + 2 * j.val) = (4, j.val) ∧ nm (341 + 2 * j.val + 1) = (30, j.val) := by decide +kernel
theorem L70_155 {d : Nat} {L : H3} : ∀ (m j : Nat) (I : H3) (W : WT), j + m = 6 → W 11 0 2 = true → ∃ I' W', Res (d + 3) 70 155 [vr 11 0, vi (j : Int)] [] (cn I L W (341 + 2 * j)) = Res (d + 3) 70 155 [vr 11 0, vi ((6 : Nat) : Int)] [] (cn I' L W' (341 + 2 * 6)) ∧ CF I I' ∧ WL W W' ∧ ∀ i, j ≤ i → i < 6 → W' 4 i 0 = true ∧ W' 42 0 i = true
  | 0, j, I, W, hj, hw => by
    have : j = 6 := by omega
    subst this
    exact ⟨I, W, rfl, CF.rf, WL.rf, fun i a b => by omega⟩
  | m + 1, j, I, W, hj, hw => by
    have hn := nm_70_155 ⟨j, by omega⟩
    dsimp only at hn
    have f1 : CF I (I) := CF.rf
    have w1 : WL W (ws (ws W 4 j 0) 42 0 j) := WL.rf.ws.ws
    obtain ⟨I', W', r, f, w, g⟩ := L70_155 (d := d) (L := L) m (j + 1) (I) (ws (ws W 4 j 0) 42 0 j) (by omega) (w1 _ _ _ hw)
    refine ⟨I', W', Eq.trans (N70_155 (d := d + 2) (hx := by omega) (w11_2 := hw) (n0 := hn.1) (c1 := N24_0 (d := d + 1) (n0 := hn.2)) (hj := by omega)) ?_, f1.tr f, w1.tr w, fun i a b => ?_⟩
    · rw [lem_w32k (k := j) (by omega)]
      exact r
    · by_cases q : i = j
      · subst q
        exact ⟨w _ _ _ (by simp [ws]), w _ _ _ (by simp [ws])⟩
      · exact g i (by omega) b
theorem nm_70_182 : ∀ j : Fin 20, nm (353 + 3 * j.val) = (3, j.val) ∧ nm (353 + 3 * j.val + 1) = (28, j.val) ∧ nm (353 + 3 * j.val + 2) = (29, j.val) := by decide +kernel
theorem L70_182 {d : Nat} {L : H3} : ∀ (m j : Nat) (I : H3) (W : WT), j + m = 20 → W 11 0 4 = true → ∃ I' W', Res (d + 3) 70 182 [vr 11 0, vi (j : Int)] [] (cn I L W (353 + 3 * j)) = Res (d + 3) 70 182 [vr 11 0, vi ((20 : Nat) : Int)] [] (cn I' L W' (353 + 3 * 20)) ∧ CF I I' ∧ WL W W' ∧ ∀ i, j ≤ i → i < 20 → AW W' 3 i 2 ∧ W' 43 0 i = true
  | 0, j, I, W, hj, hw => by
    have : j = 20 := by omega
    subst this
    exact ⟨I, W, rfl, CF.rf, WL.rf, fun i a b => by omega⟩
  | m + 1, j, I, W, hj, hw => by
    have hn := nm_70_182 ⟨j, by omega⟩
    dsimp only at hn
    have f1 : CF I (I) := CF.rf
    have w1 : WL W (ws (ws (ws W 3 j 0) 3 j 1) 43 0 j) := WL.rf.ws.ws.ws
    obtain ⟨I', W', r, f, w, g⟩ := L70_182 (d := d) (L := L) m (j + 1) (I) (ws (ws (ws W 3 j 0) 3 j 1) 43 0 j) (by omega) (w1 _ _ _ hw)
    refine ⟨I', W', Eq.trans (N70_182 (d := d + 2) (hx := by omega) (w11_4 := hw) (n0 := hn.1) (c1 := N20_0 (d := d + 1) (n0 := hn.2.1) (n1 := hn.2.2)) (hj := by omega)) ?_, f1.tr f, w1.tr w, fun i a b => ?_⟩
    · rw [lem_w32k (k := j) (by omega)]
      exact r
    · by_cases q : i = j
      · subst q
        exact ⟨AW.mo w (fun s hs => by unfold ws; simp; omega), w _ _ _ (by simp [ws])⟩
      · exact g i (by omega) b
theorem nm_70_209 : ∀ j : Fin 100, nm (413 + 3 * j.val) = (6, j.val) ∧ nm (413 + 3 * j.val + 1) = (4, 6 + j.val) ∧ nm (413 + 3 * j.val + 2) = (30, 6 + j.val) := by decide +kernel
theorem L70_209 {d : Nat} {L : H3} : ∀ (m j : Nat) (I : H3) (W : WT), j + m = 100 → W 11 0 5 = true → ∃ I' W', Res (d + 3) 70 209 [vr 11 0, vi (j : Int)] [] (cn I L W (413 + 3 * j)) = Res (d + 3) 70 209 [vr 11 0, vi ((100 : Nat) : Int)] [] (cn I' L W' (413 + 3 * 100)) ∧ CF I I' ∧ WL W W' ∧ ∀ i, j ≤ i → i < 100 → W' 4 (6 + i) 0 = true ∧ W' 6 i 0 = true ∧ W' 44 0 i = true
  | 0, j, I, W, hj, hw => by
    have : j = 100 := by omega
    subst this
    exact ⟨I, W, rfl, CF.rf, WL.rf, fun i a b => by omega⟩
  | m + 1, j, I, W, hj, hw => by
    have hn := nm_70_209 ⟨j, by omega⟩
    dsimp only at hn
    have f1 : CF I (I) := CF.rf
    have w1 : WL W (ws (ws (ws W 4 (6 + j) 0) 6 j 0) 44 0 j) := WL.rf.ws.ws.ws
    obtain ⟨I', W', r, f, w, g⟩ := L70_209 (d := d) (L := L) m (j + 1) (I) (ws (ws (ws W 4 (6 + j) 0) 6 j 0) 44 0 j) (by omega) (w1 _ _ _ hw)
    refine ⟨I', W', Eq.trans (N70_209 (d := d + 2) (hx := by omega) (w11_5 := hw) (n0 := hn.1) (c1 := N33_0 (d := d + 1) (n0 := hn.2.1) (c1 := N24_0 (d := d) (n0 := hn.2.2))) (hj := by omega)) ?_, f1.tr f, w1.tr w, fun i a b => ?_⟩
    · rw [lem_w32k (k := j) (by omega)]
      exact r
    · by_cases q : i = j
      · subst q
        exact ⟨w _ _ _ (by simp [ws]), w _ _ _ (by simp [ws]), w _ _ _ (by simp [ws])⟩
      · exact g i (by omega) b
theorem nm_70_236 : ∀ j : Fin 40, nm (713 + 6 * j.val) = (10, j.val) ∧ nm (713 + 6 * j.val + 1) = (3, 20 + j.val) ∧ nm (713 + 6 * j.val + 2) = (28, 20 + j.val) ∧ nm (713 + 6 * j.val + 3) = (29, 20 + j.val) ∧ nm (713 + 6 * j.val + 4) = (4, 106 + j.val) ∧ nm (713 + 6 * j.val + 5) = (30, 106 + j.val) := by decide +kernel
theorem L70_236 {d : Nat} {L : H3} : ∀ (m j : Nat) (I : H3) (W : WT), j + m = 40 → W 11 0 6 = true → ∃ I' W', Res (d + 3) 70 236 [vr 11 0, vi (j : Int)] [] (cn I L W (713 + 6 * j)) = Res (d + 3) 70 236 [vr 11 0, vi ((40 : Nat) : Int)] [] (cn I' L W' (713 + 6 * 40)) ∧ CF I I' ∧ WL W W' ∧ ∀ i, j ≤ i → i < 40 → AW W' 3 (20 + i) 2 ∧ W' 4 (106 + i) 0 = true ∧ AW W' 10 i 2 ∧ W' 45 0 i = true
  | 0, j, I, W, hj, hw => by
    have : j = 40 := by omega
    subst this
    exact ⟨I, W, rfl, CF.rf, WL.rf, fun i a b => by omega⟩
  | m + 1, j, I, W, hj, hw => by
    have hn := nm_70_236 ⟨j, by omega⟩
    dsimp only at hn
    have f1 : CF I (I) := CF.rf
    have w1 : WL W (ws (ws (ws (ws (ws (ws W 3 (20 + j) 0) 3 (20 + j) 1) 10 j 0) 4 (106 + j) 0) 10 j 1) 45 0 j) := WL.rf.ws.ws.ws.ws.ws.ws
    obtain ⟨I', W', r, f, w, g⟩ := L70_236 (d := d) (L := L) m (j + 1) (I) (ws (ws (ws (ws (ws (ws W 3 (20 + j) 0) 3 (20 + j) 1) 10 j 0) 4 (106 + j) 0) 10 j 1) 45 0 j) (by omega) (w1 _ _ _ hw)
    refine ⟨I', W', Eq.trans (N70_236 (d := d + 2) (hx := by omega) (w11_6 := hw) (n0 := hn.1) (c1 := N68_0 (d := d + 1) (n0 := hn.2.1) (c1 := N20_0 (d := d) (n0 := hn.2.2.1) (n1 := hn.2.2.2.1)) (n3 := hn.2.2.2.2.1) (c2 := N24_0 (d := d) (n0 := hn.2.2.2.2.2))) (hj := by omega)) ?_, f1.tr f, w1.tr w, fun i a b => ?_⟩
    · rw [lem_w32k (k := j) (by omega)]
      exact r
    · by_cases q : i = j
      · subst q
        exact ⟨AW.mo w (fun s hs => by unfold ws; simp; omega), w _ _ _ (by simp [ws]), AW.mo w (fun s hs => by unfold ws; simp; omega), w _ _ _ (by simp [ws])⟩
      · exact g i (by omega) b
theorem L70_130 {d : Nat} {L : H3} {k : Nat} {W : WT} (hw : W 11 0 1 = true) (wa : AW W 41 0 6) : ∀ (m j : Nat) (I : H3), j + m = 6 → ∃ I', Res (d + 1) 70 130 [vr 11 0, vi (j : Int)] [] (cn I L W k) = Res (d + 1) 70 130 [vr 11 0, vi ((6 : Nat) : Int)] [] (cn I' L W k) ∧ CF I I' ∧ ∀ i, j ≤ i → i < 6 → ∀ c, c < 16 → I' 115 i c = vCo 115
  | 0, j, I, hj => by
    have : j = 6 := by omega
    subst this
    exact ⟨I, rfl, CF.rf, fun i a b => by omega⟩
  | m + 1, j, I, hj => by
    obtain ⟨I', r, f, g⟩ := L70_130 (d := d) (L := L) (k := k) hw wa m (j + 1) (sr I 115 j 16 (fun _ => 16)) (by omega)
    refine ⟨I', Eq.trans (N70_130 (hx := by omega) (w11_1 := hw) (wa := wa j (by omega)) (hj := by omega)) ?_, CF.rf.srr.tr f, fun i a b => ?_⟩
    · rw [lem_w32k (k := j) (by omega)]
      exact r
    · by_cases q : i = j
      · subst q
        exact fun c hc => f.keep (by rw [sr_lt hc]; rfl)
      · exact g i (by omega) b
theorem L145_586 {d : Nat} {L : H3} {k : Nat} {W : WT} (hw : W 12 0 8 = true) : ∀ (m j : Nat) (I : H3), j + m = 96 → ∃ I', Res (d + 1) 145 586 [vr 12 0, vi (j : Int)] [] (cn I L W k) = Res (d + 1) 145 586 [vr 12 0, vi ((96 : Nat) : Int)] [] (cn I' L W k) ∧ CF I I' ∧ ∀ i, j ≤ i → i < 96 → I' 51 0 i = vCo 51
  | 0, j, I, hj => by
    have : j = 96 := by omega
    subst this
    exact ⟨I, rfl, CF.rf, fun i a b => by omega⟩
  | m + 1, j, I, hj => by
    obtain ⟨I', r, f, g⟩ := L145_586 (d := d) (L := L) (k := k) hw m (j + 1) (up3 I 51 0 j 16) (by omega)
    refine ⟨I', Eq.trans (N145_586 (hx := by omega) (w12_8 := hw) (hj := by omega)) ?_, (CF.rf.up rfl rfl).tr f, fun i a b => ?_⟩
    · rw [lem_w32k (k := j) (by omega), Int.toNat_natCast]
      exact r
    · by_cases q : i = j
      · subst q
        exact f.keep (by rw [up_e]; rfl)
      · exact g i (by omega) b
