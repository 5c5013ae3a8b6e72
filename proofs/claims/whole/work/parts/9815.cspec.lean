/-! what the constructors come to -/
section CSPEC
variable {d : Nat} {I L : H3} {W : WT}
theorem T48 : ∃ I' W', Cal (d + 2) 48 [vr 8 0] (cn I L W 11) = some (vx, cn I' L W' 61) ∧ CF I I' ∧ WL W W' ∧ (AW W' 7 0 4 ∧ AW W' 8 0 7 ∧ AW W' 5 0 3 ∧ AW W' 5 1 3 ∧ (∀ i, i < 5 → AW W' 2 i 5) ∧ AW W' 38 0 4 ∧ AW W' 39 0 4) ∧ I' 7 0 12 = vCo 7 ∧ ∀ i, i < 5 → I' 9 i 2 = vCo 9 ∧ I' 9 i 3 = vCo 9 := by
  have h1 : ∃ I1 W1, Cal (d + 2) 48 [vr 8 0] (cn I L W 11) = Res (d + 2) 48 77 [vr 8 0, vi 0] [] (cn I1 L W1 33) ∧ CF I I1 ∧ WL W W1 ∧ AW W1 7 0 4 ∧ AW W1 8 0 7 ∧ AW W1 5 0 3 ∧ AW W1 5 1 3 ∧ AW W1 2 4 5 ∧ I1 7 0 12 = vCo 7 ∧ I1 9 4 2 = vCo 9 ∧ I1 9 4 3 = vCo 9 := by
    refine ⟨_, _, N48_0 (d := d + 1) (c1 := N34_0 (d := d) (n0 := by decide +kernel) (n1 := by decide +kernel) (n2 := by decide +kernel) (n3 := by decide +kernel)) (c2 := N29_0 (d := d) (n0 := by decide +kernel) (n1 := by decide +kernel) (n2 := by decide +kernel)) (c3 := N12_0 (d := d) (n0 := by decide +kernel) (n1 := by decide +kernel) (n2 := by decide +kernel) (n3 := by decide +kernel) (n4 := by decide +kernel)) (c4 := N64_0 (d := d)) (c5 := N29_0 (d := d) (n0 := by decide +kernel) (n1 := by decide +kernel) (n2 := by decide +kernel)), ((CF.rf.up rfl rfl).up rfl rfl).up rfl rfl, ?_, AW_of rfl, AW_of rfl, AW_of rfl, AW_of rfl, AW_of rfl, rfl, rfl, rfl⟩
    repeat (refine WL.ws ?_)
    exact WL.rf
  obtain ⟨I1, W1, r1, f1, w1, a7, a8, a50, a51, a24, b7, b2, b3⟩ := h1
  obtain ⟨I2, W2, r2, f2, w2, g2⟩ := L48_77 (d := d) (L := L) 4 0 I1 W1 rfl (a8 1 (by decide))
  obtain ⟨I3, W3, r3, f3, w3, g3⟩ := L48_103 (d := d) (L := L) 4 0 I2 W2 rfl (w2 _ _ _ (a8 2 (by decide)))
  have w23 := w2.tr w3
  refine ⟨I3, W3, Eq.trans r1 (Eq.trans r2 (Eq.trans (N48_77x (j := 4) (hx := by decide)) (Eq.trans r3 (N48_103x (j := 4) (hx := by decide))))), (f1.tr f2).tr f3, (w1.tr w2).tr w3, ⟨a7.mo w23, a8.mo w23, a50.mo w23, a51.mo w23, fun i hi => ?_, fun s hs => ?_, fun s hs => ?_⟩, f3.keep (f2.keep b7), fun i hi => ?_⟩
  · by_cases e : i = 4
    · subst e
      exact a24.mo w23
    · exact (g2 i (Nat.zero_le _) (by omega)).1.mo w3
  · exact w3 _ _ _ (g2 s (Nat.zero_le _) hs).2
  · exact (g3 s (Nat.zero_le _) hs).1
  · by_cases e : i = 4
    · subst e
      exact ⟨f3.keep (f2.keep b2), f3.keep (f2.keep b3)⟩
    · exact (g3 i (Nat.zero_le _) (by omega)).2
theorem T0 : ∃ I' W', Cal (d + 2) 0 [vr 0 0] (cn I L W 67) = some (vx, cn I' L W' 101) ∧ CF I I' ∧ WL W W' ∧ (AW W' 0 0 12 ∧ AW W' 3 60 2 ∧ AW W' 21 0 9) ∧ ∀ i, 120 ≤ i → i < 131 → W' 1 i 0 = true ∧ I' 1 i 2 = vCo 1 := by
  have h1 : ∃ I1 W1, Cal (d + 2) 0 [vr 0 0] (cn I L W 67) = Res (d + 2) 0 110 [vr 0 0, vi 0] [] (cn I1 L W1 83) ∧ CF I I1 ∧ WL W W1 ∧ AW W1 0 0 12 ∧ AW W1 3 60 2 ∧ (W1 1 129 0 = true ∧ I1 1 129 2 = vCo 1) ∧ W1 1 130 0 = true ∧ I1 1 130 2 = vCo 1 := by
    refine ⟨_, _, N0_0 (d := d + 1) (c1 := N20_0 (d := d) (n0 := by decide +kernel) (n1 := by decide +kernel)) (c2 := N8_0 (d := d) (n0 := by decide +kernel)) (c3 := N8_0 (d := d) (n0 := by decide +kernel)), (CF.rf.up rfl rfl).up rfl rfl, ?_, AW_of rfl, AW_of rfl, ⟨rfl, rfl⟩, rfl, rfl⟩
    repeat (refine WL.ws ?_)
    exact WL.rf
  obtain ⟨I1, W1, r1, f1, w1, a0, a3, b1, b2⟩ := h1
  obtain ⟨I2, W2, r2, f2, w2, g2⟩ := L0_110 (d := d) (L := L) 9 0 I1 W1 rfl (a0 9 (by decide))
  refine ⟨I2, W2, Eq.trans r1 (Eq.trans r2 (N0_110x (j := 9) (hx := by decide))), f1.tr f2, w1.tr w2, ⟨a0.mo w2, a3.mo w2, fun s hs => (g2 s (Nat.zero_le _) hs).2.1⟩, fun i h1 h2 => ?_⟩
  by_cases e : i = 129
  · subst e
    exact ⟨w2 _ _ _ b1.1, f2.keep b1.2⟩
  · by_cases e2 : i = 130
    · subst e2
      exact ⟨w2 _ _ _ b2.1, f2.keep b2.2⟩
    · have := g2 (i - 120) (Nat.zero_le _) (by omega)
      rw [show 120 + (i - 120) = i by omega] at this
      exact ⟨this.1, this.2.2⟩
def wm (W : WT) : WT := fun a b c => (a == 41 && b == 0 && decide (c < 6)) || W a b c
theorem WL.wm : WL W (wm W) := fun r i s h => by
  show (_ || W r i s) = true
  rw [h, Bool.or_true]
theorem nm_ty : ∀ j : Fin 6, nm (2 + 1 + j.val) = (115, j.val) := by decide +kernel
theorem nm_2 : nm 2 = (41, 0) := by decide +kernel
theorem c_multi {ls st : List MV} : Res d 70 18 ls (vi 16 :: vi 6 :: st) (cn I L W 2) = Res d 70 22 ls (vr 41 0 :: st) (cn I L (wm W) 9) := by
  refine res_step D70_18 rfl ?_
  unfold nxt
  dsimp only
  rw [show clsR (own 70) 15 = some (99, 32) from rfl]
  dsimp only
  rw [if_pos ⟨rfl, rfl, rfl, rfl, fun j hj => by rw [nm_ty ⟨j, hj⟩]; rfl, by rw [nm_2]; rfl⟩, nm_2]
  have e : (fun a b s => if (a, b) = ((41, 0) : Nat × Nat) ∧ s < 6 then some (nm (2 + 1 + s)) else TQ W a b s) = TQ (wm W) := by
    funext a b s
    unfold TQ wm
    by_cases z : (a, b) = ((41, 0) : Nat × Nat) ∧ s < 6
    · rw [if_pos z, nm_ty ⟨s, z.2⟩]
      obtain ⟨z1, z2⟩ := z
      obtain ⟨rfl, rfl⟩ := Prod.mk.inj z1
      rw [if_pos (by simp [z2])]
      rfl
    · rw [if_neg z]
      have : (a == 41 && b == 0 && decide (s < 6)) = false := by
        simp only [Bool.and_eq_false_iff, beq_eq_false_iff_ne, decide_eq_false_iff_not]
        by_cases x : a = 41
        · by_cases y : b = 0
          · exact Or.inr (fun q => z ⟨by rw [x, y], q⟩)
          · exact Or.inl (Or.inr y)
        · exact Or.inl (Or.inl x)
      rw [this, Bool.false_or]
  show nk _ ls (vr 41 0 :: st) (I, L, (fun a b s => if (a, b) = ((41, 0) : Nat × Nat) ∧ s < 6 then some (nm (2 + 1 + s)) else TQ W a b s), 9) = _
  rw [e]
/-- all that FaceRows holds is there -/
def WX (W : WT) : Prop := AW W 11 0 10 ∧ (AW W 7 0 4 ∧ AW W 8 0 7 ∧ AW W 5 0 3 ∧ AW W 5 1 3 ∧ (∀ i, i < 5 → AW W 2 i 5) ∧ AW W 38 0 4 ∧ AW W 39 0 4) ∧ (AW W 0 0 12 ∧ AW W 21 0 9) ∧ (∀ i, i < 131 → W 1 i 0 = true) ∧ (∀ i, i < 61 → AW W 3 i 2) ∧ (∀ i, i < 146 → W 4 i 0 = true) ∧ (∀ i, i < 100 → W 6 i 0 = true) ∧ (∀ i, i < 40 → AW W 10 i 2) ∧ AW W 40 0 120 ∧ AW W 41 0 6 ∧ AW W 42 0 6 ∧ AW W 43 0 20 ∧ AW W 44 0 100 ∧ AW W 45 0 40
def IX (I : H3) : Prop := (∀ i, i < 131 → I 1 i 2 = -1) ∧ I 7 0 12 = -1 ∧ (∀ i, i < 5 → I 9 i 2 = -1 ∧ I 9 i 3 = -1) ∧ ∀ i, i < 6 → ∀ c, c < 16 → I 115 i c = 16
theorem T70 : ∃ I' W', Cal (d + 3) 70 [vr 11 0] (cn I L W 1) = some (vx, cn I' L W' 953) ∧ CF I I' ∧ WL W W' ∧ WX W' ∧ IX I' := by
  obtain ⟨I1, W1, r1, f1, w1, q1, i7, i9⟩ := T48 (d := d) (I := I) (L := L) (W := ws (ws (wm (ws W 11 0 0)) 11 0 1) 11 0 2)
  obtain ⟨I2, W2, r2, f2, w2, ⟨q0, q3, q21⟩, q4⟩ := T0 (d := d) (I := I1) (L := L) (W := ws (ws (ws (ws (ws (ws W1 11 0 3) 11 0 4) 11 0 5) 11 0 6) 11 0 7) 11 0 8)
  obtain ⟨V, hV⟩ : ∃ V : WT, V = ws W2 11 0 9 := ⟨_, rfl⟩
  have r3 := N70_22 (d := d + 2) (W := wm (ws W 11 0 0)) (c1 := r1) (c2 := r2)
  rw [← hV] at r3
  have w2V : WL W2 V := by rw [hV]; exact WL.rf.ws
  have w1V : WL W1 V := (WL.tr WL.rf.ws.ws.ws.ws.ws.ws w2).tr w2V
  have wW1 : WL (ws (ws (wm (ws W 11 0 0)) 11 0 1) 11 0 2) V := w1.tr w1V
  have wWV : WL W V := WL.tr (fun r i s h => ws_m (ws_m (WL.wm r i s (ws_m h)))) wW1
  have a11 : AW V 11 0 10 := fun s hs => by
    have hm : ∀ s, 3 ≤ s → s < 9 → V 11 0 s = true := fun s h1 h2 => w2V _ _ _ (w2 _ _ _ (by unfold ws; simp; omega))
    by_cases c : 3 ≤ s ∧ s < 9
    · exact hm s c.1 c.2
    · by_cases e : s = 9
      · subst e
        rw [hV]
        exact ws_e
      · refine wW1 _ _ _ ?_
        unfold ws wm
        simp
        omega
  have a41 : AW V 41 0 6 := fun s hs => wW1 _ _ _ (by unfold ws wm; simp [hs])
  obtain ⟨J1, V1, s1, g1, v1, k1⟩ := L70_103 (d := d) (L := L) 120 0 I2 V rfl (a11 0 (by decide))
  obtain ⟨J2, s2, g2, k2⟩ := L70_130 (d := d + 2) (L := L) (k := 341) (W := V1) (v1 _ _ _ (a11 1 (by decide))) (a41.mo v1) 6 0 J1 rfl
  obtain ⟨J3, V3, s3, g3, v3, k3⟩ := L70_155 (d := d) (L := L) 6 0 J2 V1 rfl (v1 _ _ _ (a11 2 (by decide)))
  have v13 := v1.tr v3
  obtain ⟨J4, V4, s4, g4, v4, k4⟩ := L70_182 (d := d) (L := L) 20 0 J3 V3 rfl (v13 _ _ _ (a11 4 (by decide)))
  have v14 := v13.tr v4
  obtain ⟨J5, V5, s5, g5, v5, k5⟩ := L70_209 (d := d) (L := L) 100 0 J4 V4 rfl (v14 _ _ _ (a11 5 (by decide)))
  have v15 := v14.tr v5
  obtain ⟨J6, V6, s6, g6, v6, k6⟩ := L70_236 (d := d) (L := L) 40 0 J5 V5 rfl (v15 _ _ _ (a11 6 (by decide)))
  have v16 := v15.tr v6
  have t1 : WL W1 V6 := w1V.tr v16
  have t2 : WL W2 V6 := w2V.tr v16
  have g36 := (g3.tr g4).tr (g5.tr g6)
  have g26 := g2.tr g36
  have g16 := g1.tr g26
  have v46 := v5.tr v6
  have v36 := v4.tr v46
  have v16' := v3.tr v36
  obtain ⟨q7, q8, q50, q51, q2, q38, q39⟩ := q1
  refine ⟨J6, V6, Eq.trans (N70_0 (d := d + 2)) (Eq.trans c_multi (Eq.trans r3 (Eq.trans s1 (Eq.trans (N70_103x (j := 120) (hx := by decide)) (Eq.trans s2 (Eq.trans (N70_130x (j := 6) (hx := by decide)) (Eq.trans s3 (Eq.trans (N70_155x (j := 6) (hx := by decide)) (Eq.trans s4 (Eq.trans (N70_182x (j := 20) (hx := by decide)) (Eq.trans s5 (Eq.trans (N70_209x (j := 100) (hx := by decide)) (Eq.trans s6 (N70_236x (j := 40) (hx := by decide))))))))))))))), (f1.tr f2).tr g16, wWV.tr v16, ⟨a11.mo v16, ⟨q7.mo t1, q8.mo t1, q50.mo t1, q51.mo t1, fun i hi => (q2 i hi).mo t1, q38.mo t1, q39.mo t1⟩, ⟨q0.mo t2, q21.mo t2⟩, fun i hi => ?_, fun i hi => ?_, fun i hi => ?_, fun i hi => ?_, fun i hi => ?_, ?_, a41.mo v16, ?_, ?_, ?_, ?_⟩, fun i hi => ?_, ?_, fun i hi => ?_, fun i hi c hc => ?_⟩
  · by_cases e : i < 120
    · exact v16' _ _ _ (k1 i (Nat.zero_le _) e).1
    · exact t2 _ _ _ (q4 i (by omega) hi).1
  · by_cases e : i < 20
    · exact (k4 i (Nat.zero_le _) e).1.mo v46
    · by_cases e2 : i < 60
      · have := (k6 (i - 20) (Nat.zero_le _) (by omega)).1
        rw [show 20 + (i - 20) = i by omega] at this
        exact this
      · rw [show i = 60 by omega]
        exact q3.mo t2
  · by_cases e : i < 6
    · exact v36 _ _ _ (k3 i (Nat.zero_le _) e).1
    · by_cases e2 : i < 106
      · have := (k5 (i - 6) (Nat.zero_le _) (by omega)).1
        rw [show 6 + (i - 6) = i by omega] at this
        exact v6 _ _ _ this
      · have := (k6 (i - 106) (Nat.zero_le _) (by omega)).2.1
        rw [show 106 + (i - 106) = i by omega] at this
        exact this
  · exact v6 _ _ _ (k5 i (Nat.zero_le _) hi).2.1
  · exact (k6 i (Nat.zero_le _) hi).2.2.1
  · exact fun s hs => v16' _ _ _ (k1 s (Nat.zero_le _) hs).2.1
  · exact fun s hs => v36 _ _ _ (k3 s (Nat.zero_le _) hs).2
  · exact fun s hs => v46 _ _ _ (k4 s (Nat.zero_le _) hs).2
  · exact fun s hs => v6 _ _ _ (k5 s (Nat.zero_le _) hs).2.2
  · exact fun s hs => (k6 s (Nat.zero_le _) hs).2.2.2
  · by_cases e : i < 120
    · exact g26.keep (k1 i (Nat.zero_le _) e).2.2
    · exact g16.keep (q4 i (by omega) hi).2
  · exact g16.keep (f2.keep i7)
  · exact ⟨g16.keep (f2.keep (i9 i hi).1), g16.keep (f2.keep (i9 i hi).2)⟩
  · exact g36.keep (k2 i (Nat.zero_le _) hi c hc)
def m12 : List Nat := [5, 6, 7, 8, 9, 10, 11, 13, 14, 15, 16, 17, 18, 19, 20, 21, 22, 23, 24, 25, 26, 27, 28, 29, 30, 31, 32, 51, 52, 53, 56, 57, 58, 59, 60, 61, 62, 63, 64, 65, 66, 67, 68, 69, 70, 71, 73, 74, 75, 76, 77, 78, 79, 80, 81, 82, 83, 84, 85, 86, 87, 88, 89, 90, 91, 92, 93]
theorem T145 : ∃ I' W', Cal (d + 1) 145 [vr 12 0] (cn I L W 954) = some (vx, cn I' L W' 1021) ∧ CF I I' ∧ WL W W' ∧ (m12.all fun s => W' 12 0 s) = true ∧ (∀ y, y < 4 → I' 72 0 y = -1 ∧ I' 73 0 y = -1) ∧ I' 12 0 50 = -1 ∧ ∀ c, c < 96 → I' 51 0 c = 16 := by
  have h1 : ∃ I1 W1, Cal (d + 1) 145 [vr 12 0] (cn I L W 954) = Res (d + 1) 145 586 [vr 12 0, vi 0] [] (cn I1 L W1 1021) ∧ CF I I1 ∧ WL W W1 ∧ (m12.all fun s => W1 12 0 s) = true ∧ ((List.range 4).all fun y => decide (I1 72 0 y = -1) && decide (I1 73 0 y = -1)) = true ∧ I1 12 0 50 = vCo 12 := by
    refine ⟨_, _, Eq.trans N145_0 (Eq.trans N145_137 (Eq.trans N145_252 (Eq.trans N145_361 N145_478))), ?_, ?_, rfl, rfl, rfl⟩
    · exact ((((((((CF.rf.up rfl rfl).up rfl rfl).up rfl rfl).up rfl rfl).up rfl rfl).up rfl rfl).up rfl rfl).up rfl rfl).up rfl rfl
    · repeat (refine WL.ws ?_)
      exact WL.rf
  obtain ⟨I1, W1, r1, f1, w1, a, b, c⟩ := h1
  obtain ⟨I2, r2, f2, g⟩ := L145_586 (d := d) (L := L) (k := 1021) (W := W1) (List.all_eq_true.mp a 8 (by decide)) 96 0 I1 rfl
  refine ⟨I2, W1, Eq.trans r1 (Eq.trans r2 (N145_586x (j := 96) (hx := by decide))), f1.tr f2, w1, a, fun y hy => ?_, f2.keep c, fun c hc => g c (Nat.zero_le _) hc⟩
  have := List.all_eq_true.mp b y (List.mem_range.mpr hy)
  simp only [Bool.and_eq_true, decide_eq_true_eq] at this
  exact ⟨f2.keep this.1, f2.keep this.2⟩
end CSPEC
