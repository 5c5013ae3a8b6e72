/-! world -/
def csP (nf x1 x2 x3 x4 x5 x6 : Int) : Prop := (0 ≤ x1 ∧ x1 ≤ 3) ∧ (0 ≤ x2 ∧ x2 ≤ 5) ∧ (0 ≤ x3 ∧ x3 < nf) ∧ (0 ≤ x4 ∧ x4 ≤ 999) ∧ (0 ≤ x5 ∧ x5 ≤ 9) ∧ (0 ≤ x6 ∧ x6 ≤ 9)
section CANSEE
variable {d : Nat} {I L : H3} {t : Nat → Nat} {x1 x2 x3 x4 x5 x6 : Int}
theorem sp109t (g : 0 ≤ I 11 0 10 ∧ I 11 0 10 ≤ 2000) (h : csP (I 11 0 10) x1 x2 x3 x4 x5 x6) : Cal (d + 2) 109 [vr 11 0, vi x1, vi x2, vi x3, vi x4, vi x5, vi x6] (mk I L t) = some (vi 1, mk I L t) :=
  P109_0_6 (h1 := h.1) (h2 := h.2.1) (g1 := g) (h3 := h.2.2.1) (h4 := h.2.2.2.1) (h5 := h.2.2.2.2.1) (h6 := h.2.2.2.2.2)
theorem sp109f (g : 0 ≤ I 11 0 10 ∧ I 11 0 10 ≤ 2000) (h : ¬ csP (I 11 0 10) x1 x2 x3 x4 x5 x6) : Cal (d + 2) 109 [vr 11 0, vi x1, vi x2, vi x3, vi x4, vi x5, vi x6] (mk I L t) = some (vi 0, mk I L t) := by
  by_cases h1 : 0 ≤ x1 ∧ x1 ≤ 3
  · by_cases h2 : 0 ≤ x2 ∧ x2 ≤ 5
    · by_cases h3 : 0 ≤ x3 ∧ x3 < I 11 0 10
      · by_cases h4 : 0 ≤ x4 ∧ x4 ≤ 999
        · by_cases h5 : 0 ≤ x5 ∧ x5 ≤ 9
          · exact P109_0_5 (h1 := h1) (h2 := h2) (g1 := g) (h3 := h3) (h4 := h4) (h5 := h5) (h6 := fun h6 => h ⟨h1, h2, h3, h4, h5, h6⟩)
          · exact P109_0_4 (h1 := h1) (h2 := h2) (g1 := g) (h3 := h3) (h4 := h4) (h5 := h5)
        · exact P109_0_3 (h1 := h1) (h2 := h2) (g1 := g) (h3 := h3) (h4 := h4)
      · exact P109_0_2 (h1 := h1) (h2 := h2) (g1 := g) (h3 := h3)
    · exact P109_0_1 (h1 := h1) (h2 := h2)
  · exact P109_0_0 (h1 := h1)
end CANSEE
/-- what a call may write that makes world n -/
def sWo (n r i c : Nat) : Bool := (r == 3 && i == 20 + n) || ((r == 4 || r == 30) && i == 106 + n) || (r == 10 && i == n) || (r == 11 && c == 14) || (r == 12 && (c == 4 || c == 12)) || r == 54 || decide (105 ≤ r ∧ r ≤ 114)
theorem rel_O {I K : H3} {t : Nat → Nat} {n : Nat} (h : Rel I t) (F : Fr (sWo n) I K) (hO : reO (I 11 0 10) K) : Rel K t := by
  have hf := h.pF.1
  have b3 : ∀ w, w < 20 → K 3 w = I 3 w := fun w hw => F.ri (fun c => by
    unfold sWo
    simp only [Bool.or_eq_false_iff, Bool.and_eq_false_iff, beq_eq_false_iff_ne, decide_eq_false_iff_not]
    omega)
  have b4 : ∀ i, i < 106 → K 4 i = I 4 i ∧ K 30 i = I 30 i := fun i hi => ⟨F.ri (fun c => by
    unfold sWo
    simp only [Bool.or_eq_false_iff, Bool.and_eq_false_iff, beq_eq_false_iff_ne, decide_eq_false_iff_not]
    omega), F.ri (fun c => by
    unfold sWo
    simp only [Bool.or_eq_false_iff, Bool.and_eq_false_iff, beq_eq_false_iff_ne, decide_eq_false_iff_not]
    omega)⟩
  have big : ∀ r, 80 ≤ r → r ≤ 103 → K r = I r := fun r r1 r2 => F.rg (fun i c => by
    unfold sWo
    simp only [Bool.or_eq_false_iff, Bool.and_eq_false_iff, beq_eq_false_iff_ne, decide_eq_false_iff_not]
    omega)
  exact rel_mk (F 11 0 10 rfl) (F 11 0 11 rfl) (F 11 0 12 rfl) (F 11 0 13 rfl) (F 11 0 16 rfl) h.pP
    (reF_cg (fun f _ => ⟨F.ri (fun _ => rfl), F.ri (fun _ => rfl)⟩) (fun f _ => c16_cg (fun _ _ => F 48 0 _ rfl)) (fun f _ => ⟨F 49 0 f rfl, F 50 0 f rfl⟩) (F 11 0 10 rfl) (F 12 0 1 rfl) h.pF)
    (reT_cg (F.rg (fun _ _ => rfl)) (F.rg (fun _ _ => rfl)) h.pT)
    (reR_cg (Int.le_refl _) (fun r _ => b4 r (by omega)) (F.rg (fun _ _ => rfl)) (F.rg (fun _ _ => rfl)) h.pR)
    (reH_cg (F.rg (fun _ _ => rfl)) (F.rg (fun _ _ => rfl)) (F.rg (fun _ _ => rfl)) (F.rg (fun _ _ => rfl)) (F.rg (fun _ _ => rfl)) (F.rg (fun _ _ => rfl)) (F.rg (fun _ _ => rfl)) h.pH)
    (reS_cg (F.rg (fun _ _ => rfl)) (F.rg (fun _ _ => rfl)) (F.rg (fun _ _ => rfl)) (F.rg (fun _ _ => rfl)) (F.rg (fun _ _ => rfl)) (F.rg (fun _ _ => rfl)) (F.rg (fun _ _ => rfl)) (F 12 0 33 rfl) h.pS)
    (reW_cg (F.rg (fun _ _ => rfl)) (F.rg (fun _ _ => rfl)) (F.rg (fun _ _ => rfl)) (F.rg (fun _ _ => rfl)) (F.rg (fun _ _ => rfl)) h.pW)
    (reB_cg (F.rg (fun _ _ => rfl)) (F.rg (fun _ _ => rfl)) (F.rg (fun _ _ => rfl)) (F 12 0 36 rfl) (F 12 0 43 rfl) (F 12 0 50 rfl) h.pB)
    (reM_cg (Int.le_refl _) (fun w hw => ⟨b3 w hw, F.ri (fun _ => rfl), F.ri (fun _ => rfl)⟩) (fun r r1 r2 => big r r1 (by omega)) (F 11 0 12 rfl) (F 12 0 2 rfl) h.pM)
    (reV_cg (Int.le_refl _) (Int.le_refl _) (F.rg (fun _ _ => rfl)) (fun i _ hi => b4 i hi) (fun r r1 r2 => big r (by omega) (by omega)) (F 11 0 13 rfl) (F 12 0 3 rfl) h.pV)
    hO
    (reN_cg (F 11 0 16 rfl) (F 12 0 0 rfl) h.pN)
    (reL_cg (Int.le_refl _) hf.1 (F.rg (fun _ _ => rfl)) (F.rg (fun _ _ => rfl)) (F.rg (fun _ _ => rfl)) (F.rg (fun _ _ => rfl)) (F.rg (fun _ _ => rfl)) (F.rg (fun _ _ => rfl)) (F.rg (fun _ _ => rfl)) (F.rg (fun _ _ => rfl)) (fun f _ => F 50 0 f rfl) (F 11 0 15 rfl) (F 12 0 72 rfl) h.pL)
    (reC_cg (fun f _ => F 1 f 2 rfl) (F 11 0 11 rfl) h.pC)
    (reU_cg (fun w hw => ⟨by rw [b3 w hw], F 87 0 w rfl⟩) (F.rg (fun _ _ => rfl)) (F.rg (fun _ _ => rfl)) (F 12 0 72 rfl) (F.rg (fun _ _ => rfl)) h.pU)
def sWc (n r i c : Nat) : Bool := (r == 3 && i == 20 + n) || ((r == 4 || r == 30) && i == 106 + n) || (r == 10 && i == n) || (r == 11 && c == 14)
theorem sWc_o {n : Nat} {I K : H3} (F : Fr (sWc n) I K) : Fr (sWo n) I K := F.mo (fun r i c k => by
  unfold sWo at k
  unfold sWc
  simp only [Bool.or_eq_false_iff, Bool.and_eq_false_iff, beq_eq_false_iff_ne, decide_eq_false_iff_not] at k ⊢
  omega)
section WORLD
variable {d n : Nat} {I L : H3} {t : Nat → Nat} {x1 x2 x3 x4 x5 x6 x7 x9 : Int}
theorem sp95 {r : Nat} (g : 0 ≤ I 11 0 10 ∧ I 11 0 10 ≤ 2000) (h : csP (I 11 0 10) x1 x2 x3 x4 x5 x6) (h7 : 0 ≤ x7 ∧ x7 ≤ 60) (hn : I 11 0 14 = (n : Int)) (h40 : n < 40) (hr : r < 6) (hs : I 4 r 1 ≤ 9) (hx : rv I r x9 ≠ -1) :
    ∃ J, Cal (d + 3) 95 [vr 11 0, vi x1, vi x2, vi x3, vi x4, vi x5, vi x6, vi x7, vi (r : Int), vi x9] (mk I L t) = some (vi (n : Int), mk J L t) ∧ Fr (sWc n) I J ∧ J 11 0 14 = ((n + 1 : Nat) : Int) ∧ (J 3 (20 + n) 2 = x1 ∧ J 3 (20 + n) 3 = x2 ∧ J 3 (20 + n) 4 = x3 ∧ J 3 (20 + n) 5 = x4 ∧ J 3 (20 + n) 6 = x5 ∧ J 3 (20 + n) 7 = x6) ∧ (J 10 n 2 = x7 ∧ J 10 n 3 = x9) ∧ J 4 (106 + n) 1 = I 4 r 1 ∧ (∀ p, p < 9 → J 30 (106 + n) p = I 30 r p) ∧ ∀ r, r = 10 → ∀ i, i ≠ n → J r i = I r i := by
  have nr : r ≠ 106 + n := by omega
  have e1 : w32 ((n : Int) + 1) = ((n + 1 : Nat) : Int) := lem_w32k (by omega)
  have e2 : w32 (((n + 1 : Nat) : Int) - 1) = (n : Int) := w32_m2 (by omega)
  have c1 := sp109t (d := d) (L := L) (t := t) g h
  have c2 := P21_0_0 (d := d + 2) (i0 := 20 + n) (x1 := x1) (x2 := x2) (x3 := x3) (x4 := x4) (x5 := x5) (x6 := x6) (I := I) (L := L) (t := t)
  have c3 := P28_0_0 (d := d + 1) (i0 := 106 + n) (i1 := r) (I := up3 (up3 (up3 (up3 (up3 (up3 (up3 I 3 (20 + n) 2 x1) 3 (20 + n) 3 x2) 3 (20 + n) 4 x3) 3 (20 + n) 5 x4) 3 (20 + n) 6 x5) 3 (20 + n) 7 x6) 10 n 2 x7) (L := L) (t := t)
  rw [cp_sr] at c3
  have r4 : (up3 (up3 (up3 (up3 (up3 (up3 (up3 I 3 (20 + n) 2 x1) 3 (20 + n) 3 x2) 3 (20 + n) 4 x3) 3 (20 + n) 5 x4) 3 (20 + n) 6 x5) 3 (20 + n) 7 x6) 10 n 2 x7) 4 = I 4 := by
    rw [up_r (show (4 : Nat) ≠ 10 by decide), up_r (show (4 : Nat) ≠ 3 by decide), up_r (show (4 : Nat) ≠ 3 by decide), up_r (show (4 : Nat) ≠ 3 by decide), up_r (show (4 : Nat) ≠ 3 by decide), up_r (show (4 : Nat) ≠ 3 by decide), up_r (show (4 : Nat) ≠ 3 by decide)]
  have r30 : (up3 (up3 (up3 (up3 (up3 (up3 (up3 I 3 (20 + n) 2 x1) 3 (20 + n) 3 x2) 3 (20 + n) 4 x3) 3 (20 + n) 5 x4) 3 (20 + n) 6 x5) 3 (20 + n) 7 x6) 10 n 2 x7) 30 = I 30 := by
    rw [up_r (show (30 : Nat) ≠ 10 by decide), up_r (show (30 : Nat) ≠ 3 by decide), up_r (show (30 : Nat) ≠ 3 by decide), up_r (show (30 : Nat) ≠ 3 by decide), up_r (show (30 : Nat) ≠ 3 by decide), up_r (show (30 : Nat) ≠ 3 by decide), up_r (show (30 : Nat) ≠ 3 by decide)]
  have F6 : Fr (sWc n) I (up3 (up3 (up3 (up3 (up3 (up3 (up3 I 3 (20 + n) 2 x1) 3 (20 + n) 3 x2) 3 (20 + n) 4 x3) 3 (20 + n) 5 x4) 3 (20 + n) 6 x5) 3 (20 + n) 7 x6) 10 n 2 x7) :=
    ((((((Fr.rfl'.up (by simp [sWc])).up (by simp [sWc])).up (by simp [sWc])).up (by simp [sWc])).up (by simp [sWc])).up (by simp [sWc])).up (by simp [sWc])
  have F3 := (F6.up (r := 4) (i := 106 + n) (s := 1) (x := I 4 r 1) (by simp [sWc])).wr (r := 30) (i := 106 + n) (n := 9) (f := I 30 r) (fun c _ => by simp [sWc])
  rw [up_r (show (30 : Nat) ≠ 4 by decide), r4, r30] at c3
  have e14 : sr (up3 (up3 (up3 (up3 (up3 (up3 (up3 (up3 I 3 (20 + n) 2 x1) 3 (20 + n) 3 x2) 3 (20 + n) 4 x3) 3 (20 + n) 5 x4) 3 (20 + n) 6 x5) 3 (20 + n) 7 x6) 10 n 2 x7) 4 (106 + n) 1 (I 4 r 1)) 30 (106 + n) 9 (I 30 r) 11 0 14 = (n : Int) := by
    rw [sr_r (show (11 : Nat) ≠ 30 by decide), up_r (show (11 : Nat) ≠ 4 by decide), up_r (show (11 : Nat) ≠ 10 by decide), up_r (show (11 : Nat) ≠ 3 by decide), up_r (show (11 : Nat) ≠ 3 by decide), up_r (show (11 : Nat) ≠ 3 by decide), up_r (show (11 : Nat) ≠ 3 by decide), up_r (show (11 : Nat) ≠ 3 by decide), up_r (show (11 : Nat) ≠ 3 by decide)]
    exact hn
  have c := P95_0_4 (d := d + 1) (x9 := x9) (c1 := c1) (h1 := h7) (h2 := by rw [hn]; omega) (h3 := show 0 ≤ (r : Int) ∧ (r : Int) < 6 by omega) (g1 := by rw [Int.toNat_natCast]; exact hs) (h4 := by rw [Int.toNat_natCast]; exact hx) (g2 := by rw [hn]; omega) (c2 := by rw [hn, Int.toNat_natCast]; exact c2) (c3 := by rw [hn, Int.toNat_natCast, Int.toNat_natCast]; exact c3)
  rw [e14, e1, e2, hn, Int.toNat_natCast] at c
  refine ⟨_, c, (F3.up (by simp [sWc])).up (by simp [sWc]), up_e, ?_, ?_, ?_, ?_, ?_⟩
  · rw [up_r (show (3 : Nat) ≠ 11 by decide), up_r (show (3 : Nat) ≠ 10 by decide), sr_r (show (3 : Nat) ≠ 30 by decide), up_r (show (3 : Nat) ≠ 4 by decide), up_r (show (3 : Nat) ≠ 10 by decide)]
    refine ⟨?_, ?_, ?_, ?_, ?_, up_e⟩
    · rw [up_s (by decide), up_s (by decide), up_s (by decide), up_s (by decide), up_s (by decide), up_e]
    · rw [up_s (by decide), up_s (by decide), up_s (by decide), up_s (by decide), up_e]
    · rw [up_s (by decide), up_s (by decide), up_s (by decide), up_e]
    · rw [up_s (by decide), up_s (by decide), up_e]
    · rw [up_s (by decide), up_e]
  · rw [up_r (show (10 : Nat) ≠ 11 by decide)]
    refine ⟨?_, up_e⟩
    rw [up_s (by decide), sr_r (show (10 : Nat) ≠ 30 by decide), up_r (show (10 : Nat) ≠ 4 by decide), up_e]
  · rw [up_r (show (4 : Nat) ≠ 11 by decide), up_r (show (4 : Nat) ≠ 10 by decide), sr_r (show (4 : Nat) ≠ 30 by decide), up_e]
  · intro p hp
    rw [up_r (show (30 : Nat) ≠ 11 by decide), up_r (show (30 : Nat) ≠ 10 by decide), sr_lt hp]
  · intro r hr i hi
    subst hr
    rw [up_r (show (10 : Nat) ≠ 11 by decide), up_i hi, sr_r (show (10 : Nat) ≠ 30 by decide), up_r (show (10 : Nat) ≠ 4 by decide), up_i hi, up_r (show (10 : Nat) ≠ 3 by decide), up_r (show (10 : Nat) ≠ 3 by decide), up_r (show (10 : Nat) ≠ 3 by decide), up_r (show (10 : Nat) ≠ 3 by decide), up_r (show (10 : Nat) ≠ 3 by decide), up_r (show (10 : Nat) ≠ 3 by decide)]
theorem l226 {x8 : Int} {m len : Nat} (hm : m < 40) (h9 : len ≤ 9) (e12 : I 12 0 12 = (len : Int)) (e4 : I 12 0 4 = (m : Int)) : ∀ (n j : Nat), j + n = len → Res (d + 2) 226 194 [vr 12 0, vi x1, vi x2, vi x3, vi x4, vi x5, vi x6, vi x7, vi x8, vi x9, vi (m : Int), vi (j : Int)] [] (mk (sb I 112 0 (9 * m) j (I 54 0)) L t) = some (vi (m : Int), mk (up3 (up3 (sb I 112 0 (9 * m) len (I 54 0)) 114 0 m x9) 12 0 4 ((m + 1 : Nat) : Int)) L t)
  | 0, j, hj => by
    have hj' : j = len := by omega
    subst hj'
    refine Eq.trans (P226_194_1 (h1 := by rw [sb_r (show (12 : Nat) ≠ 112 by decide), e12]; omega) (g1 := by omega)) ?_
    rw [sb_r (show (12 : Nat) ≠ 112 by decide), e4, lem_w32k (k := m) (by omega), Int.toNat_natCast]
  | n + 1, j, hj => by
    have e1 := ix9 (f := m) (k := j) (by omega) (by omega)
    refine Eq.trans (P226_194_0 (h1 := by rw [sb_r (show (12 : Nat) ≠ 112 by decide), e12]; omega) (g1 := by omega) (g2 := by rw [e1]; omega)) ?_
    rw [e1, lem_w32k (k := j) (by omega), Int.toNat_natCast, Int.toNat_natCast, sb_r (show (54 : Nat) ≠ 112 by decide), sb_s (I := I) (r := 112) (i := 0) (b := 9 * m) (n := j) (f := I 54 0)]
    exact l226 hm h9 e12 e4 n (j + 1) (by omega)
theorem sLn_q {J : H3} (F : Fr sLn I J) : Fr sQ I J := sMs_q (sLn_s F)
theorem sp226f {x8 : Int} (g : 0 ≤ I 12 0 1 ∧ I 12 0 1 ≤ 2000) (h : ¬ csP (I 12 0 1) x1 x2 x3 x4 x5 x6) : Cal (d + 3) 226 [vr 12 0, vi x1, vi x2, vi x3, vi x4, vi x5, vi x6, vi x7, vi x8, vi x9] (mk I L t) = some (vi (-1), mk I L t) := by
  by_cases h1 : 0 ≤ x1 ∧ x1 < 4
  · by_cases h2 : 0 ≤ x2 ∧ x2 < 6
    · by_cases h3 : 0 ≤ x3 ∧ x3 < I 12 0 1
      · by_cases h4 : 0 ≤ x4 ∧ x4 ≤ 999
        · by_cases h5 : 0 ≤ x5 ∧ x5 ≤ 9
          · exact P226_0_5 (d := d + 1) (h1 := h1) (h2 := h2) (g1 := g) (h3 := h3) (h4 := h4) (h5 := h5) (h6 := fun h6 => h ⟨by omega, by omega, h3, h4, h5, h6⟩)
          · exact P226_0_4 (d := d + 1) (h1 := h1) (h2 := h2) (g1 := g) (h3 := h3) (h4 := h4) (h5 := h5)
        · exact P226_0_3 (d := d + 1) (h1 := h1) (h2 := h2) (g1 := g) (h3 := h3) (h4 := h4)
      · exact P226_0_2 (d := d + 1) (h1 := h1) (h2 := h2) (g1 := g) (h3 := h3)
    · exact P226_0_1 (d := d + 1) (h1 := h1) (h2 := h2)
  · exact P226_0_0 (d := d + 1) (h1 := h1)
end WORLD
theorem both_world (x1 x2 x3 x4 x5 x6 x7 x8 x9 : Int) : Both 95 226 [vi x1, vi x2, vi x3, vi x4, vi x5, vi x6, vi x7, vi x8, vi x9] := fun d I L t h => by
  have hf := h.pF.1
  have ef := h.pF.2.1
  have O := h.pO
  have ob := O.2.1
  have o1 := O.1
  have gc : 0 ≤ I 11 0 10 ∧ I 11 0 10 ≤ 2000 := by omega
  have gm : 0 ≤ I 12 0 1 ∧ I 12 0 1 ≤ 2000 := by omega
  by_cases a : csP (I 11 0 10) x1 x2 x3 x4 x5 x6
  · have c1 := sp109t (d := d + 47) (L := L) (t := t) gc a
    obtain ⟨a1, a2, a3, a4, a5, a6⟩ := id a
    have m1 : 0 ≤ x1 ∧ x1 < 4 := by omega
    have m2 : 0 ≤ x2 ∧ x2 < 6 := by omega
    have m3 : 0 ≤ x3 ∧ x3 < I 12 0 1 := by omega
    by_cases b : 0 ≤ x7 ∧ x7 ≤ 60
    · by_cases e : 0 ≤ x8 ∧ x8 < 6
      · by_cases f : I 11 0 14 < 40
        · obtain ⟨r, rfl⟩ : ∃ r : Nat, x8 = (r : Int) := ⟨x8.toNat, by omega⟩
          have hr : r < 6 := by omega
          obtain ⟨q1, q2, q3⟩ := h.rw' hr
          have rr := h.pR r hr
          by_cases g : rv I r x9 = -1
          · have cc := P95_0_3 (d := d + 48) (c1 := c1) (h1 := b) (h2 := f) (h3 := e) (x9 := x9) (g1 := by rw [Int.toNat_natCast]; exact q1.1) (h4 := by rw [Int.toNat_natCast]; exact g)
            obtain ⟨J1, t1, F1, e1, v1, ln1⟩ := sp156 (d := d + 49) (L := L) (t := t) hr q2
            have l1 := ln1.1
            by_cases k : 0 ≤ x9 ∧ x9 < J1 12 0 12
            · have z : J1 54 0 x9.toNat = -1 := by
                have := congrFun v1 x9
                rw [q3, g] at this
                unfold mrv at this
                rw [rvP_pos k] at this
                exact this
              exact ⟨-1, I, L, J1, L, t, cc, P226_0_10 (d := d + 48) (h1 := m1) (h2 := m2) (g1 := gm) (h3 := m3) (h4 := a4) (h5 := a5) (h6 := a6) (h7 := b) (h8 := e) (h9 := by omega) (c1 := t1) (g2 := by omega) (h10 := k) (g3 := by omega) (h11 := z), q_rel (sLn_q F1) h⟩
            · exact ⟨-1, I, L, J1, L, t, cc, P226_0_9 (d := d + 48) (h1 := m1) (h2 := m2) (g1 := gm) (h3 := m3) (h4 := a4) (h5 := a5) (h6 := a6) (h7 := b) (h8 := e) (h9 := by omega) (c1 := t1) (g2 := by omega) (h10 := k), q_rel (sLn_q F1) h⟩
          · obtain ⟨n, hn⟩ : ∃ n : Nat, I 11 0 14 = (n : Int) := ⟨(I 11 0 14).toNat, by omega⟩
            have h40 : n < 40 := by omega
            obtain ⟨J, cc, FJ, j14, ⟨j2, j3, j4, j5, j6, j7⟩, ⟨k2, k3⟩, js, jp, j10⟩ := sp95 (d := d + 47) (L := L) (t := t) (x7 := x7) gc a b hn h40 hr q1.1 g
            -- the model
            have e53 : J 53 = I 53 := FJ.rg (fun _ _ => rfl)
            have e52 : J 52 = I 52 := FJ.rg (fun _ _ => rfl)
            have em : mrw J r = mrw I r := by unfold mrw; rw [e53, e52]
            have okJ : mrOk J r := by unfold mrOk; rw [em, e53]; exact q2
            obtain ⟨J1, t1, F1, e1, v1, ln1⟩ := sp156 (d := d + 49) (I := J) (L := L) (t := t) hr okJ
            have l1 := ln1.1
            obtain ⟨len, hlen⟩ : ∃ len : Nat, J1 12 0 12 = (len : Int) := ⟨(J1 12 0 12).toNat, by omega⟩
            have v9 : mrv J1 x9 ≠ -1 := by rw [v1, em, q3]; exact g
            have k : 0 ≤ x9 ∧ x9 < J1 12 0 12 := by
              refine Classical.byContradiction (fun z => v9 ?_)
              unfold mrv
              exact rvP_neg z
            have z : ¬ J1 54 0 x9.toNat = -1 := by
              unfold mrv at v9
              rw [rvP_pos k] at v9
              exact v9
            have e4 : J1 12 0 4 = (n : Int) := by rw [F1 12 0 4 rfl, FJ 12 0 4 rfl, o1, hn]
            have cm0 := P226_0_11 (d := d + 48) (I := J) (L := L) (t := t) (x9 := x9) (h1 := m1) (h2 := m2) (g1 := by rw [FJ 12 0 1 rfl]; exact gm) (h3 := by rw [FJ 12 0 1 rfl]; exact m3) (h4 := a4) (h5 := a5) (h6 := a6) (h7 := b) (h8 := e) (h9 := by rw [← F1 12 0 4 rfl, e4]; omega) (c1 := t1) (g2 := by omega) (h10 := k) (g3 := by omega) (h11 := z) (g4 := by omega)
            rw [e4, hlen, Int.toNat_natCast] at cm0
            obtain ⟨M, hM⟩ : ∃ M : H3, M = up3 (up3 (up3 (up3 (up3 (up3 (up3 (up3 J1 105 0 n x1) 106 0 n x2) 107 0 n x3) 108 0 n x4) 109 0 n x5) 110 0 n x6) 111 0 n x7) 113 0 n (len : Int) := ⟨_, rfl⟩
            rw [← hM] at cm0
            have FM : Fr (fun r _ _ => decide (105 ≤ r ∧ r ≤ 113)) J1 M := by
              rw [hM]
              exact (((((((Fr.rfl'.up rfl).up rfl).up rfl).up rfl).up rfl).up rfl).up rfl).up rfl
            have M105 : M 105 0 n = x1 := by rw [hM]; simp [up3]
            have M106 : M 106 0 n = x2 := by rw [hM]; simp [up3]
            have M107 : M 107 0 n = x3 := by rw [hM]; simp [up3]
            have M108 : M 108 0 n = x4 := by rw [hM]; simp [up3]
            have M109 : M 109 0 n = x5 := by rw [hM]; simp [up3]
            have M110 : M 110 0 n = x6 := by rw [hM]; simp [up3]
            have M111 : M 111 0 n = x7 := by rw [hM]; simp [up3]
            have M113 : M 113 0 n = (len : Int) := by rw [hM]; simp [up3]
            have Mo : ∀ r i, i ≠ n → M r 0 i = J1 r 0 i := fun r i hi => by rw [hM]; simp [up3, hi]
            have M112 : M 112 = J1 112 := by rw [hM, up_r (show (112 : Nat) ≠ 113 by decide), up_r (show (112 : Nat) ≠ 111 by decide), up_r (show (112 : Nat) ≠ 110 by decide), up_r (show (112 : Nat) ≠ 109 by decide), up_r (show (112 : Nat) ≠ 108 by decide), up_r (show (112 : Nat) ≠ 107 by decide), up_r (show (112 : Nat) ≠ 106 by decide), up_r (show (112 : Nat) ≠ 105 by decide)]
            have M12 : M 12 = J1 12 := FM.rg (fun _ _ => rfl)
            have M54 : M 54 = J1 54 := FM.rg (fun _ _ => rfl)
            have len9 : len ≤ 9 := by omega
            have cm1 := l226 (d := d + 48) (I := M) (L := L) (t := t) (x1 := x1) (x2 := x2) (x3 := x3) (x4 := x4) (x5 := x5) (x6 := x6) (x7 := x7) (x9 := x9) (x8 := (r : Int)) (m := n) (len := len) h40 len9 (by rw [M12]; exact hlen) (by rw [M12]; exact e4) len 0 (by omega)
            rw [sb_0, M54] at cm1
            obtain ⟨K, hK⟩ : ∃ K : H3, K = up3 (up3 (sb M 112 0 (9 * n) len (J1 54 0)) 114 0 n x9) 12 0 4 ((n + 1 : Nat) : Int) := ⟨_, rfl⟩
            rw [← hK] at cm1
            have FK : Fr (sWo n) J1 K := by
              rw [hK]
              refine Fr.up (Fr.up (Fr.st (FM.mo (fun r i c k => ?_)) (fun c _ _ => by simp [sWo])) (by simp [sWo])) (by simp [sWo])
              unfold sWo at k
              simp only [Bool.or_eq_false_iff, Bool.and_eq_false_iff, beq_eq_false_iff_ne, decide_eq_false_iff_not] at k ⊢
              omega
            have kJ : ∀ r, r < 12 ∨ r = 30 → K r = J r := fun r hr => by
              rw [hK, up_r (show r ≠ 12 by omega), up_r (show r ≠ 114 by omega), sb_r (show r ≠ 112 by omega), FM.rg (r := r) (fun _ _ => by simp only [decide_eq_false_iff_not]; omega), F1.rg (r := r) (fun _ c => by
                unfold sLn
                simp only [Bool.or_eq_false_iff, Bool.and_eq_false_iff, beq_eq_false_iff_ne]
                omega)]
            have kM : ∀ r, 105 ≤ r → r ≤ 113 → r ≠ 112 → K r = M r := fun r r1 r2 r3 => by
              rw [hK, up_r (show r ≠ 12 by omega), up_r (show r ≠ 114 by omega), sb_r r3]
            have k114 : ∀ i, K 114 0 i = if i = n then x9 else I 114 0 i := fun i => by
              rw [hK, up_r (show (114 : Nat) ≠ 12 by decide)]
              by_cases q : i = n
              · subst q
                rw [up_e, if_pos rfl]
              · rw [up_s q, if_neg q, sb_r (show (114 : Nat) ≠ 112 by decide), FM 114 0 i rfl, F1 114 0 i rfl, FJ 114 0 i rfl]
            have G : Fr (sWo n) I K := ((sWc_o FJ).tr (F1.mo (fun r i c k => by
              unfold sWo at k
              unfold sLn
              simp only [Bool.or_eq_false_iff, Bool.and_eq_false_iff, beq_eq_false_iff_ne, decide_eq_false_iff_not] at k ⊢
              omega))).tr FK
            have k14 : K 11 0 14 = ((n + 1 : Nat) : Int) := by rw [kJ 11 (by omega), j14]
            have k4 : K 12 0 4 = ((n + 1 : Nat) : Int) := by rw [hK, up_e]
            refine ⟨_, _, L, _, L, t, cc, Eq.trans cm0 cm1, rel_O h G ⟨by rw [k14, k4], by rw [k14]; omega, fun i hi => ?_⟩⟩
            rw [k14] at hi
            by_cases q : i = n
            · subst q
              unfold rwi
              rw [kM 105 (by decide) (by decide) (by decide), kM 106 (by decide) (by decide) (by decide), kM 107 (by decide) (by decide) (by decide), kM 108 (by decide) (by decide) (by decide), kM 109 (by decide) (by decide) (by decide), kM 110 (by decide) (by decide) (by decide), kM 111 (by decide) (by decide) (by decide), kM 113 (by decide) (by decide) (by decide), k114, if_pos rfl, kJ 3 (by omega), kJ 10 (by omega), kJ 4 (by omega), kJ 30 (by omega), M105, M106, M107, M108, M109, M110, M111, M113, j2, j3, j4, j5, j6, j7, k2, k3, js]
              have elen : (len : Int) = I 4 r 1 := by rw [← hlen, e1, e53, rr.1]
              refine ⟨⟨rfl, m1⟩, rfl, ⟨rfl, a3⟩, ⟨rfl, rfl, rfl⟩, ⟨rfl, b⟩, ⟨elen, rr.2.1, fun p hp => ?_⟩, rfl⟩
              have hp9 : p < 9 := by omega
              have hpl : p < len := by omega
              rw [jp p hp9]
              have w := rr.2.2 p hp
              have v : J1 54 0 p = I 52 0 (9 * r + p) := by
                have v' := congrFun v1 (p : Int)
                rw [mrv_at (by omega), em] at v'
                unfold mrw at v'
                rw [rvP_pos (by rw [rr.1]; omega), Int.toNat_natCast] at v'
                exact v'
              have kk : K 112 0 (9 * i + p) = J1 54 0 p := by
                rw [hK, up_r (show (112 : Nat) ≠ 12 by decide), up_r (show (112 : Nat) ≠ 114 by decide), sb_in hpl]
              show K 112 0 (9 * i + p) = _ ∧ _
              rw [kk, v]
              exact w
            · have hin : i < n := by omega
              refine rwi_cg (Int.le_refl _) ?_ ?_ ?_ ?_ (fun r r1 r2 => ?_) ?_ ?_ (fun p hp => ?_) (O.2.2 i (by omega))
              · exact G.ri (fun c => by
                  unfold sWo
                  simp only [Bool.or_eq_false_iff, Bool.and_eq_false_iff, beq_eq_false_iff_ne, decide_eq_false_iff_not]
                  omega)
              · rw [kJ 10 (by omega), j10 10 rfl i q]
              · exact G.ri (fun c => by
                  unfold sWo
                  simp only [Bool.or_eq_false_iff, Bool.and_eq_false_iff, beq_eq_false_iff_ne, decide_eq_false_iff_not]
                  omega)
              · exact G.ri (fun c => by
                  unfold sWo
                  simp only [Bool.or_eq_false_iff, Bool.and_eq_false_iff, beq_eq_false_iff_ne, decide_eq_false_iff_not]
                  omega)
              · rw [kM r r1 (by omega) (by omega), Mo r i q, F1.rg (r := r) (fun _ c => by
                  unfold sLn
                  simp only [Bool.or_eq_false_iff, Bool.and_eq_false_iff, beq_eq_false_iff_ne]
                  omega), FJ.rg (r := r) (fun i c => by
                  unfold sWc
                  simp only [Bool.or_eq_false_iff, Bool.and_eq_false_iff, beq_eq_false_iff_ne]
                  omega)]
              · rw [kM 113 (by decide) (by decide) (by decide), Mo 113 i q, F1 113 0 i rfl, FJ 113 0 i rfl]
              · rw [k114, if_neg q]
              · rw [hK, up_r (show (112 : Nat) ≠ 12 by decide), up_r (show (112 : Nat) ≠ 114 by decide), sb_out (Or.inl (by omega)), M112, F1 112 0 _ rfl, FJ 112 0 _ rfl]
        · refine ⟨-1, I, L, I, L, t, ?_, P226_0_8 (d := d + 48) (h1 := m1) (h2 := m2) (g1 := gm) (h3 := m3) (h4 := a4) (h5 := a5) (h6 := a6) (h7 := b) (h8 := e) (h9 := by omega), h⟩
          exact P95_0_1 (d := d + 48) (c1 := c1) (h1 := b) (h2 := by omega)
      · refine ⟨-1, I, L, I, L, t, ?_, P226_0_7 (d := d + 48) (h1 := m1) (h2 := m2) (g1 := gm) (h3 := m3) (h4 := a4) (h5 := a5) (h6 := a6) (h7 := b) (h8 := e), h⟩
        by_cases f : I 11 0 14 < 40
        · exact P95_0_2 (d := d + 48) (c1 := c1) (h1 := b) (h2 := f) (h3 := e)
        · exact P95_0_1 (d := d + 48) (c1 := c1) (h1 := b) (h2 := by omega)
    · exact ⟨-1, I, L, I, L, t, P95_0_0 (d := d + 48) (c1 := c1) (h1 := b), P226_0_6 (d := d + 48) (h1 := m1) (h2 := m2) (g1 := gm) (h3 := m3) (h4 := a4) (h5 := a5) (h6 := a6) (h7 := b), h⟩
  · exact ⟨-1, I, L, I, L, t, P95_0_5 (d := d + 48) (c1 := sp109f (d := d + 47) gc a), sp226f (d := d + 47) gm (by rw [ef]; exact a), h⟩
