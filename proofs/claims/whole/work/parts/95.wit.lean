/-! witness -/
def sWw (n r i c : Nat) : Bool := r == 13 || r == 27 || ((r == 28 || r == 29 || r == 3) && i == n) || (r == 11 && c == 12) || decide (80 ≤ r ∧ r ≤ 89) || r == 93 || (r == 12 && (c == 2 || c == 54 || c == 55)) || r == 63 || r == 75 || r == 76
theorem rel_W {I K : H3} {t : Nat → Nat} {n : Nat} (h : Rel I t) (hn : n < 20) (F : Fr (sWw n) I K) (hle : I 11 0 12 ≤ K 11 0 12) (pM : reM (I 11 0 10) (I 11 0 16) K) (pL : reL (I 11 0 10) (K 11 0 12) (I 11 0 13) (I 11 0 16) (I 11 0 11) K) (pU : reU (K 11 0 12) K) : Rel K t := by
  have hf := h.pF.1
  have b3 : ∀ w, 20 ≤ w → K 3 w = I 3 w := fun w hw => F.ri (fun c => by
    unfold sWw
    simp only [Bool.or_eq_false_iff, Bool.and_eq_false_iff, beq_eq_false_iff_ne, decide_eq_false_iff_not]
    omega)
  have big : ∀ r, 94 ≤ r → r ≤ 114 → K r = I r := fun r r1 r2 => F.rg (fun i c => by
    unfold sWw
    simp only [Bool.or_eq_false_iff, Bool.and_eq_false_iff, beq_eq_false_iff_ne, decide_eq_false_iff_not]
    omega)
  exact rel_mk (F 11 0 10 rfl) (F 11 0 11 rfl) rfl (F 11 0 13 rfl) (F 11 0 16 rfl) h.pP
    (reF_cg (fun f _ => ⟨F.ri (fun _ => rfl), F.ri (fun _ => rfl)⟩) (fun f _ => c16_cg (fun _ _ => F 48 0 _ rfl)) (fun f _ => ⟨F 49 0 f rfl, F 50 0 f rfl⟩) (F 11 0 10 rfl) (F 12 0 1 rfl) h.pF)
    (reT_cg (F.rg (fun _ _ => rfl)) (F.rg (fun _ _ => rfl)) h.pT)
    (reR_cg (Int.le_refl _) (fun r _ => ⟨F.ri (fun _ => rfl), F.ri (fun _ => rfl)⟩) (F.rg (fun _ _ => rfl)) (F.rg (fun _ _ => rfl)) h.pR)
    (reH_cg (F.rg (fun _ _ => rfl)) (F.rg (fun _ _ => rfl)) (F.rg (fun _ _ => rfl)) (F.rg (fun _ _ => rfl)) (F.rg (fun _ _ => rfl)) (F.rg (fun _ _ => rfl)) (F.rg (fun _ _ => rfl)) h.pH)
    (reS_cg (F.rg (fun _ _ => rfl)) (F.rg (fun _ _ => rfl)) (F.rg (fun _ _ => rfl)) (F.rg (fun _ _ => rfl)) (F.rg (fun _ _ => rfl)) (F.rg (fun _ _ => rfl)) (F.rg (fun _ _ => rfl)) (F 12 0 33 rfl) h.pS)
    (reW_cg (F.rg (fun _ _ => rfl)) (F.rg (fun _ _ => rfl)) (F.rg (fun _ _ => rfl)) (F.rg (fun _ _ => rfl)) (F.rg (fun _ _ => rfl)) h.pW)
    (reB_cg (F.rg (fun _ _ => rfl)) (F.rg (fun _ _ => rfl)) (F.rg (fun _ _ => rfl)) (F 12 0 36 rfl) (F 12 0 43 rfl) (F 12 0 50 rfl) h.pB)
    pM
    (reV_cg (Int.le_refl _) hle (F.rg (fun _ _ => rfl)) (fun i _ _ => ⟨F.ri (fun _ => rfl), F.ri (fun _ => rfl)⟩) (fun r r1 r2 => big r r1 (by omega)) (F 11 0 13 rfl) (F 12 0 3 rfl) h.pV)
    (reO_cg (Int.le_refl _) (fun i hi _ => b3 i hi) (F.rg (fun _ _ => rfl)) (fun i hi => ⟨F.ri (fun _ => rfl), F.ri (fun _ => rfl)⟩) (fun r r1 r2 => big r (by omega) r2) (F 11 0 14 rfl) (F 12 0 4 rfl) h.pO)
    (reN_cg (F 11 0 16 rfl) (F 12 0 0 rfl) h.pN)
    pL
    (reC_cg (fun f _ => F 1 f 2 rfl) (F 11 0 11 rfl) h.pC) pU
def sWi (n r i c : Nat) : Bool := r == 13 || r == 27 || ((r == 28 || r == 29 || r == 3) && i == n) || (r == 11 && c == 12)
theorem sWi_w {n : Nat} {I K : H3} (F : Fr (sWi n) I K) : Fr (sWw n) I K := F.mo (fun r i c k => by
  unfold sWw at k
  unfold sWi
  simp only [Bool.or_eq_false_iff, Bool.and_eq_false_iff, beq_eq_false_iff_ne, decide_eq_false_iff_not] at k ⊢
  omega)
section WIT
variable {d n : Nat} {I L : H3} {t : Nat → Nat} {x1 x2 x3 x4 x5 x6 : Int}
theorem sp81 (h : Rel I t) (a : csP (I 11 0 10) x1 x2 x3 x4 x5 x6) (hn : I 11 0 12 = (n : Int)) (h20 : n < 20) :
    ∃ J, Cal (d + 4) 81 [vr 11 0, vi x1, vi x2, vi x3, vi x4, vi x5, vi x6] (mk I L t) = some (vi (n : Int), mk J L t) ∧ Fr (sWi n) I J ∧ J 11 0 12 = ((n + 1 : Nat) : Int) ∧ (J 3 n 2 = x1 ∧ J 3 n 3 = x2 ∧ J 3 n 4 = x3 ∧ J 3 n 5 = x4 ∧ J 3 n 6 = x5 ∧ J 3 n 7 = x6 ∧ J 3 n 8 = 0 ∧ J 3 n 9 = I 11 0 16 ∧ J 3 n 10 = 0) ∧ c16 (J 28 n) = seeP (ans (hC I (t x1.toNat))) (gvT x4 x5 x6 0) (I 22 x3.toNat) ∧ c16 (J 29 n) = c16 (I 115 (I 1 x3.toNat 1).toNat) := by
  have hf := h.pF.1
  have e1 : w32 ((n : Int) + 1) = ((n + 1 : Nat) : Int) := lem_w32k (by omega)
  have e2 : w32 (((n + 1 : Nat) : Int) - 1) = (n : Int) := w32_m2 (by omega)
  obtain ⟨a1, a2, a3, a4, a5, a6⟩ := id a
  have c1 := sp109t (d := d + 1) (L := L) (t := t) (by omega) a
  have c2 := P21_0_0 (d := d + 3) (i0 := n) (x1 := x1) (x2 := x2) (x3 := x3) (x4 := x4) (x5 := x5) (x6 := x6) (I := I) (L := L) (t := t)
  obtain ⟨A, hA⟩ : ∃ A : H3, A = up3 (up3 (up3 (up3 (up3 (up3 (up3 I 3 n 2 x1) 3 n 3 x2) 3 n 4 x3) 3 n 5 x4) 3 n 6 x5) 3 n 7 x6) 3 n 9 (I 11 0 16) := ⟨_, rfl⟩
  have FA : Fr (fun r i c => r == 3 && i == n && decide (2 ≤ c ∧ c ≤ 9 ∧ c ≠ 8)) I A := by
    rw [hA]
    exact ((((((Fr.rfl'.up (by simp)).up (by simp)).up (by simp)).up (by simp)).up (by simp)).up (by simp)).up (by simp)
  have s2 : A 3 n 2 = x1 := by rw [hA]; simp [up3]
  have s3 : A 3 n 3 = x2 := by rw [hA]; simp [up3]
  have s4 : A 3 n 4 = x3 := by rw [hA]; simp [up3]
  have s5 : A 3 n 5 = x4 := by rw [hA]; simp [up3]
  have s6 : A 3 n 6 = x5 := by rw [hA]; simp [up3]
  have s7 : A 3 n 7 = x6 := by rw [hA]; simp [up3]
  have s9 : A 3 n 9 = I 11 0 16 := by rw [hA]; simp [up3]
  have s8 : A 3 n 8 = 0 := by
    rw [FA 3 n 8 (by simp)]
    exact (h.pU.1 n (by omega) h20).1
  have eo : ∀ r, r ≠ 3 → A r = I r := fun r hr => FA.rg (fun _ _ => by
    simp only [Bool.and_eq_false_iff, beq_eq_false_iff_ne, decide_eq_false_iff_not]
    omega)
  have hh := h.pH x1.toNat (by omega)
  have eC : hC A = hC I := hC_cg (eo 23 (by decide)) (eo 24 (by decide)) (eo 25 (by decide)) (eo 26 (by decide))
  have m : mOk A t n := by
    unfold mOk
    rw [s2, eC]
    refine ⟨by omega, hOk_cg (eo 25 (by decide)) (eo 26 (by decide)) hh.2.1, ?_⟩
    rw [hh.1]
    exact hh.2.2.2
  have fc : fcOk A := by
    unfold fcOk
    rw [eo 22 (by decide)]
    exact h.fc
  have sn : snOk A n := by
    unfold snOk
    rw [s4]
    omega
  have kin := h.k x3.toNat (by omega)
  have c3 := P118_0_0 (d := d + 3) (i1 := n) (I := A) (L := L) (t := t) (g1 := by rw [s4]; omega) (g2 := by rw [s4, eo 1 (by decide)]; exact kin)
  obtain ⟨J, c4, FJ, v28, v29, v10⟩ := s119a (d := d) (L := L) (k := (I 1 x3.toNat 1).toNat) m fc sn
  rw [s4, eo 1 (by decide)] at c3
  have e11 : J 11 0 12 = (n : Int) := by rw [FJ 11 0 12 rfl, eo 11 (by decide), hn]
  have e11a : up3 (up3 (up3 (up3 (up3 (up3 I 3 n 2 x1) 3 n 3 x2) 3 n 4 x3) 3 n 5 x4) 3 n 6 x5) 3 n 7 x6 11 0 16 = I 11 0 16 := by
    rw [up_r (show (11 : Nat) ≠ 3 by decide), up_r (show (11 : Nat) ≠ 3 by decide), up_r (show (11 : Nat) ≠ 3 by decide), up_r (show (11 : Nat) ≠ 3 by decide), up_r (show (11 : Nat) ≠ 3 by decide), up_r (show (11 : Nat) ≠ 3 by decide)]
  have c := P81_0_1 (d := d + 3) (c1 := c1) (h1 := by rw [hn]; omega) (g1 := by rw [hn]; omega) (c2 := by rw [hn, Int.toNat_natCast]; exact c2) (c3 := by rw [hn, Int.toNat_natCast, e11a, ← hA]; exact c3) (c4 := by rw [hn, Int.toNat_natCast]; exact c4)
  rw [e11, e1, e2] at c
  have FJ3 : ∀ c, c ≠ 10 → J 3 n c = A 3 n c := fun c hc => FJ 3 n c (by simp [sSe, hc])
  have u3 : ∀ c, up3 J 11 0 12 ((n + 1 : Nat) : Int) 3 n c = J 3 n c := fun c => by rw [up_r (show (3 : Nat) ≠ 11 by decide)]
  refine ⟨_, c, ((FA.mo (fun r i c k => ?_)).tr (FJ.mo (fun r i c k => ?_))).up (by simp [sWi]), up_e, ?_, ?_, ?_⟩
  · unfold sWi at k
    simp only [Bool.or_eq_false_iff, Bool.and_eq_false_iff, beq_eq_false_iff_ne, decide_eq_false_iff_not] at k ⊢
    omega
  · unfold sWi at k
    unfold sSe
    simp only [Bool.or_eq_false_iff, Bool.and_eq_false_iff, beq_eq_false_iff_ne, decide_eq_false_iff_not] at k ⊢
    omega
  · rw [u3, u3, u3, u3, u3, u3, u3, u3, u3, FJ3 2 (by decide), FJ3 3 (by decide), FJ3 4 (by decide), FJ3 5 (by decide), FJ3 6 (by decide), FJ3 7 (by decide), FJ3 8 (by decide), FJ3 9 (by decide)]
    exact ⟨s2, s3, s4, s5, s6, s7, s8, s9, v10⟩
  · rw [up_r (show (28 : Nat) ≠ 11 by decide), v28]
    unfold aW gvD
    rw [s2, s4, s5, s6, s7, s8, eC, eo 22 (by decide)]
    rfl
  · rw [up_r (show (29 : Nat) ≠ 11 by decide), v29, eo 115 (by decide)]
theorem l199 {f k m : Nat} (hf : f < 132) (hk : I 49 0 f = (k : Int)) (hk6 : k < 6) (hm : m < 20) : ∀ (n j : Nat), j + n = 16 → Res (d + 2) 199 149 [vr 12 0, vi x1, vi x2, vi (f : Int), vi x4, vi x5, vi x6, vi (m : Int), vi (j : Int)] [] (mk (sb I 89 0 (16 * m) j (mT I k)) L t) = Res (d + 2) 199 149 [vr 12 0, vi x1, vi x2, vi (f : Int), vi x4, vi x5, vi x6, vi (m : Int), vi 16] [] (mk (sb I 89 0 (16 * m) 16 (mT I k)) L t)
  | 0, j, hj => by
    have h16 : j = 16 := by omega
    subst h16
    rfl
  | n + 1, j, hj => by
    have e1 := ix16 (f := k) (k := j) (by omega) (by omega)
    have e2 := ix16 (f := m) (k := j) (by omega) (by omega)
    have ek : sb I 89 0 (16 * m) j (mT I k) 49 0 f = (k : Int) := by rw [sb_r (show (49 : Nat) ≠ 89 by decide), hk]
    have r := P199_149_0 (d := d) (I := sb I 89 0 (16 * m) j (mT I k)) (L := L) (t := t) (x1 := x1) (x2 := x2) (x3 := (f : Int)) (x4 := x4) (x5 := x5) (x6 := x6) (x7 := (m : Int)) (x8 := (j : Int)) (h1 := by omega) (g1 := by omega) (g2 := by rw [Int.toNat_natCast, ek, e1]; omega) (g3 := by rw [e2]; omega)
    rw [Int.toNat_natCast, ek, e1, e2, lem_w32k (k := j) (by omega), Int.toNat_natCast, Int.toNat_natCast, sb_r (show (51 : Nat) ≠ 89 by decide)] at r
    have s := sb_s (I := I) (r := 89) (i := 0) (b := 16 * m) (n := j) (f := mT I k)
    rw [show mT I k j = I 51 0 (16 * k + j) from rfl] at s
    rw [s] at r
    exact Eq.trans r (l199 hf hk hk6 hm n (j + 1) (by omega))
def sWn (n r i c : Nat) : Bool := decide (80 ≤ r ∧ r ≤ 89 ∧ r ≠ 87) || r == 93 || (r == 12 && (c == 2 || c == 54 || c == 55)) || r == 63 || r == 75 || r == 76
theorem sWn_w {n : Nat} {I K : H3} (F : Fr (sWn n) I K) : Fr (sWw n) I K := F.mo (fun r i c k => by
  unfold sWw at k
  unfold sWn
  simp only [Bool.or_eq_false_iff, Bool.and_eq_false_iff, beq_eq_false_iff_ne, decide_eq_false_iff_not] at k ⊢
  omega)
theorem sp199 {s h0 : Nat} (h0' : x1 = (h0 : Int)) (h04 : h0 < 4) (hb : mhOk I h0) (hok : okH (mH I h0)) (m2 : 0 ≤ x2 ∧ x2 < 6) (gm : 0 ≤ I 12 0 1 ∧ I 12 0 1 ≤ 120) (hs : x3 = (s : Int)) (m3 : 0 ≤ x3 ∧ x3 < I 12 0 1) (a4 : 0 ≤ x4 ∧ x4 ≤ 999) (a5 : 0 ≤ x5 ∧ x5 ≤ 9) (a6 : 0 ≤ x6 ∧ x6 ≤ 9) (hn : I 12 0 2 = (n : Int)) (h20 : n < 20) (hk : 0 ≤ I 49 0 s ∧ I 49 0 s < 6) :
    ∃ K, Cal (d + 5) 199 [vr 12 0, vi x1, vi x2, vi x3, vi x4, vi x5, vi x6] (mk I L t) = some (vi (n : Int), mk K L t) ∧ Fr (sWn n) I K ∧ K 12 0 2 = ((n + 1 : Nat) : Int) ∧ (K 80 0 n = x1 ∧ K 81 0 n = x2 ∧ K 82 0 n = x3 ∧ K 83 0 n = x4 ∧ K 84 0 n = x5 ∧ K 85 0 n = x6 ∧ K 86 0 n = I 12 0 0 ∧ K 93 0 n = I 12 0 72) ∧ (∀ r w, 80 ≤ r → r ≤ 93 → r ≠ 88 → r ≠ 89 → w ≠ n → K r 0 w = I r 0 w) ∧ (∀ w, w ≠ n → c16 (kpM K w) = c16 (kpM I w) ∧ c16 (ktM K w) = c16 (ktM I w)) ∧ c16 (kpM K n) = seeP (ans (mH I h0)) (gvT x4 x5 x6 0) (nM I s) ∧ c16 (ktM K n) = c16 (mT I (I 49 0 s).toNat) := by
  subst h0'
  subst hs
  obtain ⟨k, ek⟩ : ∃ k : Nat, I 49 0 s = (k : Int) := ⟨(I 49 0 s).toNat, by omega⟩
  have k6 : k < 6 := by omega
  have s120 : s < 120 := by omega
  have r0 := P199_0_7 (d := d + 3) (I := I) (L := L) (t := t) (x1 := (h0 : Int)) (x2 := x2) (x3 := (s : Int)) (x4 := x4) (x5 := x5) (x6 := x6) (h1 := by omega) (h2 := m2) (g1 := by omega) (h3 := m3) (h4 := a4) (h5 := a5) (h6 := a6) (h7 := by omega) (g2 := by omega)
  rw [hn, Int.toNat_natCast] at r0
  obtain ⟨A, hA⟩ : ∃ A : H3, A = up3 (up3 (up3 (up3 (up3 (up3 (up3 (up3 I 80 0 n (h0 : Int)) 81 0 n x2) 82 0 n (s : Int)) 83 0 n x4) 84 0 n x5) 85 0 n x6) 86 0 n (I 12 0 0)) 93 0 n (I 12 0 72) := ⟨_, rfl⟩
  rw [← hA] at r0
  have FA : Fr (fun r i c => decide (80 ≤ r ∧ r ≤ 86) || r == 93) I A := by
    rw [hA]
    exact (((((((Fr.rfl'.up rfl).up rfl).up rfl).up rfl).up rfl).up rfl).up rfl).up rfl
  have s80 : A 80 0 n = (h0 : Int) := by rw [hA]; simp [up3]
  have s81 : A 81 0 n = x2 := by rw [hA]; simp [up3]
  have s82 : A 82 0 n = (s : Int) := by rw [hA]; simp [up3]
  have s83 : A 83 0 n = x4 := by rw [hA]; simp [up3]
  have s84 : A 84 0 n = x5 := by rw [hA]; simp [up3]
  have s85 : A 85 0 n = x6 := by rw [hA]; simp [up3]
  have s86 : A 86 0 n = I 12 0 0 := by rw [hA]; simp [up3]
  have s93 : A 93 0 n = I 12 0 72 := by rw [hA]; simp [up3]
  have so : ∀ r w, w ≠ n → A r 0 w = I r 0 w := fun r w hw => by rw [hA]; simp [up3, hw]
  have e49 : A 49 0 s = (k : Int) := by rw [FA 49 0 s rfl, ek]
  have r1 := l199 (d := d + 3) (I := A) (L := L) (t := t) (x1 := (h0 : Int)) (x2 := x2) (x4 := x4) (x5 := x5) (x6 := x6) (f := s) (k := k) (m := n) (by omega) e49 k6 h20 16 0 rfl
  rw [sb_0] at r1
  obtain ⟨B, hB⟩ : ∃ B : H3, B = sb A 89 0 (16 * n) 16 (mT A k) := ⟨_, rfl⟩
  rw [← hB] at r1
  have FB : Fr (fun r i c => r == 89 && decide (16 * n ≤ c ∧ c < 16 * n + 16)) A B := by
    rw [hB]
    exact Fr.rfl'.st (fun c c1 c2 => by simp [c1, c2])
  have eB : ∀ r, r ≠ 89 → B r = A r := fun r hr => by rw [hB, sb_r hr]
  have g5 : ∀ r, decide (80 ≤ r ∧ r ≤ 86) = false → r ≠ 93 → A r = I r := fun r h1 h2 => FA.rg (fun _ _ => by
    rw [h1]
    exact beq_eq_false_iff_ne.mpr h2)
  have emB : mH B h0 = mH I h0 := mH_cg (by rw [eB 55 (by decide), g5 55 rfl (by decide)]) (by rw [eB 56 (by decide), g5 56 rfl (by decide)]) (by rw [eB 57 (by decide), g5 57 rfl (by decide)])
  have ebB : mhOk B h0 := mhOk_cg (by rw [eB 56 (by decide), g5 56 rfl (by decide)]) (by rw [eB 57 (by decide), g5 57 rfl (by decide)]) hb
  obtain ⟨J, c1, FJ, at1⟩ := msee (d := d + 1) (I := B) (L := L) (t := t) (h := h0) (k := x2) (s := x4) (l := x5) (f := x6) (tt := 0) (f0 := s) s120 h04 ebB (by rw [emB]; exact hok)
  have c2 := sp197 (d := d + 4) (I := J) (L := L) (t := t) h20
  obtain ⟨C, hC'⟩ : ∃ C : H3, C = sb J 88 0 (16 * n) 16 (J 76 0) := ⟨_, rfl⟩
  rw [← hC'] at c2
  have FC : Fr (fun r i c => r == 88 && decide (16 * n ≤ c ∧ c < 16 * n + 16)) J C := by
    rw [hC']
    exact Fr.rfl'.st (fun c c1 c2 => by simp [c1, c2])
  have e2C : C 12 0 2 = (n : Int) := by rw [FC 12 0 2 rfl, FJ 12 0 2 rfl, FB 12 0 2 rfl, FA 12 0 2 rfl, hn]
  have r2 := P199_149_1 (d := d + 3) (x1 := (h0 : Int)) (x2 := x2) (x3 := (s : Int)) (x4 := x4) (x5 := x5) (x6 := x6) (x7 := (n : Int)) (x8 := 16) (h1 := by decide) (c1 := c1) (c2 := c2)
  rw [e2C, lem_w32k (k := n) (by omega)] at r2
  have ch : ∀ r, r ≠ 12 → r ≠ 88 → r ≠ 89 → decide (r = 63 ∨ r = 75 ∨ r = 76) = false → up3 C 12 0 2 ((n + 1 : Nat) : Int) r = A r := fun r r1 r2 r3 r4 => by
    rw [decide_eq_false_iff_not] at r4
    rw [up_r r1, FC.rg (r := r) (fun _ _ => by
      simp only [Bool.and_eq_false_iff, beq_eq_false_iff_ne]
      exact Or.inl r2), FJ.rg (r := r) (fun _ c => by
      unfold sSee
      simp only [Bool.or_eq_false_iff, Bool.and_eq_false_iff, beq_eq_false_iff_ne]
      omega), eB r r3]
  have c88 : ∀ c, up3 C 12 0 2 ((n + 1 : Nat) : Int) 88 0 c = if 16 * n ≤ c ∧ c < 16 * n + 16 then J 76 0 (c - 16 * n) else I 88 0 c := fun c => by
    rw [up_r (show (88 : Nat) ≠ 12 by decide), hC']
    by_cases q : 16 * n ≤ c ∧ c < 16 * n + 16
    · rw [if_pos q]
      exact if_pos ⟨rfl, rfl, q⟩
    · rw [if_neg q, sb_out (by omega), FJ 88 0 c rfl, eB 88 (by decide), FA 88 0 c rfl]
  have c89 : ∀ c, up3 C 12 0 2 ((n + 1 : Nat) : Int) 89 0 c = if 16 * n ≤ c ∧ c < 16 * n + 16 then mT I k (c - 16 * n) else I 89 0 c := fun c => by
    rw [up_r (show (89 : Nat) ≠ 12 by decide), FC 89 0 c rfl, FJ 89 0 c rfl, hB]
    by_cases q : 16 * n ≤ c ∧ c < 16 * n + 16
    · rw [if_pos q]
      refine Eq.trans (if_pos ⟨rfl, rfl, q⟩) ?_
      unfold mT
      rw [g5 51 rfl (by decide)]
    · rw [if_neg q, sb_out (by omega), FA 89 0 c rfl]
  refine ⟨_, Eq.trans r0 (Eq.trans r1 r2), ?_, up_e, ?_, ?_, ?_, ?_, ?_⟩
  · refine Fr.up ((((FA.mo (fun r i c k => ?_)).tr (FB.mo (fun r i c k => ?_))).tr (FJ.mo (fun r i c k => ?_))).tr (FC.mo (fun r i c k => ?_))) rfl
    all_goals
      unfold sWn at k
      try unfold sSee
      simp only [Bool.or_eq_false_iff, Bool.and_eq_false_iff, beq_eq_false_iff_ne, decide_eq_false_iff_not] at k ⊢
      omega
  · rw [ch 80 (by decide) (by decide) (by decide) (by decide), ch 81 (by decide) (by decide) (by decide) (by decide), ch 82 (by decide) (by decide) (by decide) (by decide), ch 83 (by decide) (by decide) (by decide) (by decide), ch 84 (by decide) (by decide) (by decide) (by decide), ch 85 (by decide) (by decide) (by decide) (by decide), ch 86 (by decide) (by decide) (by decide) (by decide), ch 93 (by decide) (by decide) (by decide) (by decide)]
    exact ⟨s80, s81, s82, s83, s84, s85, s86, s93⟩
  · intro r w r1 r2 r3 r4 hw
    rw [ch r (by omega) r3 r4 (by rw [decide_eq_false_iff_not]; omega), so r w hw]
  · intro w hw
    refine ⟨c16_cg (fun j hj => ?_), c16_cg (fun j hj => ?_)⟩
    · unfold kpM
      rw [c88, if_neg (by omega)]
    · unfold ktM
      rw [c89, if_neg (by omega)]
  · have e76 := at1.2.2.2.1
    have eN : nM B s = nM I s := by
      unfold nM
      rw [eB 48 (by decide), g5 48 rfl (by decide)]
    rw [emB, eN] at e76
    rw [← e76]
    refine c16_cg (fun j hj => ?_)
    unfold kpM
    rw [c88, if_pos (by omega), show 16 * n + j - 16 * n = j by omega]
  · rw [ek, Int.toNat_natCast]
    refine c16_cg (fun j hj => ?_)
    unfold ktM
    rw [c89, if_pos (by omega), show 16 * n + j - 16 * n = j by omega]
theorem sp199f (g : 0 ≤ I 12 0 1 ∧ I 12 0 1 ≤ 2000) (h : ¬ csP (I 12 0 1) x1 x2 x3 x4 x5 x6) : Cal (d + 5) 199 [vr 12 0, vi x1, vi x2, vi x3, vi x4, vi x5, vi x6] (mk I L t) = some (vi (-1), mk I L t) := by
  by_cases h1 : 0 ≤ x1 ∧ x1 < 4
  · by_cases h2 : 0 ≤ x2 ∧ x2 < 6
    · by_cases h3 : 0 ≤ x3 ∧ x3 < I 12 0 1
      · by_cases h4 : 0 ≤ x4 ∧ x4 ≤ 999
        · by_cases h5 : 0 ≤ x5 ∧ x5 ≤ 9
          · exact P199_0_5 (d := d + 3) (h1 := h1) (h2 := h2) (g1 := g) (h3 := h3) (h4 := h4) (h5 := h5) (h6 := fun h6 => h ⟨by omega, by omega, h3, h4, h5, h6⟩)
          · exact P199_0_4 (d := d + 3) (h1 := h1) (h2 := h2) (g1 := g) (h3 := h3) (h4 := h4) (h5 := h5)
        · exact P199_0_3 (d := d + 3) (h1 := h1) (h2 := h2) (g1 := g) (h3 := h3) (h4 := h4)
      · exact P199_0_2 (d := d + 3) (h1 := h1) (h2 := h2) (g1 := g) (h3 := h3)
    · exact P199_0_1 (d := d + 3) (h1 := h1) (h2 := h2)
  · exact P199_0_0 (d := d + 3) (h1 := h1)
end WIT
theorem both_witness (x1 x2 x3 x4 x5 x6 : Int) : Both 81 199 [vi x1, vi x2, vi x3, vi x4, vi x5, vi x6] := fun d I L t h => by
  have hf := h.pF.1
  have ef := h.pF.2.1
  have M := h.pM
  have mb := M.2.1
  have m0 := M.1
  have gc : 0 ≤ I 11 0 10 ∧ I 11 0 10 ≤ 2000 := by omega
  have gm : 0 ≤ I 12 0 1 ∧ I 12 0 1 ≤ 2000 := by omega
  by_cases a : csP (I 11 0 10) x1 x2 x3 x4 x5 x6
  · obtain ⟨a1, a2, a3, a4, a5, a6⟩ := id a
    by_cases b : I 11 0 12 < 20
    · obtain ⟨n, hn⟩ : ∃ n : Nat, I 11 0 12 = (n : Int) := ⟨(I 11 0 12).toNat, by omega⟩
      have h20 : n < 20 := by omega
      obtain ⟨J, cc, FJ, j12, ⟨j2, j3, j4, j5, j6, j7, j8, j9, j10⟩, j28, j29⟩ := sp81 (d := d + 46) (L := L) h a hn h20
      obtain ⟨h0, e0⟩ : ∃ h0 : Nat, x1 = (h0 : Int) := ⟨x1.toNat, by omega⟩
      obtain ⟨s, es⟩ : ∃ s : Nat, x3 = (s : Int) := ⟨x3.toNat, by omega⟩
      have h04 : h0 < 4 := by omega
      have s120 : s < 120 := by omega
      have hh := h.pH h0 h04
      have em : mH J h0 = mH I h0 := mH_cg (FJ.ri (fun _ => rfl)) (FJ.ri (fun _ => rfl)) (FJ.ri (fun _ => rfl))
      have eb : mhOk J h0 := mhOk_cg (FJ.ri (fun _ => rfl)) (FJ.ri (fun _ => rfl)) hh.2.2.1
      have kf := h.pF.2.2.1 s s120
      obtain ⟨K, cm, FK, k2, ⟨k80, k81, k82, k83, k84, k85, k86, k93⟩, ko, kk, kp, kt⟩ := sp199 (d := d + 45) (I := J) (L := L) (t := t) (n := n) e0 h04 eb (by rw [em, ← hh.1, hh.1]; exact hh.2.2.2) (show 0 ≤ x2 ∧ x2 < 6 by omega) (by rw [FJ 12 0 1 rfl]; omega) es (by rw [FJ 12 0 1 rfl]; omega) a4 a5 a6 (by rw [FJ 12 0 2 rfl]; omega) h20 (by rw [FJ 49 0 s rfl, kf.2.2.1]; exact kf.2.2.2)
      have G : Fr (sWw n) I K := (sWi_w FJ).tr (sWn_w FK)
      have kc : ∀ r, r < 12 ∨ r = 28 ∨ r = 29 → K r = J r := fun r hr => FK.rg (fun _ c => by
        unfold sWn
        simp only [Bool.or_eq_false_iff, Bool.and_eq_false_iff, beq_eq_false_iff_ne, decide_eq_false_iff_not]
        omega)
      have jm : ∀ r, 30 ≤ r → J r = I r := fun r hr => FJ.rg (fun _ c => by
        unfold sWi
        simp only [Bool.or_eq_false_iff, Bool.and_eq_false_iff, beq_eq_false_iff_ne, decide_eq_false_iff_not]
        omega)
      have k12 : K 11 0 12 = ((n + 1 : Nat) : Int) := by rw [kc 11 (by omega), j12]
      have g90 : K 90 = I 90 := G.rg (fun _ _ => rfl)
      have g91 : K 91 = I 91 := G.rg (fun _ _ => rfl)
      have g92 : K 92 = I 92 := G.rg (fun _ _ => rfl)
      have g94 : K 94 = I 94 := G.rg (fun _ _ => rfl)
      have g46 : K 46 = I 46 := G.rg (fun _ _ => rfl)
      have g47 : K 47 = I 47 := G.rg (fun _ _ => rfl)
      have g50 : K 50 = I 50 := G.rg (fun _ _ => rfl)
      have U := h.pU
      rw [hn] at U
      have N := h.pN
      have N2 := N.2
      have sn : seeP (ans (mH J h0)) (gvT x4 x5 x6 0) (nM J s) = seeP (ans (hC I (t h0))) (gvT x4 x5 x6 0) (I 22 s) := by
        rw [em, hh.1]
        refine seeP_cg ?_
        rw [← kf.2.1]
        exact c16_cg (fun j _ => by unfold nM; rw [jm 48 (by decide)])
      refine ⟨_, _, L, _, L, t, cc, cm, rel_W h h20 G (by rw [k12]; omega) ⟨by rw [k2, k12], by rw [k12]; omega, fun w hw => ?_⟩ ?_ ?_⟩
      · rw [k12] at hw
        by_cases q : w = n
        · subst q
          have e28 : c16 (J 28 w) = c16 (kpM K w) := by
            rw [j28, kp, sn, e0, es, Int.toNat_natCast, Int.toNat_natCast]
          have e29 : c16 (J 29 w) = c16 (ktM K w) := by
            rw [j29, kt, FJ 49 0 s rfl, kf.2.2.1, es, Int.toNat_natCast]
            have T := (h.pT (I 1 s 1).toNat (by have := kf.2.2.2; omega)).2
            rw [← T]
            unfold mT
            rw [jm 51 (by decide)]
          have r28 : R31 (J 28 w) := R31.c (by rw [j28]; exact seeP_in)
          have r29 : R31 (J 29 w) := R31.c (by
            rw [j29, es, Int.toNat_natCast]
            exact (h.pT (I 1 s 1).toNat (by have := kf.2.2.2; omega)).1.d)
          unfold rmi
          rw [k80, k81, k82, k83, k84, k85, k86, kc 3 (by omega), kc 28 (by omega), kc 29 (by omega), j2, j3, j4, j5, j6, j7, j8, j9, j10, ← e28, ← e29, FK 87 0 w rfl, FJ 87 0 w rfl, (U.1 w (by omega) h20).2, FJ 12 0 0 rfl, N.1]
          exact ⟨⟨rfl, by omega⟩, rfl, ⟨rfl, a3⟩, ⟨rfl, rfl, rfl⟩, ⟨rfl, by omega⟩, ⟨rfl, by omega⟩, by omega, ⟨rfl, r28⟩, rfl, r29⟩
        · have hw2 : (w : Int) < I 11 0 12 := by omega
          have old := M.2.2 w hw2
          have g3 : ∀ r, r = 3 ∨ r = 28 ∨ r = 29 → K r w = I r w := fun r hr => by
            rw [kc r (by omega)]
            exact FJ.ri (fun c => by
              unfold sWi
              simp only [Bool.or_eq_false_iff, Bool.and_eq_false_iff, beq_eq_false_iff_ne]
              omega)
          have g8 : ∀ r, 80 ≤ r → r ≤ 87 → K r 0 w = I r 0 w := fun r r1 r2 => by rw [ko r w r1 (by omega) (by omega) (by omega) q, jm r (by omega)]
          have gk : c16 (kpM K w) = c16 (kpM I w) := by
            rw [(kk w q).1]
            unfold kpM
            rw [jm 88 (by decide)]
          have gt : c16 (ktM K w) = c16 (ktM I w) := by
            rw [(kk w q).2]
            unfold ktM
            rw [jm 89 (by decide)]
          unfold rmi
          rw [g3 3 (by omega), g3 28 (by omega), g3 29 (by omega), gk, gt, g8 80 (by decide) (by decide), g8 81 (by decide) (by decide), g8 82 (by decide) (by decide), g8 83 (by decide) (by decide), g8 84 (by decide) (by decide), g8 85 (by decide) (by decide), g8 86 (by decide) (by decide), g8 87 (by decide) (by decide)]
          exact old
      · obtain ⟨l1, l2, l3, l4, l5, l6⟩ := h.pL
        have g72 : K 12 0 72 = I 12 0 72 := G 12 0 72 rfl
        unfold reL
        rw [g90, g91, g92, g94, g72, G 11 0 15 rfl]
        refine ⟨l1, l2, l3, fun l hl => ?_, fun w hw => ?_, fun i hi => ?_⟩
        · have := l4 l hl
          unfold rli at *
          rw [g90, g91, g92, g94, g46, g47, g50]
          exact this
        · rw [k12] at hw
          by_cases q : w = n
          · subst q
            rw [k93, k86, FJ 12 0 72 rfl, FJ 12 0 0 rfl]
            refine ⟨by omega, by rw [N.1]; exact l2.symm, fun l hl h0 hz => ?_⟩
            have := U.2.1 l hl h0
            omega
          · rw [ko 93 w (by decide) (by decide) (by decide) (by decide) q, ko 86 w (by decide) (by decide) (by decide) (by decide) q, jm 93 (by decide), jm 86 (by decide)]
            exact l5 w (by omega)
        · have v := (h.pV.2.2 i hi).1
          rw [ko 93 (I 94 0 i).toNat (by decide) (by decide) (by decide) (by decide) (by omega), jm 93 (by decide)]
          exact l6 i hi
      · rw [k12]
        unfold reU
        rw [g90, g91, G 12 0 72 rfl]
        refine ⟨fun w w1 w2 => ?_, fun l hl h0 => ?_, fun w hw => by rw [G 60 0 w rfl]; exact U.2.2 w hw⟩
        · have q : w ≠ n := by omega
          have old := U.1 w (by omega) w2
          rw [ko 87 w (by decide) (by decide) (by decide) (by decide) q, jm 87 (by decide), kc 3 (by omega)]
          refine ⟨?_, old.2⟩
          rw [FJ 3 w 8 (by
            unfold sWi
            simp only [Bool.or_eq_false_iff, Bool.and_eq_false_iff, beq_eq_false_iff_ne]
            omega)]
          exact old.1
        · have := U.2.1 l hl h0
          omega
    · refine ⟨-1, I, L, I, L, t, P81_0_0 (d := d + 49) (c1 := sp109t (d := d + 47) gc a) (h1 := by omega), ?_, h⟩
      exact P199_0_6 (d := d + 48) (h1 := by omega) (h2 := by omega) (g1 := gm) (h3 := by omega) (h4 := a4) (h5 := a5) (h6 := a6) (h7 := by omega)
  · exact ⟨-1, I, L, I, L, t, P81_0_2 (d := d + 49) (c1 := sp109f (d := d + 47) gc a), sp199f (d := d + 45) gm (by rw [ef]; exact a), h⟩
