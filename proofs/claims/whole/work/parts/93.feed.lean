/-! feed, end -/
/-- what a call may write that feeds or reads texts -/
def sTx (r _ c : Nat) : Bool := r == 2 || r == 5 || r == 7 || r == 9 || decide (23 ≤ r ∧ r ≤ 26) || decide (31 ≤ r ∧ r ≤ 37) || (r == 12 && decide (33 ≤ c ∧ c ≤ 50)) || decide (55 ≤ r ∧ r ≤ 74)
theorem rel_X {I K : H3} {t t' : Nat → Nat} (h : Rel I t) (F : Fr sTx I K) (pP : reP t') (pH : reH t' K) (pS : reS t' K) (pW : reW t' K) (pB : reB K) (pU : reU (I 11 0 12) K) : Rel K t' := by
  have hf := h.pF.1
  have big : ∀ r, 75 ≤ r → r ≤ 114 → K r = I r := fun r r1 r2 => F.rg (fun i c => by
    unfold sTx
    simp only [Bool.or_eq_false_iff, Bool.and_eq_false_iff, beq_eq_false_iff_ne, decide_eq_false_iff_not]
    omega)
  exact rel_mk (F 11 0 10 rfl) (F 11 0 11 rfl) (F 11 0 12 rfl) (F 11 0 13 rfl) (F 11 0 16 rfl) pP
    (reF_cg (fun f _ => ⟨F.ri (fun _ => rfl), F.ri (fun _ => rfl)⟩) (fun f _ => c16_cg (fun _ _ => F 48 0 _ rfl)) (fun f _ => ⟨F 49 0 f rfl, F 50 0 f rfl⟩) (F 11 0 10 rfl) (F 12 0 1 rfl) h.pF)
    (reT_cg (F.rg (fun _ _ => rfl)) (F.rg (fun _ _ => rfl)) h.pT)
    (reR_cg (Int.le_refl _) (fun r _ => ⟨F.ri (fun _ => rfl), F.ri (fun _ => rfl)⟩) (F.rg (fun _ _ => rfl)) (F.rg (fun _ _ => rfl)) h.pR)
    pH pS pW pB
    (reM_cg (Int.le_refl _) (fun w _ => ⟨F.ri (fun _ => rfl), F.ri (fun _ => rfl), F.ri (fun _ => rfl)⟩) (fun r r1 r2 => big r (by omega) (by omega)) (F 11 0 12 rfl) (F 12 0 2 rfl) h.pM)
    (reV_cg (Int.le_refl _) (Int.le_refl _) (F.rg (fun _ _ => rfl)) (fun i _ _ => ⟨F.ri (fun _ => rfl), F.ri (fun _ => rfl)⟩) (fun r r1 r2 => big r (by omega) (by omega)) (F 11 0 13 rfl) (F 12 0 3 rfl) h.pV)
    (reO_cg (Int.le_refl _) (fun i _ _ => F.ri (fun _ => rfl)) (F.rg (fun _ _ => rfl)) (fun i hi => ⟨F.ri (fun _ => rfl), F.ri (fun _ => rfl)⟩) (fun r r1 r2 => big r (by omega) (by omega)) (F 11 0 14 rfl) (F 12 0 4 rfl) h.pO)
    (reN_cg (F 11 0 16 rfl) (F 12 0 0 rfl) h.pN)
    (reL_cg (Int.le_refl _) hf.1 (F.rg (fun _ _ => rfl)) (F.rg (fun _ _ => rfl)) (F.rg (fun _ _ => rfl)) (F.rg (fun _ _ => rfl)) (F.rg (fun _ _ => rfl)) (F.rg (fun _ _ => rfl)) (F.rg (fun _ _ => rfl)) (F.rg (fun _ _ => rfl)) (fun f _ => F 50 0 f rfl) (F 11 0 15 rfl) (F 12 0 72 rfl) h.pL)
    (reC_cg (fun f _ => F 1 f 2 rfl) (F 11 0 11 rfl) h.pC) pU
/-- the tape alone -/
def sBt (r _ c : Nat) : Bool := r == 34 || r == 62 || (r == 7 && decide (4 ≤ c ∧ c ≤ 12)) || (r == 12 && (c == 36 || c == 43 || c == 50))
theorem sBt_x {I K : H3} (F : Fr sBt I K) : Fr sTx I K := F.mo (fun r i c k => by
  unfold sTx at k
  unfold sBt
  simp only [Bool.or_eq_false_iff, Bool.and_eq_false_iff, beq_eq_false_iff_ne, decide_eq_false_iff_not] at k ⊢
  omega)
theorem rel_B {I K : H3} {t : Nat → Nat} (h : Rel I t) (F : Fr sBt I K) (pB : reB K) : Rel K t :=
  rel_X h (sBt_x F) h.pP
    (reH_cg (F.rg (fun _ _ => rfl)) (F.rg (fun _ _ => rfl)) (F.rg (fun _ _ => rfl)) (F.rg (fun _ _ => rfl)) (F.rg (fun _ _ => rfl)) (F.rg (fun _ _ => rfl)) (F.rg (fun _ _ => rfl)) h.pH)
    (reS_cg (F.rg (fun _ _ => rfl)) (F.rg (fun _ _ => rfl)) (F.rg (fun _ _ => rfl)) (F.rg (fun _ _ => rfl)) (F.rg (fun _ _ => rfl)) (F.rg (fun _ _ => rfl)) (F.rg (fun _ _ => rfl)) (F 12 0 33 rfl) h.pS)
    (reW_cg (F.rg (fun _ _ => rfl)) (F.rg (fun _ _ => rfl)) (F.rg (fun _ _ => rfl)) (F.rg (fun _ _ => rfl)) (F.rg (fun _ _ => rfl)) h.pW) pB
    (reU_cg (fun w _ => ⟨F 3 w 8 rfl, F 87 0 w rfl⟩) (F.rg (fun _ _ => rfl)) (F.rg (fun _ _ => rfl)) (F 12 0 72 rfl) (F.rg (fun _ _ => rfl)) h.pU)
theorem both_end (n : Int) : Both 77 160 [vi n] := fun d I L t h => by
  obtain ⟨b1, b2, b3, b4, b5⟩ := h.pB
  by_cases a : 0 ≤ n ∧ n ≤ I 7 0 4
  · have e : up3 I 7 0 4 n 12 0 36 = I 7 0 4 := by rw [up_r (show (12 : Nat) ≠ 7 by decide)]; exact b1
    refine ⟨1, _, L, _, L, t, P77_0_1 (d := d + 50) (h1 := a.1) (h2 := a.2), P160_0_1 (d := d + 49) (h1 := by rw [e]; exact a), rel_B h ((Fr.rfl'.up rfl).up rfl) ⟨?_, ?_, ?_, ?_, ?_⟩⟩
    · rw [up_e, up_r (show (7 : Nat) ≠ 12 by decide), up_e]
    · rw [up_r (show (7 : Nat) ≠ 12 by decide), up_e]
      omega
    · rw [up_r (show (7 : Nat) ≠ 12 by decide), up_e, up_r (show (62 : Nat) ≠ 12 by decide), up_r (show (62 : Nat) ≠ 7 by decide), up_r (show (34 : Nat) ≠ 12 by decide), up_r (show (34 : Nat) ≠ 7 by decide)]
      exact fun c hc => b3 c (by omega)
    · rw [up_s (show (43 : Nat) ≠ 36 by decide), up_r (show (12 : Nat) ≠ 7 by decide), up_r (show (7 : Nat) ≠ 12 by decide), up_s (show (11 : Nat) ≠ 4 by decide)]
      exact b4
    · rw [up_s (show (50 : Nat) ≠ 36 by decide), up_r (show (12 : Nat) ≠ 7 by decide), up_r (show (7 : Nat) ≠ 12 by decide), up_s (show (12 : Nat) ≠ 4 by decide)]
      exact b5
  · refine ⟨0, I, L, I, L, t, ?_, P160_0_0 (d := d + 49) (h1 := by rw [b1]; exact a), h⟩
    by_cases c : 0 ≤ n
    · exact P77_0_0 (d := d + 50) (h1 := c) (h2 := by omega)
    · exact P77_0_2 (d := d + 50) (h1 := by omega)
def s34 (r _ c : Nat) : Bool := r == 34 || (r == 7 && c == 4)
section FEED
variable {d : Nat} {L : H3} {t : Nat → Nat}
theorem l35 {s : Nat} {x : Int} (hs : s + 4 ≤ 400) : ∀ (n j : Nat) (I : H3), j + n = 4 → I 7 0 4 = ((s + j : Nat) : Int) →
    ∃ J, Res d 35 2 [vr 7 0, vi x, vi (j : Int)] [] (mk I L t) = some (vx, mk J L t) ∧ Fr s34 I J ∧ J 7 0 4 = ((s + 4 : Nat) : Int) ∧ (∀ c, (c < s + j ∨ s + 4 ≤ c) → J 34 0 c = I 34 0 c) ∧ ∀ k, j ≤ k → k < 4 → J 34 0 (s + k) = by4 255 x k
  | 0, j, I, hj, h4 => by
    have : j = 4 := by omega
    subst this
    exact ⟨I, P35_2_2 (by omega), Fr.rfl', h4, fun _ _ => rfl, fun k h1 h2 => by omega⟩
  | n + 1, j, I, hj, h4 => by
    have e := lem_w32k (k := s + j) (by omega)
    obtain ⟨J, h1, h2, h3, h5, h6⟩ := l35 (x := x) hs n (j + 1) (up3 (up3 I 34 0 (s + j) (by4 255 x j)) 7 0 4 ((s + j + 1 : Nat) : Int)) (by omega) (by rw [up_e]; rfl)
    refine ⟨J, Eq.trans (P35_2_0 (h1 := by omega) (h2 := by rw [h4]; omega) (g1 := by rw [h4]; omega)) ?_, Fr.tr ((Fr.rfl'.up rfl).up rfl) h2, h3, fun c hc => ?_, fun k k1 k2 => ?_⟩
    · rw [h4, e, lem_w32k (k := j) (by omega), Int.toNat_natCast]
      exact h1
    · rw [h5 c (by omega), up_r (show (34 : Nat) ≠ 7 by decide), up_s (by omega)]
    · by_cases q : k = j
      · subst q
        rw [h5 _ (by omega), up_r (show (34 : Nat) ≠ 7 by decide), up_e]
      · exact h6 k (by omega) k2
theorem sp35 {s : Nat} {x : Int} {I : H3} (hs : s + 4 ≤ 400) (h4 : I 7 0 4 = (s : Int)) : ∃ J, Cal d 35 [vr 7 0, vi x] (mk I L t) = some (vx, mk J L t) ∧ Fr s34 I J ∧ J 7 0 4 = ((s + 4 : Nat) : Int) ∧ (∀ c, (c < s ∨ s + 4 ≤ c) → J 34 0 c = I 34 0 c) ∧ ∀ k, k < 4 → J 34 0 (s + k) = by4 255 x k := by
  obtain ⟨J, h1, h2, h3, h5, h6⟩ := l35 (d := d) (L := L) (t := t) (x := x) hs 4 0 I rfl h4
  exact ⟨J, Eq.trans P35_0_0 h1, h2, h3, fun c hc => h5 c (by omega), fun k hk => h6 k (by omega) hk⟩
def a5 (x1 x2 x3 x4 x5 : Int) (j : Nat) : Int := if j < 4 then x1 else if j < 8 then x2 else if j < 12 then x3 else if j < 16 then x4 else x5
def s62 (r _ c : Nat) : Bool := r == 62 || (r == 12 && c == 36)
theorem l159 {x1 x2 x3 x4 x5 : Int} {s : Nat} (hs : s + 20 ≤ 400) : ∀ (n j : Nat) (I : H3) (u7 : MV), j + n = 20 → I 12 0 36 = ((s + j : Nat) : Int) →
    ∃ J, Res d 159 18 [vr 12 0, vi x1, vi x2, vi x3, vi x4, vi x5, vi (j : Int), u7] [] (mk I L t) = some (vi ((s + 20 : Nat) : Int), mk J L t) ∧ Fr s62 I J ∧ J 12 0 36 = ((s + 20 : Nat) : Int) ∧ (∀ c, c < s + j → J 62 0 c = I 62 0 c) ∧ ∀ k, j ≤ k → k < 20 → J 62 0 (s + k) = by4 255 (a5 x1 x2 x3 x4 x5 k) (k % 4)
  | 0, j, I, u7, hj, h4 => by
    have h20 : j = 20 := by omega
    subst h20
    exact ⟨I, Eq.trans (P159_18_5 (h1 := by omega)) (by rw [h4]), Fr.rfl', h4, fun _ _ => rfl, fun k h1 h2 => by omega⟩
  | n + 1, j, I, u7, hj, h4 => by
    have e := lem_w32k (k := s + j) (by omega)
    have em := rem4_e (k := j) (by omega)
    have g : 0 ≤ I 12 0 36 ∧ I 12 0 36 < 400 := by rw [h4]; omega
    have go : ∀ (x : Int) (u7 : MV), x = a5 x1 x2 x3 x4 x5 j → ∃ J, Res d 159 18 [vr 12 0, vi x1, vi x2, vi x3, vi x4, vi x5, vi (w32 ((j : Int) + 1)), u7] [] (mk (up3 (up3 I 62 0 (I 12 0 36).toNat (vIand (vIshr x (w32 (24 - w32 (8 * vIrem (j : Int) 4)))) 255)) 12 0 36 (w32 (I 12 0 36 + 1))) L t) = some (vi ((s + 20 : Nat) : Int), mk J L t) ∧ Fr s62 I J ∧ J 12 0 36 = ((s + 20 : Nat) : Int) ∧ (∀ c, c < s + j → J 62 0 c = I 62 0 c) ∧ ∀ k, j ≤ k → k < 20 → J 62 0 (s + k) = by4 255 (a5 x1 x2 x3 x4 x5 k) (k % 4) := fun x u7 hx => by
      obtain ⟨J, h1, F, h2, h3, h5⟩ := l159 hs (x1 := x1) (x2 := x2) (x3 := x3) (x4 := x4) (x5 := x5) n (j + 1) (up3 (up3 I 62 0 (s + j) (by4 255 (a5 x1 x2 x3 x4 x5 j) (j % 4))) 12 0 36 ((s + j + 1 : Nat) : Int)) u7 (by omega) (by rw [up_e]; rfl)
      refine ⟨J, ?_, Fr.tr ((Fr.rfl'.up rfl).up rfl) F, h2, fun c hc => ?_, fun k k1 k2 => ?_⟩
      · rw [h4, e, em, lem_w32k (k := j) (by omega), Int.toNat_natCast, hx]
        exact h1
      · rw [h3 c (by omega), up_r (show (62 : Nat) ≠ 12 by decide), up_s (by omega)]
      · by_cases q : k = j
        · subst q
          rw [h3 _ (by omega), up_r (show (62 : Nat) ≠ 12 by decide), up_e]
        · exact h5 k (by omega) k2
    by_cases q1 : j < 4
    · obtain ⟨J, r, hJ⟩ := go x1 (vi x1) (by unfold a5; rw [if_pos q1])
      exact ⟨J, Eq.trans (P159_18_0 (h1 := by omega) (h2 := by omega) (g1 := g)) r, hJ⟩
    · by_cases q2 : j < 8
      · obtain ⟨J, r, hJ⟩ := go x2 (vi x2) (by unfold a5; rw [if_neg q1, if_pos q2])
        exact ⟨J, Eq.trans (P159_18_1 (h1 := by omega) (h2 := by omega) (h3 := by omega) (g1 := g)) r, hJ⟩
      · by_cases q3 : j < 12
        · obtain ⟨J, r, hJ⟩ := go x3 (vi x3) (by unfold a5; rw [if_neg q1, if_neg q2, if_pos q3])
          exact ⟨J, Eq.trans (P159_18_2 (h1 := by omega) (h2 := by omega) (h3 := by omega) (h4 := by omega) (g1 := g)) r, hJ⟩
        · by_cases q4 : j < 16
          · obtain ⟨J, r, hJ⟩ := go x4 (vi x4) (by unfold a5; rw [if_neg q1, if_neg q2, if_neg q3, if_pos q4])
            exact ⟨J, Eq.trans (P159_18_3 (h1 := by omega) (h2 := by omega) (h3 := by omega) (h4 := by omega) (h5 := by omega) (g1 := g)) r, hJ⟩
          · obtain ⟨J, r, hJ⟩ := go x5 (vi x5) (by unfold a5; rw [if_neg q1, if_neg q2, if_neg q3, if_neg q4])
            exact ⟨J, Eq.trans (P159_18_4 (h1 := by omega) (h2 := by omega) (h3 := by omega) (h4 := by omega) (h5 := by omega) (g1 := g)) r, hJ⟩
end FEED
theorem both_feed (x1 x2 x3 x4 x5 : Int) : Both 76 159 [vi x1, vi x2, vi x3, vi x4, vi x5] := fun d I L t h => by
  obtain ⟨b1, b2, b3, b4, b5⟩ := h.pB
  have ew : w32 (I 7 0 4 + 20) = I 7 0 4 + 20 := w32_s (by omega)
  by_cases a : I 7 0 4 + 20 ≤ 400
  · obtain ⟨s, es⟩ : ∃ s : Nat, I 7 0 4 = (s : Int) := ⟨(I 7 0 4).toNat, by omega⟩
    have s20 : s + 20 ≤ 400 := by omega
    obtain ⟨J1, c1, F1, e1, o1, v1⟩ := sp35 (d := d + 49) (L := L) (t := t) (x := x1) (s := s) (by omega) es
    obtain ⟨J2, c2, F2, e2, o2, v2⟩ := sp35 (d := d + 49) (L := L) (t := t) (x := x2) (s := s + 4) (by omega) e1
    obtain ⟨J3, c3, F3, e3, o3, v3⟩ := sp35 (d := d + 49) (L := L) (t := t) (x := x3) (s := s + 4 + 4) (by omega) e2
    obtain ⟨J4, c4, F4, e4, o4, v4⟩ := sp35 (d := d + 49) (L := L) (t := t) (x := x4) (s := s + 4 + 4 + 4) (by omega) e3
    obtain ⟨J5, c5, F5, e5, o5, v5⟩ := sp35 (d := d + 49) (L := L) (t := t) (x := x5) (s := s + 4 + 4 + 4 + 4) (by omega) e4
    have F : Fr s34 I J5 := F1.tr (F2.tr (F3.tr (F4.tr F5)))
    have cc : Cal (d + 50) 76 [vr 11 0, vi x1, vi x2, vi x3, vi x4, vi x5] (mk I L t) = some (vi ((s + 20 : Nat) : Int), mk J5 L t) := by
      have r := P76_0_1 (d := d + 49) (h1 := by rw [ew]; exact a) (c1 := c1) (c2 := c2) (c3 := c3) (c4 := c4) (c5 := c5)
      rw [e5] at r
      exact r
    have m36 : J5 12 0 36 = (s : Int) := by rw [F 12 0 36 rfl, b1, es]
    obtain ⟨K, r1, FK, k36, k1, k2⟩ := l159 (d := d + 50) (L := L) (t := t) (x1 := x1) (x2 := x2) (x3 := x3) (x4 := x4) (x5 := x5) s20 20 0 J5 vx rfl m36
    have cm : Cal (d + 50) 159 [vr 12 0, vi x1, vi x2, vi x3, vi x4, vi x5] (mk J5 L t) = some (vi ((s + 20 : Nat) : Int), mk K L t) :=
      Eq.trans (P159_0_1 (d := d + 50) (h1 := by rw [m36, w32_s (by omega)]; omega)) r1
    have G : Fr sBt I K := (F.mo (fun r i c k => by
      unfold sBt at k
      unfold s34
      simp only [Bool.or_eq_false_iff, Bool.and_eq_false_iff, beq_eq_false_iff_ne, decide_eq_false_iff_not] at k ⊢
      omega)).tr (FK.mo (fun r i c k => by
      unfold sBt at k
      unfold s62
      simp only [Bool.or_eq_false_iff, Bool.and_eq_false_iff, beq_eq_false_iff_ne, decide_eq_false_iff_not] at k ⊢
      omega))
    have j5 : ∀ k, k < 20 → J5 34 0 (s + k) = by4 255 (a5 x1 x2 x3 x4 x5 k) (k % 4) := fun k hk => by
      unfold a5
      by_cases q1 : k < 4
      · rw [if_pos q1, o5 _ (by omega), o4 _ (by omega), o3 _ (by omega), o2 _ (by omega), v1 k q1, Nat.mod_eq_of_lt q1]
      · rw [if_neg q1]
        by_cases q2 : k < 8
        · rw [if_pos q2, o5 _ (by omega), o4 _ (by omega), o3 _ (by omega), show s + k = s + 4 + (k - 4) by omega, v2 (k - 4) (by omega), show k % 4 = k - 4 by omega]
        · rw [if_neg q2]
          by_cases q3 : k < 12
          · rw [if_pos q3, o5 _ (by omega), o4 _ (by omega), show s + k = s + 4 + 4 + (k - 8) by omega, v3 (k - 8) (by omega), show k % 4 = k - 8 by omega]
          · rw [if_neg q3]
            by_cases q4 : k < 16
            · rw [if_pos q4, o5 _ (by omega), show s + k = s + 4 + 4 + 4 + (k - 12) by omega, v4 (k - 12) (by omega), show k % 4 = k - 12 by omega]
            · rw [if_neg q4, show s + k = s + 4 + 4 + 4 + 4 + (k - 16) by omega, v5 (k - 16) (by omega), show k % 4 = k - 16 by omega]
    have kb : K 7 0 4 = ((s + 20 : Nat) : Int) := by rw [FK 7 0 4 rfl, e5]
    have k34 : K 34 = J5 34 := FK.rg (fun _ _ => rfl)
    refine ⟨_, _, L, _, L, t, cc, cm, rel_B h G ⟨by rw [k36, kb], by rw [kb]; omega, fun c hc => ?_, by rw [FK 12 0 43 rfl, FK 7 0 11 rfl, F 12 0 43 rfl, F 7 0 11 rfl]; exact b4, by rw [FK 12 0 50 rfl, FK 7 0 12 rfl, F 12 0 50 rfl, F 7 0 12 rfl]; exact b5⟩⟩
    rw [kb] at hc
    rw [k34]
    by_cases q : c < s
    · have z : J5 34 0 c = I 34 0 c := by
        rw [o5 _ (by omega), o4 _ (by omega), o3 _ (by omega), o2 _ (by omega), o1 _ (by omega)]
      rw [z, k1 c q, F 62 0 c rfl]
      exact b3 c (by omega)
    · obtain ⟨k, rfl⟩ : ∃ k, c = s + k := ⟨c - s, by omega⟩
      rw [j5 k (by omega), k2 k (by omega) (by omega)]
      exact ⟨rfl, vIand_m _ (m := 255) (by decide)⟩
  · exact ⟨-1, I, L, I, L, t, P76_0_0 (d := d + 49) (h1 := by rw [ew]; omega), P159_0_0 (d := d + 50) (h1 := by rw [b1, ew]; omega), h⟩
