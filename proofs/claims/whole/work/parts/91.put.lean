/-! type, put, clear, end, praise -/
theorem rel_mk {J : H3} {t : Nat → Nat} {nf nm ns now made : Int} (e10 : J 11 0 10 = nf) (e11 : J 11 0 11 = made) (e12 : J 11 0 12 = nm) (e13 : J 11 0 13 = ns) (e16 : J 11 0 16 = now) (pP : reP t) (pF : reF J) (pT : reT J) (pR : reR nf J) (pH : reH t J) (pS : reS t J) (pW : reW t J) (pB : reB J) (pM : reM nf now J) (pV : reV nf nm J) (pO : reO nf J) (pN : reN J) (pL : reL nf nm ns now made J) (pC : reC nf J) (pU : reU nm J) : Rel J t := by
  unfold Rel
  rw [e10, e11, e12, e13, e16]
  exact ⟨pP, pF, pT, pR, pH, pS, pW, pB, pM, pV, pO, pN, pL, pC, pU⟩
def sTy (r _ _ : Nat) : Bool := r == 51 || r == 115
theorem rel_T {I K : H3} {t : Nat → Nat} (h : Rel I t) (F : Fr sTy I K) (hT : reT K) : Rel K t := by
  have hf := h.pF.1
  exact rel_mk (F 11 0 10 rfl) (F 11 0 11 rfl) (F 11 0 12 rfl) (F 11 0 13 rfl) (F 11 0 16 rfl) h.pP
    (reF_cg (fun f _ => ⟨F.ri (fun _ => rfl), F.ri (fun _ => rfl)⟩) (fun f _ => c16_cg (fun _ _ => F 48 0 _ rfl)) (fun f _ => ⟨F 49 0 f rfl, F 50 0 f rfl⟩) (F 11 0 10 rfl) (F 12 0 1 rfl) h.pF) hT
    (reR_cg (Int.le_refl _) (fun r _ => ⟨F.ri (fun _ => rfl), F.ri (fun _ => rfl)⟩) (F.rg (fun _ _ => rfl)) (F.rg (fun _ _ => rfl)) h.pR)
    (reH_cg (F.rg (fun _ _ => rfl)) (F.rg (fun _ _ => rfl)) (F.rg (fun _ _ => rfl)) (F.rg (fun _ _ => rfl)) (F.rg (fun _ _ => rfl)) (F.rg (fun _ _ => rfl)) (F.rg (fun _ _ => rfl)) h.pH)
    (reS_cg (F.rg (fun _ _ => rfl)) (F.rg (fun _ _ => rfl)) (F.rg (fun _ _ => rfl)) (F.rg (fun _ _ => rfl)) (F.rg (fun _ _ => rfl)) (F.rg (fun _ _ => rfl)) (F.rg (fun _ _ => rfl)) (F 12 0 33 rfl) h.pS)
    (reW_cg (F.rg (fun _ _ => rfl)) (F.rg (fun _ _ => rfl)) (F.rg (fun _ _ => rfl)) (F.rg (fun _ _ => rfl)) (F.rg (fun _ _ => rfl)) h.pW)
    (reB_cg (F.rg (fun _ _ => rfl)) (F.rg (fun _ _ => rfl)) (F.rg (fun _ _ => rfl)) (F 12 0 36 rfl) (F 12 0 43 rfl) (F 12 0 50 rfl) h.pB)
    (reM_cg (Int.le_refl _) (fun w _ => ⟨F.ri (fun _ => rfl), F.ri (fun _ => rfl), F.ri (fun _ => rfl)⟩) (fun r r1 r2 => F.rg (fun _ _ => by unfold sTy; simp only [Bool.or_eq_false_iff, beq_eq_false_iff_ne]; omega)) (F 11 0 12 rfl) (F 12 0 2 rfl) h.pM)
    (reV_cg (Int.le_refl _) (Int.le_refl _) (F.rg (fun _ _ => rfl)) (fun i _ _ => ⟨F.ri (fun _ => rfl), F.ri (fun _ => rfl)⟩) (fun r r1 r2 => F.rg (fun _ _ => by unfold sTy; simp only [Bool.or_eq_false_iff, beq_eq_false_iff_ne]; omega)) (F 11 0 13 rfl) (F 12 0 3 rfl) h.pV)
    (reO_cg (Int.le_refl _) (fun i _ _ => F.ri (fun _ => rfl)) (F.rg (fun _ _ => rfl)) (fun i _ => ⟨F.ri (fun _ => rfl), F.ri (fun _ => rfl)⟩) (fun r r1 r2 => F.rg (fun _ _ => by unfold sTy; simp only [Bool.or_eq_false_iff, beq_eq_false_iff_ne]; omega)) (F 11 0 14 rfl) (F 12 0 4 rfl) h.pO)
    (reN_cg (F 11 0 16 rfl) (F 12 0 0 rfl) h.pN)
    (reL_cg (Int.le_refl _) hf.1 (F.rg (fun _ _ => rfl)) (F.rg (fun _ _ => rfl)) (F.rg (fun _ _ => rfl)) (F.rg (fun _ _ => rfl)) (F.rg (fun _ _ => rfl)) (F.rg (fun _ _ => rfl)) (F.rg (fun _ _ => rfl)) (F.rg (fun _ _ => rfl)) (fun f _ => F 50 0 f rfl) (F 11 0 15 rfl) (F 12 0 72 rfl) h.pL)
    (reC_cg (fun f _ => F 1 f 2 rfl) (F 11 0 11 rfl) h.pC)
    (reU_cg (fun w _ => ⟨F 3 w 8 rfl, F 87 0 w rfl⟩) (F.rg (fun _ _ => rfl)) (F.rg (fun _ _ => rfl)) (F 12 0 72 rfl) (F.rg (fun _ _ => rfl)) h.pU)
theorem l153 {d k f : Nat} {I L : H3} {t : Nat → Nat} (hk : k < 6) (hf : f < 120) : ∀ (n j : Nat), j + n = 16 → Res (d + 2) 153 19 [vr 12 0, vi (k : Int), vi (f : Int), vi (j : Int)] [] (mk (sb I 51 0 (16 * k) j (nM I f)) L t) = some (vi 1, mk (sb I 51 0 (16 * k) 16 (nM I f)) L t)
  | 0, j, hj => by
    have h16 : j = 16 := by omega
    subst h16
    exact P153_19_1 (by decide)
  | n + 1, j, hj => by
    have e1 := ix16 (f := k) (k := j) (by omega) (by omega)
    have e2 := ix16 (f := f) (k := j) (by omega) (by omega)
    refine Eq.trans (P153_19_0 (h1 := by omega) (g1 := by rw [e2]; omega) (g2 := by rw [e1]; omega)) ?_
    rw [e1, e2, lem_w32k (k := j) (by omega), Int.toNat_natCast, Int.toNat_natCast, sb_r (show (48 : Nat) ≠ 51 by decide)]
    have := sb_s (I := I) (r := 51) (i := 0) (b := 16 * k) (n := j) (f := nM I f)
    rw [show nM I f j = I 48 0 (16 * f + j) from rfl] at this
    rw [this]
    exact l153 hk hf n (j + 1) (by omega)
theorem both_type (k f : Int) : Both 73 153 [vi k, vi f] := fun d I L t h => by
  have hf := h.pF.1
  have ef := h.pF.2.1
  by_cases a : 0 ≤ k ∧ k < 6
  · by_cases b : 0 ≤ f ∧ f < I 11 0 10
    · obtain ⟨x, rfl⟩ : ∃ x : Nat, k = (x : Int) := ⟨k.toNat, by omega⟩
      obtain ⟨y, rfl⟩ : ∃ y : Nat, f = (y : Int) := ⟨f.toNat, by omega⟩
      have hx6 : x < 6 := by omega
      have hy : y < 120 := by omega
      have c1 := P73_0_2 (d := d + 48) (I := I) (L := L) (t := t) (h1 := show 0 ≤ (x : Int) ∧ (x : Int) ≤ 5 by omega) (g1 := by omega) (h2 := b) (g2 := by omega) (g3 := by omega)
      rw [cp_sr, Int.toNat_natCast, Int.toNat_natCast] at c1
      have F1 : Fr sTy I (sr I 115 x 16 (I 22 y)) := Fr.rfl'.wr (fun _ _ => rfl)
      have c2 := l153 (d := d + 48) (I := sr I 115 x 16 (I 22 y)) (L := L) (t := t) hx6 hy 16 0 rfl
      rw [sb_0] at c2
      have F2 : Fr sTy I (sb (sr I 115 x 16 (I 22 y)) 51 0 (16 * x) 16 (nM (sr I 115 x 16 (I 22 y)) y)) := F1.tr (Fr.st Fr.rfl' (fun _ _ _ => rfl))
      refine ⟨1, _, L, _, L, t, c1, Eq.trans (P153_0_2 (d := d + 48) (h1 := a) (g1 := by rw [F1 12 0 1 rfl]; omega) (h2 := by rw [F1 12 0 1 rfl]; omega)) c2, rel_T h F2 (fun k' hk' => ?_)⟩
      have eN : nM (sr I 115 x 16 (I 22 y)) y = nM I y := congrFun (nM_fr F1 (fun _ => rfl)) y
      rw [eN]
      by_cases q : k' = x
      · subst q
        have e1 : ∀ j, j < 16 → sb (sr I 115 k' 16 (I 22 y)) 51 0 (16 * k') 16 (nM I y) 115 k' j = I 22 y j := fun j hj => by
          rw [sb_r (show (115 : Nat) ≠ 51 by decide), sr_lt hj]
        have e2 : ∀ j, j < 16 → mT (sb (sr I 115 k' 16 (I 22 y)) 51 0 (16 * k') 16 (nM I y)) k' j = nM I y j := fun j hj => by
          unfold mT
          exact sb_in hj
        refine ⟨fun j hj => ?_, ?_⟩
        · rw [e1 j hj]
          exact h.fc y hy j hj
        · rw [c16_cg e1, c16_cg e2]
          exact (h.pF.2.2.1 y hy).2.1
      · have e1 : ∀ j, j < 16 → sb (sr I 115 x 16 (I 22 y)) 51 0 (16 * x) 16 (nM I y) 115 k' j = I 115 k' j := fun j hj => by
          rw [sb_r (show (115 : Nat) ≠ 51 by decide), sr_i q]
        have e2 : ∀ j, j < 16 → mT (sb (sr I 115 x 16 (I 22 y)) 51 0 (16 * x) 16 (nM I y)) k' j = mT I k' j := fun j hj => by
          unfold mT
          rw [sb_out (by omega), sr_r (show (51 : Nat) ≠ 115 by decide)]
        obtain ⟨t1, t2⟩ := h.pT k' hk'
        refine ⟨fun j hj => ?_, ?_⟩
        · rw [e1 j hj]
          exact t1 j hj
        · rw [c16_cg e1, c16_cg e2]
          exact t2
    · exact ⟨0, I, L, I, L, t, P73_0_1 (d := d + 48) (h1 := by omega) (g1 := by omega) (h2 := b), P153_0_1 (d := d + 48) (h1 := a) (g1 := by omega) (h2 := by omega), h⟩
  · exact ⟨0, I, L, I, L, t, P73_0_0 (d := d + 48) (h1 := by omega), P153_0_0 (d := d + 48) (h1 := a), h⟩
def sRw (r i _ : Nat) : Bool := r == 52 || r == 53 || ((r == 4 || r == 30) && Nat.ble i 5)
theorem rel_R {I K : H3} {t : Nat → Nat} (h : Rel I t) (F : Fr sRw I K) (hR : reR (I 11 0 10) K) : Rel K t := by
  have hf := h.pF.1
  have e4 : ∀ i, 6 ≤ i → K 4 i = I 4 i ∧ K 30 i = I 30 i := fun i hi => by
    have nb : Nat.ble i 5 = false := ble_f (by omega)
    exact ⟨F.ri (fun _ => by unfold sRw; rw [nb]; rfl), F.ri (fun _ => by unfold sRw; rw [nb]; rfl)⟩
  exact rel_mk (F 11 0 10 rfl) (F 11 0 11 rfl) (F 11 0 12 rfl) (F 11 0 13 rfl) (F 11 0 16 rfl) h.pP
    (reF_cg (fun f _ => ⟨F.ri (fun _ => rfl), F.ri (fun _ => rfl)⟩) (fun f _ => c16_cg (fun _ _ => F 48 0 _ rfl)) (fun f _ => ⟨F 49 0 f rfl, F 50 0 f rfl⟩) (F 11 0 10 rfl) (F 12 0 1 rfl) h.pF)
    (reT_cg (F.rg (fun _ _ => rfl)) (F.rg (fun _ _ => rfl)) h.pT) hR
    (reH_cg (F.rg (fun _ _ => rfl)) (F.rg (fun _ _ => rfl)) (F.rg (fun _ _ => rfl)) (F.rg (fun _ _ => rfl)) (F.rg (fun _ _ => rfl)) (F.rg (fun _ _ => rfl)) (F.rg (fun _ _ => rfl)) h.pH)
    (reS_cg (F.rg (fun _ _ => rfl)) (F.rg (fun _ _ => rfl)) (F.rg (fun _ _ => rfl)) (F.rg (fun _ _ => rfl)) (F.rg (fun _ _ => rfl)) (F.rg (fun _ _ => rfl)) (F.rg (fun _ _ => rfl)) (F 12 0 33 rfl) h.pS)
    (reW_cg (F.rg (fun _ _ => rfl)) (F.rg (fun _ _ => rfl)) (F.rg (fun _ _ => rfl)) (F.rg (fun _ _ => rfl)) (F.rg (fun _ _ => rfl)) h.pW)
    (reB_cg (F.rg (fun _ _ => rfl)) (F.rg (fun _ _ => rfl)) (F.rg (fun _ _ => rfl)) (F 12 0 36 rfl) (F 12 0 43 rfl) (F 12 0 50 rfl) h.pB)
    (reM_cg (Int.le_refl _) (fun w _ => ⟨F.ri (fun _ => rfl), F.ri (fun _ => rfl), F.ri (fun _ => rfl)⟩) (fun r r1 r2 => F.rg (fun _ _ => by unfold sRw; simp only [Bool.or_eq_false_iff, Bool.and_eq_false_iff, beq_eq_false_iff_ne]; omega)) (F 11 0 12 rfl) (F 12 0 2 rfl) h.pM)
    (reV_cg (Int.le_refl _) (Int.le_refl _) (F.rg (fun _ _ => rfl)) (fun i hi _ => e4 i hi) (fun r r1 r2 => F.rg (fun _ _ => by unfold sRw; simp only [Bool.or_eq_false_iff, Bool.and_eq_false_iff, beq_eq_false_iff_ne]; omega)) (F 11 0 13 rfl) (F 12 0 3 rfl) h.pV)
    (reO_cg (Int.le_refl _) (fun i _ _ => F.ri (fun _ => rfl)) (F.rg (fun _ _ => rfl)) (fun i hi => e4 i (by omega)) (fun r r1 r2 => F.rg (fun _ _ => by unfold sRw; simp only [Bool.or_eq_false_iff, Bool.and_eq_false_iff, beq_eq_false_iff_ne]; omega)) (F 11 0 14 rfl) (F 12 0 4 rfl) h.pO)
    (reN_cg (F 11 0 16 rfl) (F 12 0 0 rfl) h.pN)
    (reL_cg (Int.le_refl _) hf.1 (F.rg (fun _ _ => rfl)) (F.rg (fun _ _ => rfl)) (F.rg (fun _ _ => rfl)) (F.rg (fun _ _ => rfl)) (F.rg (fun _ _ => rfl)) (F.rg (fun _ _ => rfl)) (F.rg (fun _ _ => rfl)) (F.rg (fun _ _ => rfl)) (fun f _ => F 50 0 f rfl) (F 11 0 15 rfl) (F 12 0 72 rfl) h.pL)
    (reC_cg (fun f _ => F 1 f 2 rfl) (F 11 0 11 rfl) h.pC)
    (reU_cg (fun w _ => ⟨F 3 w 8 rfl, F 87 0 w rfl⟩) (F.rg (fun _ _ => rfl)) (F.rg (fun _ _ => rfl)) (F 12 0 72 rfl) (F.rg (fun _ _ => rfl)) h.pU)
theorem bl5 {x : Nat} (h : x < 6) : Nat.ble x 5 = true := Nat.ble_eq_true_of_le (by omega)
theorem both_clear (k : Int) : Both 75 155 [vi k] := fun d I L t h => by
  by_cases a : 0 ≤ k ∧ k < 6
  · obtain ⟨x, rfl⟩ : ∃ x : Nat, k = (x : Int) := ⟨k.toNat, by omega⟩
    have hx6 : x < 6 := by omega
    have F : Fr sRw I (up3 (up3 I 4 x 1 0) 53 0 x 0) := (Fr.rfl'.up (by unfold sRw; rw [bl5 hx6]; rfl)).up rfl
    refine ⟨1, _, L, _, L, t, P75_0_1 (d := d + 48) a, P155_0_1 (d := d + 48) a, rel_R h F (fun r hr => ?_)⟩
    rw [up_r (show (4 : Nat) ≠ 53 by decide), up_r (show (30 : Nat) ≠ 53 by decide), up_r (show (30 : Nat) ≠ 4 by decide), up_r (show (52 : Nat) ≠ 53 by decide), up_r (show (52 : Nat) ≠ 4 by decide)]
    by_cases q : r = x
    · subst q
      rw [Int.toNat_natCast, up_e, up_e]
      exact ⟨rfl, by decide, fun p hp => by omega⟩
    · rw [Int.toNat_natCast, up_s q, up_r (show (53 : Nat) ≠ 4 by decide), up_i q]
      exact h.pR r hr
  · exact ⟨0, I, L, I, L, t, P75_0_0 (d := d + 48) a, P155_0_0 (d := d + 48) a, h⟩
theorem both_put (k f : Int) : Both 74 154 [vi k, vi f] := fun d I L t h => by
  have hf := h.pF.1
  have ef := h.pF.2.1
  by_cases a : 0 ≤ k ∧ k < 6
  · obtain ⟨x, rfl⟩ : ∃ x : Nat, k = (x : Int) := ⟨k.toNat, by omega⟩
    have hx6 : x < 6 := by omega
    obtain ⟨r1, r2, r3⟩ := h.pR x hx6
    by_cases b : f = -1 ∨ (0 ≤ f ∧ f < I 11 0 10)
    · by_cases c : I 4 x 1 < 9
      · obtain ⟨n, hn⟩ : ∃ n : Nat, I 4 x 1 = (n : Int) := ⟨(I 4 x 1).toNat, by omega⟩
        have e1 : w32 (I 4 x 1 + 1) = ((n + 1 : Nat) : Int) := by rw [hn]; exact lem_w32k (by omega)
        have F1 : Fr sRw I (up3 (up3 I 30 x n f) 4 x 1 ((n + 1 : Nat) : Int)) := (Fr.rfl'.up (by unfold sRw; rw [bl5 hx6]; rfl)).up (by unfold sRw; rw [bl5 hx6]; rfl)
        have c1 : Cal (d + 50) 74 [vr 11 0, vi (x : Int), vi f] (mk I L t) = some (vi ((n + 1 : Nat) : Int), mk (up3 (up3 I 30 x n f) 4 x 1 ((n + 1 : Nat) : Int)) L t) := by
          have ea : up3 (up3 I 30 x n f) 4 x 1 ((n + 1 : Nat) : Int) 4 x 1 = ((n + 1 : Nat) : Int) := up_e
          rcases b with b | b
          · have r := P74_0_5 (d := d + 48) (L := L) (t := t) (x2 := f) (h1 := a) (h2 := b) (h3 := by rw [Int.toNat_natCast]; exact c) (g1 := by rw [Int.toNat_natCast]; omega)
            rw [Int.toNat_natCast, e1, hn, Int.toNat_natCast, ea] at r
            exact r
          · have r := P74_0_3 (d := d + 48) (L := L) (t := t) (x2 := f) (h1 := a) (h2 := by omega) (g1 := by omega) (h3 := b) (h4 := by rw [Int.toNat_natCast]; exact c) (g2 := by rw [Int.toNat_natCast]; omega)
            rw [Int.toNat_natCast, e1, hn, Int.toNat_natCast, ea] at r
            exact r
        have hm53 : up3 (up3 I 30 x n f) 4 x 1 ((n + 1 : Nat) : Int) 53 0 x = (n : Int) := by
          rw [up_r (show (53 : Nat) ≠ 4 by decide), up_r (show (53 : Nat) ≠ 30 by decide), r1, hn]
        have hm1 : up3 (up3 I 30 x n f) 4 x 1 ((n + 1 : Nat) : Int) 12 0 1 = I 11 0 10 := by
          rw [up_r (show (12 : Nat) ≠ 4 by decide), up_r (show (12 : Nat) ≠ 30 by decide), ef]
        have e9 : w32 (w32 (9 * (x : Int)) + (n : Int)) = ((9 * x + n : Nat) : Int) := by
          rw [w32_s (x := 9 * (x : Int)) (by omega), w32_s (by omega)]
          omega
        have c2 : Cal (d + 50) 154 [vr 12 0, vi (x : Int), vi f] (mk (up3 (up3 I 30 x n f) 4 x 1 ((n + 1 : Nat) : Int)) L t) = some (vi ((n + 1 : Nat) : Int), mk (up3 (up3 (up3 (up3 I 30 x n f) 4 x 1 ((n + 1 : Nat) : Int)) 52 0 (9 * x + n) f) 53 0 x ((n + 1 : Nat) : Int)) L t) := by
          have ea : up3 (up3 (up3 (up3 I 30 x n f) 4 x 1 ((n + 1 : Nat) : Int)) 52 0 (9 * x + n) f) 53 0 x ((n + 1 : Nat) : Int) 53 0 x = ((n + 1 : Nat) : Int) := up_e
          rcases b with b | b
          · have r := P154_0_5 (d := d + 48) (I := up3 (up3 I 30 x n f) 4 x 1 ((n + 1 : Nat) : Int)) (L := L) (t := t) (x2 := f) (h1 := a) (h2 := b) (h3 := by rw [Int.toNat_natCast, hm53]; omega) (g1 := by rw [Int.toNat_natCast, hm53, e9]; omega)
            rw [Int.toNat_natCast, hm53, e9, lem_w32k (k := n) (by omega), Int.toNat_natCast, ea] at r
            exact r
          · have r := P154_0_3 (d := d + 48) (I := up3 (up3 I 30 x n f) 4 x 1 ((n + 1 : Nat) : Int)) (L := L) (t := t) (x2 := f) (h1 := a) (h2 := by omega) (g1 := by rw [hm1]; omega) (h3 := by rw [hm1]; exact b) (h4 := by rw [Int.toNat_natCast, hm53]; omega) (g2 := by rw [Int.toNat_natCast, hm53, e9]; omega)
            rw [Int.toNat_natCast, hm53, e9, lem_w32k (k := n) (by omega), Int.toNat_natCast, ea] at r
            exact r
        have F2 : Fr sRw I (up3 (up3 (up3 (up3 I 30 x n f) 4 x 1 ((n + 1 : Nat) : Int)) 52 0 (9 * x + n) f) 53 0 x ((n + 1 : Nat) : Int)) := (F1.up rfl).up rfl
        refine ⟨_, _, L, _, L, t, c1, c2, rel_R h F2 (fun r hr => ?_)⟩
        have rr := h.pR r hr
        rw [up_r (show (4 : Nat) ≠ 53 by decide), up_r (show (4 : Nat) ≠ 52 by decide), up_r (show (30 : Nat) ≠ 53 by decide), up_r (show (30 : Nat) ≠ 52 by decide), up_r (show (30 : Nat) ≠ 4 by decide), up_r (show (52 : Nat) ≠ 53 by decide)]
        by_cases q : r = x
        · subst q
          rw [up_e, up_e]
          refine ⟨rfl, by omega, fun p hp => ?_⟩
          show up3 _ 52 0 (9 * r + n) f 52 0 (9 * r + p) = _ ∧ _
          by_cases z : p = n
          · subst z
            rw [up_e, up_e]
            exact ⟨rfl, b⟩
          · rw [up_s (show 9 * r + p ≠ 9 * r + n by omega), up_s z, up_r (show (52 : Nat) ≠ 4 by decide), up_r (show (52 : Nat) ≠ 30 by decide)]
            exact r3 p (by omega)
        · rw [up_s q, up_r (show (53 : Nat) ≠ 52 by decide), up_r (show (53 : Nat) ≠ 4 by decide), up_r (show (53 : Nat) ≠ 30 by decide), up_i q, up_r (show (4 : Nat) ≠ 30 by decide), up_i q]
          refine ⟨rr.1, rr.2.1, fun p hp => ?_⟩
          have h9 := rr.2.1
          show up3 _ 52 0 (9 * x + n) f 52 0 (9 * r + p) = _ ∧ _
          rw [up_s (show 9 * r + p ≠ 9 * x + n by omega), up_r (show (52 : Nat) ≠ 4 by decide), up_r (show (52 : Nat) ≠ 30 by decide)]
          exact rr.2.2 p hp
      · refine ⟨-1, I, L, I, L, t, ?_, ?_, h⟩
        · rcases b with b | b
          · exact P74_0_4 (d := d + 48) (h1 := a) (h2 := b) (h3 := by rw [Int.toNat_natCast]; omega)
          · exact P74_0_2 (d := d + 48) (h1 := a) (h2 := by omega) (g1 := by omega) (h3 := b) (h4 := by rw [Int.toNat_natCast]; omega)
        · rcases b with b | b
          · exact P154_0_4 (d := d + 48) (h1 := a) (h2 := b) (h3 := by rw [Int.toNat_natCast]; omega)
          · exact P154_0_2 (d := d + 48) (h1 := a) (h2 := by omega) (g1 := by omega) (h3 := by omega) (h4 := by rw [Int.toNat_natCast]; omega)
    · exact ⟨-1, I, L, I, L, t, P74_0_1 (d := d + 48) (h1 := a) (h2 := fun z => b (Or.inl z)) (g1 := by omega) (h3 := fun z => b (Or.inr z)), P154_0_1 (d := d + 48) (h1 := a) (h2 := fun z => b (Or.inl z)) (g1 := by omega) (h3 := by rw [ef]; exact fun z => b (Or.inr z)), h⟩
  · exact ⟨-1, I, L, I, L, t, P74_0_0 (d := d + 48) a, P154_0_0 (d := d + 48) a, h⟩
def sMi (r i c : Nat) : Bool := r == 87 || r == 88 || ((r == 3 || r == 28 || r == 29) && Nat.ble i 19) || sQ r i c
theorem rel_M {I K : H3} {t : Nat → Nat} (h : Rel I t) (F : Fr sMi I K) (hM : reM (I 11 0 10) (I 11 0 16) K) (hU : reU (I 11 0 12) K) : Rel K t := by
  have hf := h.pF.1
  have w20 : ∀ i, 20 ≤ i → i < 60 → K 3 i = I 3 i := fun i hi h6 => F.ri (fun c => by
    have n1 : Nat.ble i 19 = false := ble_f (by omega)
    have n2 : (i == 60) = false := by rw [beq_eq_false_iff_ne]; omega
    simp [sMi, sQ, sT, sMs, n1, n2])
  have f1 : ∀ f, f < 120 → K 22 f = I 22 f ∧ K 1 f = I 1 f := fun f hf => by
    have nb : Nat.ble 120 f = false := ble_f hf
    exact ⟨F.ri (fun c => by simp [sMi, sQ, sT, sMs, nb]), F.ri (fun c => by simp [sMi, sQ, sT, sMs, nb])⟩
  have f2 : ∀ f, f < 120 → c16 (nM K f) = c16 (nM I f) := fun f hf => c16_cg (fun j hj => F 48 0 (16 * f + j) (by
    have nb : Nat.ble 1920 (16 * f + j) = false := ble_f (by omega)
    simp [sMi, sQ, sT, sMs, nb]))
  have f3 : ∀ f, f < 120 → K 49 0 f = I 49 0 f := fun f hf => F 49 0 f (by
    have nb : Nat.ble 120 f = false := ble_f (by omega)
    simp [sMi, sQ, sT, sMs, nb])
  have big : ∀ r, 94 ≤ r → r ≤ 114 → r ≠ 104 → K r = I r := fun r r1 r2 r3 => F.rg (fun i c => by
    unfold sMi sQ sT sMs
    simp only [Bool.or_eq_false_iff, Bool.and_eq_false_iff, beq_eq_false_iff_ne]
    omega)
  exact rel_mk (F 11 0 10 rfl) (F 11 0 11 rfl) (F 11 0 12 rfl) (F 11 0 13 rfl) (F 11 0 16 rfl) h.pP
    (reF_cg f1 f2 (fun f hf => ⟨f3 f hf, F 50 0 f rfl⟩) (F 11 0 10 rfl) (F 12 0 1 rfl) h.pF)
    (reT_cg (F.rg (fun _ _ => rfl)) (F.rg (fun _ _ => rfl)) h.pT)
    (reR_cg (Int.le_refl _) (fun r _ => ⟨F.ri (fun _ => rfl), F.ri (fun _ => rfl)⟩) (F.rg (fun _ _ => rfl)) (F.rg (fun _ _ => rfl)) h.pR)
    (reH_cg (F.rg (fun _ _ => rfl)) (F.rg (fun _ _ => rfl)) (F.rg (fun _ _ => rfl)) (F.rg (fun _ _ => rfl)) (F.rg (fun _ _ => rfl)) (F.rg (fun _ _ => rfl)) (F.rg (fun _ _ => rfl)) h.pH)
    (reS_cg (F.rg (fun _ _ => rfl)) (F.rg (fun _ _ => rfl)) (F.rg (fun _ _ => rfl)) (F.rg (fun _ _ => rfl)) (F.rg (fun _ _ => rfl)) (F.rg (fun _ _ => rfl)) (F.rg (fun _ _ => rfl)) (F 12 0 33 rfl) h.pS)
    (reW_cg (F.rg (fun _ _ => rfl)) (F.rg (fun _ _ => rfl)) (F.rg (fun _ _ => rfl)) (F.rg (fun _ _ => rfl)) (F.rg (fun _ _ => rfl)) h.pW)
    (reB_cg (F.rg (fun _ _ => rfl)) (F.rg (fun _ _ => rfl)) (F.rg (fun _ _ => rfl)) (F 12 0 36 rfl) (F 12 0 43 rfl) (F 12 0 50 rfl) h.pB) hM
    (reV_cg (Int.le_refl _) (Int.le_refl _) (F.rg (fun _ _ => rfl)) (fun i hi _ => ⟨F.ri (fun _ => rfl), F.ri (fun _ => rfl)⟩) (fun r r1 r2 => big r r1 (by omega) (by omega)) (F 11 0 13 rfl) (F 12 0 3 rfl) h.pV)
    (reO_cg (Int.le_refl _) w20 (F.rg (fun _ _ => rfl)) (fun i hi => ⟨F.ri (fun _ => rfl), F.ri (fun _ => rfl)⟩) (fun r r1 r2 => big r (by omega) r2 (by omega)) (F 11 0 14 rfl) (F 12 0 4 rfl) h.pO)
    (reN_cg (F 11 0 16 rfl) (F 12 0 0 rfl) h.pN)
    (reL_cg (Int.le_refl _) hf.1 (F.rg (fun _ _ => rfl)) (F.rg (fun _ _ => rfl)) (F.rg (fun _ _ => rfl)) (F.rg (fun _ _ => rfl)) (F.rg (fun _ _ => rfl)) (F.rg (fun _ _ => rfl)) (F.rg (fun _ _ => rfl)) (F.rg (fun _ _ => rfl)) (fun f _ => F 50 0 f rfl) (F 11 0 15 rfl) (F 12 0 72 rfl) h.pL)
    (reC_cg (fun f hf' => by rw [(f1 f (by omega)).2]) (F 11 0 11 rfl) h.pC) hU
theorem both_praise (w : Int) : Both 87 209 [vi w] := fun d I L t h => by
  have M := h.pM
  have hb := M.2.1
  have e1 := M.1
  by_cases a : 0 ≤ w ∧ w < I 11 0 12
  · obtain ⟨x, rfl⟩ : ∃ x : Nat, w = (x : Int) := ⟨w.toNat, by omega⟩
    have m := M.2.2 x a.2
    have m5 := m.2.2.2.2.1
    have hx : x < 20 := by omega
    have nb : Nat.ble x 19 = true := Nat.ble_eq_true_of_le (by omega)
    have ew : w32 (I 3 x 8 + 1) = I 3 x 8 + 1 := w32_s (by omega)
    have c1 := P87_0_1 (d := d + 48) (I := I) (L := L) (t := t) (g1 := by omega) (h1 := a) (g2 := by omega)
    rw [Int.toNat_natCast, ew, up_e] at c1
    have F1 : ∀ v, Fr sMi I (up3 I 3 x 8 v) := fun v => Fr.rfl'.up (by unfold sMi; rw [nb]; rfl)
    have fin : ∀ (v : Int) (K : H3), 0 ≤ v ∧ v ≤ 9 → Fr sMi I K → (∀ y c, (y ≠ x ∨ c ≠ 8) → K 3 y c = I 3 y c) → K 3 x 8 = v → K 87 0 x = v → (∀ y, y ≠ x → K 87 0 y = I 87 0 y) → (∀ r, 80 ≤ r → r ≤ 89 → r ≠ 87 → K r = I r) → K 28 = I 28 → K 29 = I 29 → Rel K t := fun v K hv F k1 k2 k3 k4 k5 k6 k7 => by
      have hU : reU (I 11 0 12) K := by
        unfold reU
        rw [F.rg (r := 90) (fun _ _ => rfl), F.rg (r := 91) (fun _ _ => rfl), F.rg (r := 60) (fun _ _ => rfl), F 12 0 72 rfl]
        refine ⟨fun y y1 y2 => ?_, h.pU.2⟩
        rw [k1 y 8 (Or.inl (by omega)), k4 y (by omega)]
        exact h.pU.1 y y1 y2
      refine rel_M h F ⟨by rw [F 12 0 2 rfl, F 11 0 12 rfl]; exact e1, by rw [F 11 0 12 rfl]; exact hb, fun y hy => ?_⟩ hU
      rw [F 11 0 12 rfl] at hy
      have my := M.2.2 y hy
      obtain ⟨a1, a2, a3, a4, a5, a6, a7, a8, a9⟩ := my
      have kp : kpM K y = kpM I y := by
        unfold kpM
        rw [k5 88 (by decide) (by decide) (by decide)]
      have kt : ktM K y = ktM I y := by
        unfold ktM
        rw [k5 89 (by decide) (by decide) (by decide)]
      unfold rmi
      rw [kp, kt, k6, k7, k5 80 (by decide) (by decide) (by decide), k5 81 (by decide) (by decide) (by decide), k5 82 (by decide) (by decide) (by decide), k5 83 (by decide) (by decide) (by decide), k5 84 (by decide) (by decide) (by decide), k5 85 (by decide) (by decide) (by decide), k5 86 (by decide) (by decide) (by decide), k1 y 2 (Or.inr (by decide)), k1 y 3 (Or.inr (by decide)), k1 y 4 (Or.inr (by decide)), k1 y 5 (Or.inr (by decide)), k1 y 6 (Or.inr (by decide)), k1 y 7 (Or.inr (by decide)), k1 y 9 (Or.inr (by decide)), k1 y 10 (Or.inr (by decide))]
      refine ⟨a1, a2, a3, a4, ?_, a6, a7, a8, a9⟩
      by_cases q : y = x
      · subst q
        rw [k2, k3]
        exact ⟨rfl, hv⟩
      · rw [k1 y 8 (Or.inl q), k4 y q]
        exact a5
    by_cases b : I 3 x 8 < 9
    · have ei : (if I 3 x 8 + 1 < 9 then I 3 x 8 + 1 else 9) = I 3 x 8 + 1 := by split <;> omega
      rw [ei] at c1
      have c2 := P209_0_1 (d := d + 48) (x1 := (x : Int)) (I := up3 I 3 x 8 (I 3 x 8 + 1)) (L := L) (t := t) (g1 := by rw [F1 _ 12 0 2 rfl]; omega) (h1 := by rw [F1 _ 12 0 2 rfl]; omega) (g2 := by omega) (h2 := by rw [Int.toNat_natCast, up_r (show (87 : Nat) ≠ 3 by decide)]; omega)
      have e87 : w32 (up3 I 3 x 8 (I 3 x 8 + 1) 87 0 x + 1) = I 3 x 8 + 1 := by
        rw [up_r (show (87 : Nat) ≠ 3 by decide), m5.1, ew]
      rw [Int.toNat_natCast, e87, up_e] at c2
      refine ⟨_, _, L, _, L, t, c1, c2, fin (I 3 x 8 + 1) _ (by omega) ((F1 _).up rfl) (fun y c hyc => ?_) ?_ up_e (fun y hy => ?_) (fun r r1 r2 r3 => ?_) ?_ ?_⟩
      · rw [up_r (show (3 : Nat) ≠ 87 by decide)]
        exact if_neg (fun z => by omega)
      · rw [up_r (show (3 : Nat) ≠ 87 by decide), up_e]
      · rw [up_s hy, up_r (show (87 : Nat) ≠ 3 by decide)]
      · rw [up_r r3, up_r (show r ≠ 3 by omega)]
      · rw [up_r (show (28 : Nat) ≠ 87 by decide), up_r (show (28 : Nat) ≠ 3 by decide)]
      · rw [up_r (show (29 : Nat) ≠ 87 by decide), up_r (show (29 : Nat) ≠ 3 by decide)]
    · have ei : (if I 3 x 8 + 1 < 9 then I 3 x 8 + 1 else 9) = 9 := by split <;> omega
      rw [ei] at c1
      have c2 := P209_0_2 (d := d + 48) (x1 := (x : Int)) (I := up3 I 3 x 8 9) (L := L) (t := t) (g1 := by rw [F1 _ 12 0 2 rfl]; omega) (h1 := by rw [F1 _ 12 0 2 rfl]; omega) (g2 := by omega) (h2 := by rw [Int.toNat_natCast, up_r (show (87 : Nat) ≠ 3 by decide)]; omega)
      have e87 : up3 I 3 x 8 9 87 0 x = 9 := by
        rw [up_r (show (87 : Nat) ≠ 3 by decide)]
        omega
      rw [Int.toNat_natCast, e87] at c2
      refine ⟨_, _, L, _, L, t, c1, c2, fin 9 _ (by decide) (F1 _) (fun y c hyc => if_neg (fun z => by omega)) up_e e87 (fun y hy => ?_) (fun r r1 r2 r3 => ?_) ?_ ?_⟩
      · rw [up_r (show (87 : Nat) ≠ 3 by decide)]
      · rw [up_r (show r ≠ 3 by omega)]
      · rw [up_r (show (28 : Nat) ≠ 3 by decide)]
      · rw [up_r (show (29 : Nat) ≠ 3 by decide)]
  · exact ⟨-1, I, L, I, L, t, P87_0_0 (d := d + 48) (g1 := by omega) (h1 := a), P209_0_0 (d := d + 48) (g1 := by omega) (h1 := by omega), h⟩
