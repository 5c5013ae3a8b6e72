/-! what is said, and a way, are taken on both sides -/
theorem text_said : TxB 1 0 := fun d I L t h => by
  obtain ⟨n, n4, en, en', e62, hb⟩ := h.tape
  have kz : ((1 : Int) = 1 ∧ (0 : Int) = 0) ∨ (¬ (1 : Int) = 1 ∧ 0 ≤ (0 : Int) ∧ (0 : Int) ≤ 3) := Or.inl ⟨rfl, rfl⟩
  obtain ⟨J1, A, N, r1, r2, FA, hc, hT, ef1, ef2⟩ := c_prep (d := d + 39) (L := L) (t := t) n4 en hb
  obtain ⟨_, M', _, _, FM', hm', m35', m34', _, _, _, _, m61'⟩ := m_prep (d := d + 39) (L := L) (t := t) (K := I) (b := I 34 0) (so := 1) (k := 0) n4 (Or.inr (Or.inl rfl)) kz hb en' e62
  have h60 := h.pU.2.2
  obtain ⟨ok, J, J0', s, _, FJ, _, out0⟩ := said_ok (e := d + 44) (e' := d + 36) (t := t) (t' := t) hT L L A M' hc hm' m34'
  obtain ⟨C, hC⟩ : ∃ C : H3, C = up3 J 7 0 4 0 := ⟨_, rfl⟩
  have FC1 : Fr (fun r _ c => r == 7 && c == 4) J C := by
    rw [hC]
    exact Fr.rfl'.up rfl
  have FIC : Fr (sTb t) I C := ((in_pc FA).tr (in_sd FJ)).tr (in_c4 FC1)
  have c4 : C 7 0 4 = 0 := by rw [hC, up_e]
  have c36 : C 12 0 36 = (n : Int) := by rw [FC1 12 0 36 rfl, FJ 12 0 36 rfl, FA 12 0 36 rfl]; exact en'
  have c62 : ∀ c, c < n → C 62 0 c = I 34 0 c := fun c hc => by rw [FC1 62 0 c rfl, FJ 62 0 c rfl, FA 62 0 c rfl]; exact e62 c hc
  have c60 : ∀ w, w < 8 → 0 ≤ C 60 0 w := fun w hw => by rw [FC1 60 0 w rfl, FJ 60 0 w rfl, FA 60 0 w rfl]; exact h60 w hw
  have again : ∀ t1 : Nat → Nat, ∃ M0 M J', Cal (d + 50) 179 [vr 12 0, vi 1, vi 0] (mk C L t1) = Res (d + 50) 179 110 [vr 12 0, vi 1, vi 0, vi 1, vi 8] [] (mk M0 L t1) ∧ Cal (d + 49) 168 [vr 12 0] (mk M0 L t1) = some (vx, mk M L t1) ∧ Cal (d + 49) 178 [vr 12 0] (mk M L t1) = some (vi ok, mk J' L t1) ∧ Fr sPm C M ∧ Fr sSe' M J' ∧ M 12 0 45 = 1 ∧ ((ok = 1 ∧ OkF J J' ∧ ∃ ln, DS J J' (t 11) ln) ∨ (ok = 0 ∧ FlS J J')) := fun t1 => by
    obtain ⟨M0, M, q1, q2, FM, hm, m35, m34, _, _, _, _, m61⟩ := m_prep (d := d + 39) (L := L) (t := t1) (K := C) (b := I 34 0) (so := 1) (k := 0) n4 (Or.inr (Or.inl rfl)) kz hb c36 c62
    obtain ⟨ok2, J2, J', s2, s', FJ2, FJ', out⟩ := said_ok (e := d + 44) (e' := d + 36) (t := t) (t' := t1) hT L L A M hc hm m34
    obtain ⟨z1, z2⟩ := some_inj2 (s.symm.trans s2)
    subst z1
    subst z2
    exact ⟨M0, M, J', q1, q2, s', FM, FJ', hm.2.2.1, out⟩
  rcases out0 with ⟨rfl, _⟩ | ⟨rfl, _⟩
  · obtain ⟨M0, M, J', q1, q2, s', FM, FJ', m45, out⟩ := again (ut (ut t 10 (t 11)) 11 (t 10))
    rcases out with ⟨_, ⟨o1, o2, o3⟩, ln, hd1, hd2, hd3, hd4⟩ | ⟨z, _⟩
    · have FG := mkG_f (J := J') (x := -1)
      obtain ⟨G, r3, FK, g33, g2⟩ := sp180s (d := d + 49) (L := L) (t := ut (ut t 10 (t 11)) 11 (t 10)) (I := mkG J' (-1)) (k := 0) (s := ln) hd3 (by rw [FG 12 0 45 rfl, FJ' 12 0 45 rfl]; exact m45) (by rw [FG 12 0 34 rfl]; exact hd2)
      have ans : G 12 0 34 = J 5 (t 11) 3 := by
        rw [FK 12 0 34 rfl, FG 12 0 34 rfl, hd2, hd1]
      have rr := P179_110_1 (d := d + 49) (x1 := 1) (x2 := 0) (x3 := 1) (x4 := 8) (h1 := by decide) (c1 := q2) (c2 := s') (c3 := r3)
      rw [ans] at rr
      have FB : Fr (sTb t) I (mkG J' (-1)) := ((FIC.tr (in_pm FM)).tr (in_se FJ')).tr (in_g FG)
      have FI : Fr (sTp t 0) I G := (sTb_p FB).tr (FK.mo fun r i c q => by
        unfold sTp at q
        unfold sKs
        simp only [Bool.or_eq_false_iff, Bool.and_eq_false_iff, beq_eq_false_iff_ne, decide_eq_false_iff_not] at q ⊢
        omega)
      have o : ∀ a, a ≠ 10 → a ≠ 11 → ut (ut t 10 (t 11)) 11 (t 10) a = t a := fun a h1 h2 => by rw [ut_n h2, ut_n h1]
      have cl : ∀ r i c, r = 5 ∨ (31 ≤ r ∧ r ≤ 33) → G r i c = J r i c := fun r i c hr => by
        rw [FK r i c (by unfold sKs; simp; omega), FG r i c (by simp; omega), FJ' r i c (by unfold sSe' sM12; simp; omega), FM r i c (by unfold sPm; simp; omega), FC1 r i c (by simp; omega)]
      refine ⟨J 5 (t 11) 3, C, G, ut (ut t 10 (t 11)) 11 (t 10), ?_, Eq.trans q1 rr, tx_any h FI ⟨?_, ?_, ?_, ?_, fun w hw => ?_⟩ (reP_s h.pP) (fun j hj => ?_) ?_ (fun y hy => ?_)⟩
      · rw [hC]
        exact P78_0_0 (d := d + 49) (c1 := P49_0_3 (d := d + 48) (c1 := r1) (c2 := r2) (h1 := by decide) (h2 := rfl) (h3 := rfl) (c3 := s) (c4 := sp51))
      · rw [FK 7 0 4 rfl, FG 7 0 4 rfl, FJ' 7 0 4 rfl, FM 7 0 4 rfl]; exact c4
      · rw [FK 12 0 36 rfl]; exact mkG_36
      · rw [FK 12 0 43 rfl, mkG_43, FK 7 0 11 rfl, FG 7 0 11 rfl, FJ' 7 0 11 rfl, FM 7 0 11 rfl, FC1 7 0 11 rfl, o1, o3]
      · rw [FK 12 0 50 rfl, mkG_50, FK 7 0 12 rfl, FG 7 0 12 rfl, FJ' 7 0 12 rfl, FM 7 0 12 rfl, FC1 7 0 12 rfl, o2]
      · rw [FK 60 0 w rfl, FG 60 0 w rfl, FJ' 60 0 w rfl, FM 60 0 w rfl]
        exact c60 w hw
      · rw [o j (by omega) (by omega)]
        exact tb_H h FI (fun r i c r1 r2 => by
          rw [FK r i c (by unfold sKs; simp; omega)]
          refine FB r i c ?_
          unfold sTb
          simp only [Bool.or_eq_false_iff, Bool.and_eq_false_iff, beq_eq_false_iff_ne, decide_eq_false_iff_not]
          omega) hj
      · rw [ut_n (show (10 : Nat) ≠ 11 by decide), ut_e]
        have e5 : G 5 (t 11) 3 = (ln : Int) := by rw [cl 5 _ _ (Or.inl rfl)]; exact hd1
        unfold sd1
        rw [e5]
        refine ⟨g33, by omega, fun i hi => ?_⟩
        obtain ⟨⟨p1, p2, p3⟩, p4, p5⟩ := hd4 i (by omega)
        obtain ⟨a1, a2, a3⟩ := g2 i (by omega)
        rw [a1, a2, a3, FG 67 0 i rfl, FG 68 0 i rfl, FG 69 0 i rfl, cl 31 _ _ (by omega), cl 32 _ _ (by omega), cl 33 _ _ (by omega)]
        exact ⟨⟨p1, p2, p3⟩, p4, p5⟩
      · rw [o (5 + y) (by omega) (by omega)]
        exact tb_W h FI hy (fun r r1 r2 => by
          rw [FK r 0 y (by unfold sKs; simp; omega)]
          refine FB r 0 y ?_
          unfold sTb
          simp only [Bool.or_eq_false_iff, Bool.and_eq_false_iff, beq_eq_false_iff_ne, decide_eq_false_iff_not]
          omega)
    · cases z
  · obtain ⟨M0, M, J', q1, q2, s', FM, FJ', m45, out⟩ := again t
    rcases out with ⟨z, _⟩ | ⟨_, fl⟩
    · cases z
    · have FG := mkG_f (J := J') (x := J' 12 0 42)
      refine ⟨-1, C, mkG J' (J' 12 0 42), t, ?_, Eq.trans q1 (P179_110_2 (d := d + 49) (h1 := by decide) (c1 := q2) (c2 := s')), tx_none h (((FIC.tr (in_pm FM)).tr (in_se FJ')).tr (in_g FG)) ⟨?_, mkG_36, ?_, ?_, fun w hw => ?_⟩⟩
      · rw [hC]
        exact P78_0_0 (d := d + 49) (c1 := P49_0_4 (d := d + 48) (c1 := r1) (c2 := r2) (h1 := by decide) (h2 := rfl) (h3 := rfl) (c3 := s))
      · rw [FG 7 0 4 rfl, FJ' 7 0 4 rfl, FM 7 0 4 rfl]; exact c4
      · rw [mkG_43, FG 7 0 11 rfl, FJ' 7 0 11 rfl, FM 7 0 11 rfl, FC1 7 0 11 rfl]; exact fl.1.symm
      · rw [mkG_50, FG 7 0 12 rfl, FJ' 7 0 12 rfl, FM 7 0 12 rfl, FC1 7 0 12 rfl]; exact fl.2.symm
      · rw [FG 60 0 w rfl, FJ' 60 0 w rfl, FM 60 0 w rfl]
        exact c60 w hw
theorem text_way {k : Nat} (hk : k < 4) : TxB 2 (k : Int) := fun d I L t h => by
  obtain ⟨n, n4, en, en', e62, hb⟩ := h.tape
  have kz : ((2 : Int) = 1 ∧ (k : Int) = 0) ∨ (¬ (2 : Int) = 1 ∧ 0 ≤ (k : Int) ∧ (k : Int) ≤ 3) := Or.inr ⟨by decide, by omega⟩
  have k3 : 0 ≤ (k : Int) ∧ (k : Int) ≤ 3 := by omega
  have k4 : 0 ≤ (k : Int) ∧ (k : Int) < 4 := by omega
  obtain ⟨J1, A, N, r1, r2, FA, hc, hT, ef1, ef2⟩ := c_prep (d := d + 39) (L := L) (t := t) n4 en hb
  obtain ⟨_, M', _, _, FM', hm', m35', m34', m46', m47', m48', m49', m61'⟩ := m_prep (d := d + 39) (L := L) (t := t) (K := I) (b := I 34 0) (so := 2) (k := (k : Int)) n4 (Or.inr (Or.inr rfl)) kz hb en' e62
  have h60 := h.pU.2.2
  obtain ⟨ok, J, J0', s, _, FJ, _, out0⟩ := way_ok (e := d + 44) (e' := d + 36) (t := t) (t' := t) hT L L A M' hc hm' m34' m46' m47' m48' m49'
  obtain ⟨C, hC⟩ : ∃ C : H3, C = up3 J 7 0 4 0 := ⟨_, rfl⟩
  have FC1 : Fr (fun r _ c => r == 7 && c == 4) J C := by
    rw [hC]
    exact Fr.rfl'.up rfl
  have FIC : Fr (sTb t) I C := ((in_pc FA).tr (in_wy FJ)).tr (in_c4 FC1)
  have c4 : C 7 0 4 = 0 := by rw [hC, up_e]
  have c36 : C 12 0 36 = (n : Int) := by rw [FC1 12 0 36 rfl, FJ 12 0 36 rfl, FA 12 0 36 rfl]; exact en'
  have c62 : ∀ c, c < n → C 62 0 c = I 34 0 c := fun c hc => by rw [FC1 62 0 c rfl, FJ 62 0 c rfl, FA 62 0 c rfl]; exact e62 c hc
  have c60 : ∀ w, w < 8 → 0 ≤ C 60 0 w := fun w hw => by rw [FC1 60 0 w rfl, FJ 60 0 w rfl, FA 60 0 w rfl]; exact h60 w hw
  have again : ∀ t1 : Nat → Nat, ∃ M0 M J', Cal (d + 50) 179 [vr 12 0, vi 2, vi (k : Int)] (mk C L t1) = Res (d + 50) 179 110 [vr 12 0, vi 2, vi (k : Int), vi 1, vi 8] [] (mk M0 L t1) ∧ Cal (d + 49) 168 [vr 12 0] (mk M0 L t1) = some (vx, mk M L t1) ∧ Cal (d + 49) 178 [vr 12 0] (mk M L t1) = some (vi ok, mk J' L t1) ∧ Fr sPm C M ∧ Fr sWz M J' ∧ M 12 0 45 = 2 ∧ ((ok = 1 ∧ OkF J J' ∧ ∃ ln, DW J J' (t 9) ln) ∨ (ok = 0 ∧ FlS J J')) := fun t1 => by
    obtain ⟨M0, M, q1, q2, FM, hm, m35, m34, m46, m47, m48, m49, m61⟩ := m_prep (d := d + 39) (L := L) (t := t1) (K := C) (b := I 34 0) (so := 2) (k := (k : Int)) n4 (Or.inr (Or.inr rfl)) kz hb c36 c62
    obtain ⟨ok2, J2, J', s2, s', FJ2, FJ', out⟩ := way_ok (e := d + 44) (e' := d + 36) (t := t) (t' := t1) hT L L A M hc hm m34 m46 m47 m48 m49
    obtain ⟨z1, z2⟩ := some_inj2 (s.symm.trans s2)
    subst z1
    subst z2
    exact ⟨M0, M, J', q1, q2, s', FM, FJ', hm.2.2.1, out⟩
  rcases out0 with ⟨rfl, _⟩ | ⟨rfl, _⟩
  · obtain ⟨M0, M, J', q1, q2, s', FM, FJ', m45, out⟩ := again (ut (ut t (5 + k) (t 9)) 9 (t (5 + k)))
    rcases out with ⟨_, ⟨o1, o2, o3⟩, ln, ⟨w0, w0'⟩, ⟨w1, w1'⟩, ⟨w2, w2'⟩, ⟨w3, w3'⟩, w4, w5⟩ | ⟨z, _⟩
    · have FG := mkG_f (J := J') (x := -1)
      have j48 : mkG J' (-1) 12 0 48 = J 9 (t 9) 0 := by rw [FG 12 0 48 rfl]; exact w0.symm
      have j49 : mkG J' (-1) 12 0 49 = J 9 (t 9) 1 := by rw [FG 12 0 49 rfl]; exact w1.symm
      have j46 : mkG J' (-1) 12 0 46 = J 9 (t 9) 2 := by rw [FG 12 0 46 rfl]; exact w2.symm
      have j47 : mkG J' (-1) 12 0 47 = J 9 (t 9) 3 := by rw [FG 12 0 47 rfl]; exact w3.symm
      have j45 : mkG J' (-1) 12 0 45 = 2 := by rw [FG 12 0 45 rfl, FJ' 12 0 45 rfl]; exact m45
      have r3 := P180_0_2 (d := d + 49) (L := L) (t := ut (ut t (5 + k) (t 9)) 9 (t (5 + k))) (I := mkG J' (-1)) (x1 := (k : Int)) (h1 := by rw [j45]; decide) (h2 := by rw [j45]; decide) (g1 := k4) (g2 := ⟨k4, by rw [j48]; exact w0'⟩) (g3 := ⟨k4, by rw [j49]; exact w1'⟩)
      rw [Int.toNat_natCast, j48, j49, j46, j47] at r3
      obtain ⟨G, hG⟩ : ∃ G : H3, G = up3 (up3 (up3 (up3 (up3 (mkG J' (-1)) 74 0 k (mkG J' (-1) 12 0 34)) 70 0 k (J 9 (t 9) 0)) 71 0 k (J 9 (t 9) 1)) 72 0 k (J 9 (t 9) 2)) 73 0 k (J 9 (t 9) 3) := ⟨_, rfl⟩
      rw [← hG] at r3
      have FK : Fr (fun r _ c => decide (70 ≤ r ∧ r ≤ 74) && c == k) (mkG J' (-1)) G := by
        rw [hG]
        exact ((((Fr.rfl'.up (by simp)).up (by simp)).up (by simp)).up (by simp)).up (by simp)
      have k70 : G 70 0 k = J 9 (t 9) 0 := by rw [hG, up_r (by decide), up_r (by decide), up_r (by decide), up_e]
      have k71 : G 71 0 k = J 9 (t 9) 1 := by rw [hG, up_r (by decide), up_r (by decide), up_e]
      have k72 : G 72 0 k = J 9 (t 9) 2 := by rw [hG, up_r (by decide), up_e]
      have k73 : G 73 0 k = J 9 (t 9) 3 := by rw [hG, up_e]
      have ans : G 12 0 34 = J 9 (t 9) 4 := by
        rw [FK 12 0 34 rfl, FG 12 0 34 rfl, w5, w4]
      have rr := P179_110_1 (d := d + 49) (x1 := 2) (x2 := (k : Int)) (x3 := 1) (x4 := 8) (h1 := by decide) (c1 := q2) (c2 := s') (c3 := r3)
      rw [ans] at rr
      have FB : Fr (sTb t) I (mkG J' (-1)) := ((FIC.tr (in_pm FM)).tr (in_wz FJ')).tr (in_g FG)
      have FI : Fr (sTp t 0) I G := (sTb_p FB).tr (FK.mo fun r i c q => by
        unfold sTp at q
        simp only [Bool.or_eq_false_iff, Bool.and_eq_false_iff, beq_eq_false_iff_ne, decide_eq_false_iff_not] at q ⊢
        omega)
      have o : ∀ a, a ≠ 5 + k → a ≠ 9 → ut (ut t (5 + k) (t 9)) 9 (t (5 + k)) a = t a := fun a h1 h2 => by rw [ut_n h2, ut_n h1]
      have cl : G 9 (t 9) = J 9 (t 9) := funext fun c => by
        rw [FK 9 (t 9) c rfl, FG 9 (t 9) c rfl, FJ' 9 (t 9) c rfl, FM 9 (t 9) c rfl, FC1 9 (t 9) c rfl]
      refine ⟨J 9 (t 9) 4, C, G, ut (ut t (5 + k) (t 9)) 9 (t (5 + k)), ?_, Eq.trans q1 rr, tx_any h FI ⟨?_, ?_, ?_, ?_, fun w hw => ?_⟩ (reP_w hk h.pP) (fun j hj => ?_) ?_ (fun y hy => ?_)⟩
      · rw [hC]
        exact P78_0_0 (d := d + 49) (c1 := P49_0_7 (d := d + 48) (c1 := r1) (c2 := r2) (h1 := by decide) (h2 := by decide) (h3 := rfl) (h4 := k3) (c3 := s) (c4 := sp52 hk))
      · rw [FK 7 0 4 rfl, FG 7 0 4 rfl, FJ' 7 0 4 rfl, FM 7 0 4 rfl]; exact c4
      · rw [FK 12 0 36 rfl]; exact mkG_36
      · rw [FK 12 0 43 rfl, mkG_43, FK 7 0 11 rfl, FG 7 0 11 rfl, FJ' 7 0 11 rfl, FM 7 0 11 rfl, FC1 7 0 11 rfl, o1, o3]
      · rw [FK 12 0 50 rfl, mkG_50, FK 7 0 12 rfl, FG 7 0 12 rfl, FJ' 7 0 12 rfl, FM 7 0 12 rfl, FC1 7 0 12 rfl, o2]
      · rw [FK 60 0 w rfl, FG 60 0 w rfl, FJ' 60 0 w rfl, FM 60 0 w rfl]
        exact c60 w hw
      · rw [o j (by omega) (by omega)]
        exact tb_H h FI (fun r i c r1 r2 => by
          rw [FK r i c (by simp; omega)]
          refine FB r i c ?_
          unfold sTb
          simp only [Bool.or_eq_false_iff, Bool.and_eq_false_iff, beq_eq_false_iff_ne, decide_eq_false_iff_not]
          omega) hj
      · rw [o 10 (by omega) (by omega)]
        exact tb_S h FI (fun r r1 r2 => funext fun i => funext fun c => by
          rw [FK r i c (by simp; omega)]
          refine FB r i c ?_
          unfold sTb
          simp only [Bool.or_eq_false_iff, Bool.and_eq_false_iff, beq_eq_false_iff_ne, decide_eq_false_iff_not]
          omega) (by rw [FK 12 0 33 rfl]; exact FB 12 0 33 rfl)
      · by_cases e : y = k
        · subst e
          rw [ut_n (show 5 + y ≠ 9 by omega), ut_e]
          unfold wy1 wyOk
          rw [cl]
          exact ⟨k70, k71, k72, k73, w3', w2'⟩
        · rw [o (5 + y) (by omega) (by omega)]
          exact tb_W h FI hy (fun r r1 r2 => by
            rw [FK r 0 y (by simp [e])]
            refine FB r 0 y ?_
            unfold sTb
            simp only [Bool.or_eq_false_iff, Bool.and_eq_false_iff, beq_eq_false_iff_ne, decide_eq_false_iff_not]
            omega)
    · cases z
  · obtain ⟨M0, M, J', q1, q2, s', FM, FJ', m45, out⟩ := again t
    rcases out with ⟨z, _⟩ | ⟨_, fl⟩
    · cases z
    · have FG := mkG_f (J := J') (x := J' 12 0 42)
      refine ⟨-1, C, mkG J' (J' 12 0 42), t, ?_, Eq.trans q1 (P179_110_2 (d := d + 49) (h1 := by decide) (c1 := q2) (c2 := s')), tx_none h (((FIC.tr (in_pm FM)).tr (in_wz FJ')).tr (in_g FG)) ⟨?_, mkG_36, ?_, ?_, fun w hw => ?_⟩⟩
      · rw [hC]
        exact P78_0_0 (d := d + 49) (c1 := P49_0_8 (d := d + 48) (c1 := r1) (c2 := r2) (h1 := by decide) (h2 := by decide) (h3 := rfl) (h4 := k3) (c3 := s))
      · rw [FG 7 0 4 rfl, FJ' 7 0 4 rfl, FM 7 0 4 rfl]; exact c4
      · rw [mkG_43, FG 7 0 11 rfl, FJ' 7 0 11 rfl, FM 7 0 11 rfl, FC1 7 0 11 rfl]; exact fl.1.symm
      · rw [mkG_50, FG 7 0 12 rfl, FJ' 7 0 12 rfl, FM 7 0 12 rfl, FC1 7 0 12 rfl]; exact fl.2.symm
      · rw [FG 60 0 w rfl, FJ' 60 0 w rfl, FM 60 0 w rfl]
        exact c60 w hw
/-- no such text -/
theorem text_bad {so k : Int} (h0 : ¬ (so = 0 ∧ 0 ≤ k ∧ k ≤ 3)) (h1 : ¬ (so = 1 ∧ k = 0)) (h2 : ¬ (so = 2 ∧ 0 ≤ k ∧ k ≤ 3)) : TxB so k := fun d I L t h => by
  obtain ⟨n, n4, en, en', e62, hb⟩ := h.tape
  obtain ⟨J1, A, N, r1, r2, FA, hc, hT, ef1, ef2⟩ := c_prep (d := d + 39) (L := L) (t := t) n4 en hb
  obtain ⟨C, hC⟩ : ∃ C : H3, C = up3 A 7 0 4 0 := ⟨_, rfl⟩
  have FC1 : Fr (fun r _ c => r == 7 && c == 4) A C := by
    rw [hC]
    exact Fr.rfl'.up rfl
  have c4 : C 7 0 4 = 0 := by rw [hC, up_e]
  have F41 : Fr sPm C (up3 C 12 0 41 0) := Fr.rfl'.up rfl
  have FG := mkG_f (J := up3 C 12 0 41 0) (x := -1)
  have rm : Cal (d + 50) 179 [vr 12 0, vi so, vi k] (mk C L t) = some (vi (-1), mk (mkG (up3 C 12 0 41 0) (-1)) L t) := by
    unfold mkG
    rw [up_e (I := C)]
    by_cases a : so = 1
    · exact P179_0_1 (d := d + 49) (h1 := a) (h2 := fun z => h1 ⟨a, z⟩)
    · by_cases b : 0 ≤ so ∧ so ≤ 2
      · exact P179_0_3 (d := d + 49) (h1 := a) (h2 := b) (h3 := by omega)
      · exact P179_0_2 (d := d + 49) (h1 := a) (h2 := b)
  have rc : Cal (d + 49) 49 [vr 8 0, vi so, vi k] (mk I L t) = some (vi (-1), mk C L t) := by
    rw [hC]
    by_cases a : so = 0
    · exact P49_0_0 (d := d + 48) (c1 := r1) (c2 := r2) (h1 := a) (h2 := fun z => h0 ⟨a, z⟩)
    · by_cases b : so = 1
      · exact P49_0_5 (d := d + 48) (c1 := r1) (c2 := r2) (h1 := a) (h2 := b) (h3 := fun z => h1 ⟨b, z⟩)
      · by_cases c : so = 2
        · exact P49_0_6 (d := d + 48) (c1 := r1) (c2 := r2) (h1 := a) (h2 := b) (h3 := c) (h4 := fun z => h2 ⟨c, z⟩)
        · exact P49_0_9 (d := d + 48) (c1 := r1) (c2 := r2) (h1 := a) (h2 := b) (h3 := c)
  refine ⟨-1, C, mkG (up3 C 12 0 41 0) (-1), t, P78_0_0 (d := d + 49) (c1 := rc), rm, tx_none h ((((in_pc FA).tr (in_c4 FC1)).tr (in_pm F41)).tr (in_g FG)) ⟨?_, mkG_36, ?_, ?_, fun w hw => ?_⟩⟩
  · rw [FG 7 0 4 rfl, F41 7 0 4 rfl]; exact c4
  · rw [mkG_43, up_e, FG 7 0 11 rfl, F41 7 0 11 rfl, FC1 7 0 11 rfl]; exact ef1.symm
  · rw [mkG_50, FG 7 0 12 rfl, F41 7 0 12 rfl, FC1 7 0 12 rfl]; exact ef2.symm
  · rw [FG 60 0 w rfl, F41 60 0 w rfl, FC1 60 0 w rfl, FA 60 0 w rfl]
    exact h.pU.2.2 w hw
theorem both_text (s k : Int) : Both 78 179 [vi s, vi k] := fun d I L t h => by
  have q : TxB s k := by
    by_cases a : s = 0 ∧ 0 ≤ k ∧ k ≤ 3
    · obtain ⟨rfl, k1, k2⟩ := a
      have := text_head (k := k.toNat) (by omega)
      rw [Int.toNat_of_nonneg k1] at this
      exact this
    · by_cases b : s = 1 ∧ k = 0
      · obtain ⟨rfl, rfl⟩ := b
        exact text_said
      · by_cases c : s = 2 ∧ 0 ≤ k ∧ k ≤ 3
        · obtain ⟨rfl, k1, k2⟩ := c
          have := text_way (k := k.toNat) (by omega)
          rw [Int.toNat_of_nonneg k1] at this
          exact this
        · exact text_bad a b c
  obtain ⟨x, C, K, t1, a, b, c⟩ := q d I L t h
  exact ⟨x, C, L, K, L, t1, a, b, c⟩
