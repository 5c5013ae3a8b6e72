/-! a head is read, on both sides -/
def DlW (I I' : H3) (D : Nat) (X : List (Int × Int)) (w : Nat) : Prop := 0 ≤ I' 60 0 w ∧ ((I 25 D w = 0 ∧ I 26 D w = 0 ∧ I' 61 0 w = 0) ∨ ∃ a z : Nat, I 25 D w = (a : Int) ∧ I 26 D w = (z : Int) ∧ I' 60 0 w = (a : Int) ∧ I' 61 0 w = (z : Int) ∧ a < z ∧ z ≤ X.length ∧ okL ((X.drop a).take (z - a)) 0 = true)
def DL (I I' : H3) (D : Nat) (X : List (Int × Int)) (ln : Nat) : Prop := (∀ w, w < 8 → DlW I I' D X w) ∧ I 2 D 6 = (ln : Int) ∧ I' 12 0 34 = (ln : Int)
theorem take_app {X Y : List (Int × Int)} {a z : Nat} (h1 : a ≤ z) (h2 : z ≤ X.length) : ((X ++ Y).drop a).take (z - a) = (X.drop a).take (z - a) := by
  rw [List.drop_append_of_le_length (by omega), List.take_append_of_le_length (by rw [List.length_drop]; omega)]
theorem DlW.mono {I I' J J' : H3} {D w : Nat} {X Y : List (Int × Int)} (h : DlW I I' D X w) (e1 : J 25 D w = I 25 D w) (e2 : J 26 D w = I 26 D w) (e3 : J' 60 0 w = I' 60 0 w) (e4 : J' 61 0 w = I' 61 0 w) : DlW J J' D (X ++ Y) w := by
  unfold DlW
  rw [e1, e2, e3, e4]
  refine ⟨h.1, ?_⟩
  rcases h.2 with q | ⟨a, z, q1, q2, q3, q4, q5, q6, q7⟩
  · exact Or.inl q
  · refine Or.inr ⟨a, z, q1, q2, q3, q4, q5, by rw [List.length_append]; omega, ?_⟩
    rw [take_app (by omega) q6]
    exact q7
def sHd (D r i c : Nat) : Bool := sSu D r i c || ((r == 25 || r == 26) && i == D) || (r == 2 && i == D && c == 6)
def sHw (r i c : Nat) : Bool := sSw r i c || r == 60 || r == 61 || (r == 12 && c == 34)
theorem sSu_hd {D : Nat} {I J : H3} (F : Fr (sSu D) I J) : Fr (sHd D) I J := F.mo (fun r i c k => by
  unfold sHd at k
  simp only [Bool.or_eq_false_iff] at k
  exact k.1.1)
theorem sSw_hw {I J : H3} (F : Fr sSw I J) : Fr sHw I J := F.mo (fun r i c k => by
  unfold sHw at k
  simp only [Bool.or_eq_false_iff] at k
  exact k.1.1.1)
section HEAD
variable {b : Nat → Int} {n N : Nat} {t t' : Nat → Nat}
/-- what has been read -/
def FlH (D : Nat) (J J' : H3) : Prop := Fl D J J' ∧ ∀ w, w < 8 → 0 ≤ J' 60 0 w
def Rh (I I' : H3) (D : Nat) : Prop := OkF I I' ∧ ∃ X ln, StpC I D X ∧ StpM I' X ∧ DL I I' D X ln ∧ X.length ≤ 400
theorem heads {e e' : Nat} (hT : TokH b n N) (L L' : H3) : ∀ (f j : Nat) (I I' : H3) (X : List (Int × Int)) (x ln : Nat) (u : MV), N ≤ j + f → x ≤ j → ln ≤ j → HC b n N I (t 4) j X → MCur b n 0 I' j → StpM I' X → DL I I' (t 4) X ln → X.length ≤ j →
    ∃ ok J J', Res (e + 29) 53 9 [vr 8 0, vi (x : Int), u] [] (mk I L t) = some (vi ok, mk J L t) ∧ Res (e' + 40) 178 0 [vr 12 0] [] (mk I' L' t') = some (vi ok, mk J' L' t') ∧ Fr (sHd (t 4)) I J ∧ Fr sHw I' J' ∧ ((ok = 1 ∧ Rh J J' (t 4)) ∨ (ok = 0 ∧ FlH (t 4) J J'))
  | f, j, I, I', X, x, ln, u, hf, hx, hln, hc, hm, hs, hd, hl => by
    have e8 := hc.1.2.2.2.1
    have m38 := hm.2.2.2.2.2.1
    have m45 := hm.2.2.1
    have M := mt0 b n (stN b n j)
    have hN := hT.1
    have hN2 := hT.2.1
    have jN := hc.1.2.2.2.2.2.2
    have x400 : (x : Int) ≤ 400 := by omega
    have wx : w32 ((x : Int) + 1) = ((x + 1 : Nat) : Int) := lem_w32k (by omega)
    have hm0 : HM b n (up3 I' 12 0 44 0) j X 0 := by
      have F : Fr (fun r _ c => r == 12 && c == 44) I' (up3 I' 12 0 44 0) := Fr.rfl'.up rfl
      exact ⟨hm.fr F (fun _ => rfl) ⟨rfl, rfl, rfl, rfl, rfl, rfl, rfl⟩, hs.fr F (fun _ => rfl) rfl, up_e⟩
    -- refusing
    have bad : ∀ k : Int, ∃ J J', Cal (e + 28) 37 [vr 7 0, vi k] (mk I L t) = some (vi 0, mk J L t) ∧ Cal (e' + 38) 169 [vr 12 0, vi k] (mk I' L' t') = some (vi 0, mk J' L' t') ∧ Fr (sHd (t 4)) I J ∧ Fr sHw I' J' ∧ FlH (t 4) J J' := fun k => by
      refine ⟨_, _, P37_0_0, P169_0_0, (Fr.rfl'.up (by simp [sHd, sSu])).up (by simp [sHd, sSu]), (Fr.rfl'.up rfl).up rfl, ⟨?_, ?_, ?_⟩, fun v hv => ?_⟩
      · rw [up_s (by decide), up_e, up_s (by decide), up_e]
      · rw [up_e, up_e, hc.1.2.2.2.2.1, hm.2.2.2.1]
      · rw [up_r (show (2 : Nat) ≠ 7 by decide), up_r (show (2 : Nat) ≠ 7 by decide), hc.2.1]
        omega
      · rw [up_r (show (60 : Nat) ≠ 12 by decide), up_r (show (60 : Nat) ≠ 12 by decide)]
        exact (hd.1 v hv).1
    by_cases a : tkC b n (stN b n j) = 24
    · exact ⟨1, I, I', P53_9_0 (h1 := x400) (h2 := by rw [e8]; exact a), P178_0_6 (h1 := by rw [m38]; exact M.2.2.1.mp a), Fr.rfl', Fr.rfl', Or.inl ⟨rfl, ⟨hc.1.2.2.2.2.2.2.2.1, hc.1.2.2.2.2.2.2.2.2, hm.1.2⟩, X, ln, hc.2, hs, hd, by omega⟩⟩
    · have a1 : ¬ I 7 0 8 = 24 := by rw [e8]; exact a
      have a' : ¬ I' 12 0 38 = 0 := by rw [m38]; exact fun z => a (M.2.2.1.mpr z)
      have jlt := hc.lt hT a
      by_cases g : 0 ≤ tkC b n (stN b n j) ∧ tkC b n (stN b n j) ≤ 7
      · have g1 : 0 ≤ I 7 0 8 ∧ I 7 0 8 ≤ 7 := by rw [e8]; exact g
        have g' : 20 ≤ I' 12 0 38 ∧ I' 12 0 38 ≤ 27 := by rw [m38]; exact M.2.2.2.1.mp g
        obtain ⟨w, ew⟩ : ∃ w : Nat, tkC b n (stN b n j) = (w : Int) := ⟨(tkC b n (stN b n j)).toNat, by omega⟩
        have w8 : w < 8 := by omega
        have wM : w32 (I' 12 0 38 - 20) = (w : Int) := by
          rw [m38, M.2.2.2.2 g, ew, w32_s (by omega)]
          omega
        have gw : 0 ≤ w32 (I' 12 0 38 - 20) ∧ w32 (I' 12 0 38 - 20) < 8 := by rw [wM]; omega
        have gx : 0 ≤ (w : Int) ∧ (w : Int) < 8 := by omega
        rcases (hd.1 w w8).2 with ⟨d1, d2, d3⟩ | ⟨p, z, d1, d2, d3, d4, d5, d6, d7⟩
        · -- a new line
          have c1 : Cal (e + 28) 14 [vr 2 (t 4), vi (w : Int)] (mk I L t) = some (vi 0, mk I L t) := P14_0_1 (g1 := gx) (h1 := by rw [Int.toNat_natCast, d1, d2]; exact Int.le_refl _)
          have c2 := P15_0_0 (d := e + 28) (L := L) (t := t) (I := I) (i0 := t 4) (x1 := (w : Int)) (g1 := gx)
          rw [Int.toNat_natCast, hc.2.1] at c2
          have F0 : Fr (fun r i c => r == 25 && i == t 4 && c == w) I (up3 I 25 (t 4) w (X.length : Int)) := Fr.rfl'.up (by simp)
          have hc0 : HC b n N (up3 I 25 (t 4) w (X.length : Int)) (t 4) j X := ⟨hc.1.fr F0 (fun _ => ⟨rfl, rfl, rfl⟩) ⟨rfl, rfl, rfl, rfl, rfl, rfl, rfl⟩, hc.2.fr F0 (fun _ => ⟨rfl, rfl⟩) rfl⟩
          obtain ⟨I1, s1, F1, k1⟩ := hc0.step (d := e + 28) (L := L) (t := t) hT jlt
          have hM : HM b n I' j X 0 ∨ True := Or.inr trivial
          obtain ⟨B1, s1', F1', q1⟩ := sp168 (d := e' + 28) (L := L') (t := t') hT.1 (Or.inl rfl) hT.2.2.2.2 hm
          have qs : StpM B1 X := hs.fr F1' (fun _ => rfl) rfl
          obtain ⟨C1, hC1⟩ : ∃ C1 : H3, C1 = up3 (up3 B1 12 0 44 0) 60 0 w (X.length : Int) := ⟨_, rfl⟩
          have FC : Fr (fun r _ c => (r == 12 && c == 44) || (r == 60 && c == w)) B1 C1 := by
            rw [hC1]
            exact (Fr.rfl'.up (by simp)).up (by simp)
          have k60 : ∀ v, v < 8 → 0 ≤ C1 60 0 v := fun v hv => by
            by_cases zz : v = w
            · subst zz
              rw [hC1, up_e]
              omega
            · rw [FC 60 0 v (by simp [zz]), F1' 60 0 v rfl]
              exact (hd.1 v hv).1
          have k1' : HM b n C1 (j + 1) X 0 := ⟨q1.fr FC (fun _ => rfl) ⟨rfl, rfl, rfl, rfl, rfl, rfl, rfl⟩, qs.fr FC (fun _ => rfl) rfl, by rw [hC1, up_r (by decide), up_e]; rfl⟩
          obtain ⟨ok, J2, J2', s2, s2', F2, F2', out⟩ := sums (e := e) (e' := e') (t := t) (t' := t') hT 8 0 rfl L L' I1 C1 (j + 1) X 0 k1 k1' (by omega) (Nat.zero_le _)
          have FI : Fr (sHd (t 4)) I J2 := (F0.mo (fun r i c k => by
            unfold sHd at k
            simp only [Bool.or_eq_false_iff, Bool.and_eq_false_iff, beq_eq_false_iff_ne] at k ⊢
            have := k.1.2
            omega)).tr ((sSu_hd (s38_su F1)).tr (sSu_hd F2))
          have FI' : Fr sHw I' J2' := (sSw_hw (s37_sw F1')).tr ((FC.mo (fun r i c k => by
            unfold sHw sSw at k
            simp only [Bool.or_eq_false_iff, Bool.and_eq_false_iff, beq_eq_false_iff_ne] at k ⊢
            omega)).tr (sSw_hw F2'))
          have cM : Cal (e' + 38) 172 [vr 12 0] (mk (up3 (up3 B1 12 0 44 0) 60 0 (w32 (I' 12 0 38 - 20)).toNat (B1 12 0 35)) L' t') = some (vi ok, mk J2' L' t') := by
            rw [wM, qs.1, Int.toNat_natCast, ← hC1]
            exact s2'
          have h61 : I' 61 0 (w32 (I' 12 0 38 - 20)).toNat ≤ 0 := by rw [wM, Int.toNat_natCast, d3]; exact Int.le_refl _
          have ew8 : I 7 0 8 = (w : Int) := by rw [e8, ew]
          rcases out with ⟨rfl, j', Y, lo, yl, q2, q3, sg⟩ | ⟨rfl, fl⟩
          · have j'N := q2.1.2.2.2.2.2.2
            have ylen : X.length < (X ++ Y).length := by
              rw [List.length_append]
              have : Y ≠ [] := fun z => by
                have := sg []
                rw [z] at this
                cases this
              have : 0 < Y.length := List.length_pos_iff.mpr this
              omega
            have okY : okL Y 0 = true := by
              have := sg []
              rw [List.append_nil] at this
              rw [this]
              rfl
            obtain ⟨C2, hC2⟩ : ∃ C2 : H3, C2 = up3 J2' 61 0 w ((X ++ Y).length : Int) := ⟨_, rfl⟩
            have FC2 : Fr (fun r _ c => r == 61 && c == w) J2' C2 := by
              rw [hC2]
              exact Fr.rfl'.up (by simp)
            have q3' : HM b n C2 j' (X ++ Y) 0 := ⟨q3.1.fr FC2 (fun _ => rfl) ⟨rfl, rfl, rfl, rfl, rfl, rfl, rfl⟩, q3.2.1.fr FC2 (fun _ => rfl) rfl, by rw [FC2 12 0 44 rfl]; exact q3.2.2⟩
            obtain ⟨ok2, J3, J3', s3, s3', F3, F3', out2⟩ := both_sign (d := e + 27) (d' := e' + 27) (L := L) (L' := L') (t := t) (t' := t') 59 sign59 (by decide) hT q2 q3'
            have FI3 : Fr (sHd (t 4)) I J3 := FI.tr (sSu_hd F3)
            have FI3' : Fr sHw I' J3' := FI'.tr ((FC2.mo (fun r i c k => by
              unfold sHw at k
              simp only [Bool.or_eq_false_iff, Bool.and_eq_false_iff, beq_eq_false_iff_ne] at k ⊢
              exact Or.inl k.1.2)).tr (sSw_hw F3'))
            have cS : Cal (e' + 38) 170 [vr 12 0, vi 59] (mk (up3 J2' 61 0 (w32 (I' 12 0 38 - 20)).toNat (J2' 12 0 35)) L' t') = some (vi ok2, mk J3' L' t') := by
              rw [wM, q3.2.1.1, Int.toNat_natCast, ← hC2]
              exact s3'
            rcases out2 with ⟨rfl, w1, w2⟩ | ⟨rfl, fl⟩
            · have j3N := w1.1.2.2.2.2.2.2
              have e6 : J3 2 (t 4) 6 = (ln : Int) := by
                rw [F3 2 (t 4) 6 (by simp [sSu, sAd]), F2 2 (t 4) 6 (by simp [sSu, sAd]), F1 2 (t 4) 6 rfl, F0 2 (t 4) 6 rfl]
                exact hd.2.1
              have e34 : J3' 12 0 34 = (ln : Int) := by
                rw [F3' 12 0 34 rfl, FC2 12 0 34 rfl, F2' 12 0 34 rfl, FC 12 0 34 rfl, F1' 12 0 34 rfl]
                exact hd.2.2
              have c6 := P16_0_0 (d := e + 28) (L := L) (t := t) (I := J3) (i0 := t 4) (x1 := (w : Int)) (g1 := gx)
              rw [Int.toNat_natCast, w1.2.1, e6, lem_w32k (k := ln) (by omega)] at c6
              obtain ⟨A4, hA4⟩ : ∃ A4 : H3, A4 = up3 (up3 J3 26 (t 4) w ((X ++ Y).length : Int)) 2 (t 4) 6 ((ln + 1 : Nat) : Int) := ⟨_, rfl⟩
              rw [← hA4] at c6
              have FA4 : Fr (fun r i c => (r == 26 && i == t 4 && c == w) || (r == 2 && i == t 4 && c == 6)) J3 A4 := by
                rw [hA4]
                exact (Fr.rfl'.up (by simp)).up (by simp)
              obtain ⟨B4, hB4⟩ : ∃ B4 : H3, B4 = up3 J3' 12 0 34 ((ln + 1 : Nat) : Int) := ⟨_, rfl⟩
              have FB4 : Fr (fun r _ c => r == 12 && c == 34) J3' B4 := by
                rw [hB4]
                exact Fr.rfl'.up rfl
              have hl4 : (X ++ Y).length ≤ j' + 1 := by rw [List.length_append]; omega
              match f, hf with
              | 0, hf => omega
              | f + 1, hf =>
              obtain ⟨ok, J, J', r, r', G, G', out⟩ := heads hT L L' f (j' + 1) A4 B4 (X ++ Y) (x + 1) (ln + 1) (vi (I 7 0 8)) (by omega) (by omega) (by omega) ⟨w1.1.fr FA4 (fun _ => ⟨rfl, rfl, rfl⟩) ⟨rfl, rfl, rfl, rfl, rfl, rfl, rfl⟩, w1.2.fr FA4 (fun _ => ⟨rfl, rfl⟩) (by simp)⟩ (w2.1.fr FB4 (fun _ => rfl) ⟨rfl, rfl, rfl, rfl, rfl, rfl, rfl⟩) (w2.2.1.fr FB4 (fun _ => rfl) rfl) ⟨fun v hv => by
                  by_cases zz : v = w
                  · subst zz
                    refine ⟨?_, Or.inr ⟨X.length, (X ++ Y).length, ?_, ?_, ?_, ?_, ylen, Nat.le_refl _, ?_⟩⟩
                    · rw [FB4 60 0 v rfl, F3' 60 0 v rfl, FC2 60 0 v rfl, F2' 60 0 v rfl, hC1, up_e]
                      omega
                    · rw [FA4 25 (t 4) v rfl, F3 25 (t 4) v rfl, F2 25 (t 4) v rfl, F1 25 (t 4) v rfl, up_e]
                    · rw [hA4, up_r (by decide), up_e]
                    · rw [FB4 60 0 v rfl, F3' 60 0 v rfl, FC2 60 0 v rfl, F2' 60 0 v rfl, hC1, up_e]
                    · rw [FB4 61 0 v rfl, F3' 61 0 v rfl, hC2, up_e]
                    · rw [List.length_append, show X.length + Y.length - X.length = Y.length by omega, List.drop_left, List.take_length]
                      exact okY
                  · refine (hd.1 v hv).mono ?_ ?_ ?_ ?_
                    · rw [FA4 25 (t 4) v rfl, F3 25 (t 4) v rfl, F2 25 (t 4) v rfl, F1 25 (t 4) v rfl, up_s zz]
                    · rw [FA4 26 (t 4) v (by simp [zz]), F3 26 (t 4) v rfl, F2 26 (t 4) v rfl, F1 26 (t 4) v rfl, F0 26 (t 4) v rfl]
                    · rw [FB4 60 0 v rfl, F3' 60 0 v rfl, FC2 60 0 v rfl, F2' 60 0 v rfl, FC 60 0 v (by simp [zz]), F1' 60 0 v rfl]
                    · rw [FB4 61 0 v rfl, F3' 61 0 v rfl, FC2 61 0 v (by simp [zz]), F2' 61 0 v rfl, FC 61 0 v rfl, F1' 61 0 v rfl], by rw [hA4, up_e], by rw [hB4, up_e]⟩ hl4
              have cl := P175_0_5 (h1 := g') (g1 := gw) (h2 := h61) (c1 := s1') (g2 := gw) (c2 := cM) (c3 := cS)
              have rl := P178_0_1 (h1 := a') (h2 := m45) (c1 := cl)
              rw [e34, lem_w32k (k := ln) (by omega), ← hB4] at rl
              refine ⟨ok, J, J', Eq.trans (P53_9_6 (h1 := x400) (h2 := a1) (h3 := g1) (c1 := by rw [ew8]; exact c1) (c2 := by rw [ew8]; exact c2) (c3 := s1) (c4 := s2) (c5 := s3) (c6 := by rw [ew8]; exact c6)) (by rw [wx]; exact r), Eq.trans rl r', FI3.tr ((FA4.mo (fun r i c k => ?_)).tr G), FI3'.tr ((FB4.mo (fun r i c k => ?_)).tr G'), out⟩
              · unfold sHd at k
                simp only [Bool.or_eq_false_iff, Bool.and_eq_false_iff, beq_eq_false_iff_ne] at k ⊢
                obtain ⟨⟨_, k2⟩, k3⟩ := k
                exact ⟨by omega, k3⟩
              · unfold sHw at k
                simp only [Bool.or_eq_false_iff, Bool.and_eq_false_iff, beq_eq_false_iff_ne] at k ⊢
                exact k.2
            · refine ⟨0, J3, J3', P53_9_5 (h1 := x400) (h2 := a1) (h3 := g1) (c1 := by rw [ew8]; exact c1) (c2 := by rw [ew8]; exact c2) (c3 := s1) (c4 := s2) (c5 := s3), P178_0_0 (h1 := a') (h2 := m45) (c1 := P175_0_6 (h1 := g') (g1 := gw) (h2 := h61) (c1 := s1') (g2 := gw) (c2 := cM) (c3 := cS)), FI3, FI3', Or.inr ⟨rfl, fl, fun v hv => by rw [F3' 60 0 v rfl, FC2 60 0 v rfl, F2' 60 0 v rfl]; exact k60 v hv⟩⟩
          · exact ⟨0, J2, J2', P53_9_7 (h1 := x400) (h2 := a1) (h3 := g1) (c1 := by rw [ew8]; exact c1) (c2 := by rw [ew8]; exact c2) (c3 := s1) (c4 := s2), P178_0_0 (h1 := a') (h2 := m45) (c1 := P175_0_4 (h1 := g') (g1 := gw) (h2 := h61) (c1 := s1') (g2 := gw) (c2 := cM)), FI, FI', Or.inr ⟨rfl, fl, fun v hv => by rw [F2' 60 0 v rfl]; exact k60 v hv⟩⟩
        · -- a line that there is already
          obtain ⟨J, J', s, s', F, F', fl⟩ := bad 2
          have c1 : Cal (e + 28) 14 [vr 2 (t 4), vi (I 7 0 8)] (mk I L t) = some (vi 1, mk I L t) := P14_0_0 (g1 := by rw [e8, ew]; exact gx) (h1 := by rw [e8, ew, Int.toNat_natCast, d1, d2]; omega)
          exact ⟨0, J, J', P53_9_4 (h1 := x400) (h2 := a1) (h3 := g1) (c1 := c1) (c2 := s), P178_0_0 (h1 := a') (h2 := m45) (c1 := P175_0_3 (h1 := g') (g1 := gw) (h2 := by rw [wM, Int.toNat_natCast, d4]; omega) (c1 := s')), F, F', Or.inr ⟨rfl, fl⟩⟩
      · obtain ⟨J, J', s, s', F, F', fl⟩ := bad 1
        exact ⟨0, J, J', P53_9_2 (h1 := x400) (h2 := a1) (h3 := by rw [e8]; exact g) (c1 := s), P178_0_0 (h1 := a') (h2 := m45) (c1 := P175_0_1 (h1 := by rw [m38]; exact fun z => g (M.2.2.2.1.mpr z)) (c1 := s')), F, F', Or.inr ⟨rfl, fl⟩⟩
/-- the whole of it, from the first token on -/
theorem head_ok {e e' : Nat} (hT : TokH b n N) (L L' I I' : H3) (hc : Cur b n N I 0) (hm : MCur b n 0 I' 0) (h35 : I' 12 0 35 = 0) (h34 : I' 12 0 34 = 0) (h60 : ∀ w, w < 8 → 0 ≤ I' 60 0 w) (h61 : ∀ w, w < 8 → I' 61 0 w = 0) :
    ∃ ok J J', Cal (e + 29) 53 [vr 8 0] (mk I L t) = some (vi ok, mk J L t) ∧ Cal (e' + 40) 178 [vr 12 0] (mk I' L' t') = some (vi ok, mk J' L' t') ∧ Fr (sHd (t 4)) I J ∧ Fr sHw I' J' ∧ ((ok = 1 ∧ Rh J J' (t 4)) ∨ (ok = 0 ∧ FlH (t 4) J J')) := by
  have c25 := s249 (d := e + 27) (r := 25) (i := t 4) (n := 8) (x := 0) (I := up3 (up3 I 2 (t 4) 5 0) 2 (t 4) 6 0) (L := L) (t := t) rfl rfl rfl (by decide) (by decide)
  have c26 := s249 (d := e + 27) (r := 26) (i := t 4) (n := 8) (x := 0) (I := sr (up3 (up3 I 2 (t 4) 5 0) 2 (t 4) 6 0) 25 (t 4) 8 (fun _ => 0)) (L := L) (t := t) rfl rfl rfl (by decide) (by decide)
  obtain ⟨A, hA⟩ : ∃ A : H3, A = sr (sr (up3 (up3 I 2 (t 4) 5 0) 2 (t 4) 6 0) 25 (t 4) 8 (fun _ => 0)) 26 (t 4) 8 (fun _ => 0) := ⟨_, rfl⟩
  rw [← hA] at c26
  have FA : Fr (fun r i c => ((r == 25 || r == 26) && i == t 4) || (r == 2 && i == t 4 && (c == 5 || c == 6))) I A := by
    rw [hA]
    exact (((Fr.rfl'.up (by simp)).up (by simp)).wr (fun c _ => by simp)).wr (fun c _ => by simp)
  have a5 : A 2 (t 4) 5 = 0 := by rw [hA, sr_r (by decide), sr_r (by decide), up_s (by decide), up_e]
  have a6 : A 2 (t 4) 6 = 0 := by rw [hA, sr_r (by decide), sr_r (by decide), up_e]
  have a25 : ∀ w, w < 8 → A 25 (t 4) w = 0 := fun w hw => by rw [hA, sr_r (by decide), sr_lt hw]
  have a26 : ∀ w, w < 8 → A 26 (t 4) w = 0 := fun w hw => by rw [hA, sr_lt hw]
  obtain ⟨ok, J, J', r, r', G, G', out⟩ := heads (e := e) (e' := e') (t := t) (t' := t') hT L L' N 0 A I' [] 0 0 vx (by omega) (Nat.le_refl _) (Nat.le_refl _) ⟨hc.fr FA (fun _ => ⟨rfl, rfl, rfl⟩) ⟨rfl, rfl, rfl, rfl, rfl, rfl, rfl⟩, a5, rfl⟩ hm ⟨h35, rfl⟩ ⟨fun w hw => ⟨h60 w hw, Or.inl ⟨a25 w hw, a26 w hw, h61 w hw⟩⟩, a6, h34⟩ (Nat.le_refl _)
  refine ⟨ok, J, J', Eq.trans (P53_0_0 (c1 := P13_0_0 (c1 := c25) (c2 := c26))) r, r', (FA.mo (fun r i c k => ?_)).tr G, G', out⟩
  unfold sHd sSu sAd at k
  simp only [Bool.or_eq_false_iff, Bool.and_eq_false_iff, beq_eq_false_iff_ne] at k ⊢
  obtain ⟨⟨⟨_, ⟨_, k0⟩⟩, k2⟩, k3⟩ := k
  exact ⟨k2, by omega⟩
end HEAD
