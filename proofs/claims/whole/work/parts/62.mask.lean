/-! the model: a head answers -/
def gvM (I : H3) : Nat → Int := fun j => if j < 10 then I 75 0 (j + 1) else 0
def mst1 (k : Int) : Int := if k = 0 then 0 else if 1 ≤ k ∧ k ≤ 10 then 1 else if k = 11 then 2 else if k = 12 then 3 else if k = 13 then 4 else if k = 14 then 5 else 9
def mst2 (k v : Int) : Int := if k = 0 then v else if 1 ≤ k ∧ k ≤ 10 then k - 1 else if k = 14 then v else 0
/-- a head of the model, as it is -/
def mS1 (I : H3) (h a : Nat) : Int := mst1 (I 55 0 (800 * h + 2 * a))
def mS2 (I : H3) (h a : Nat) : Int := mst2 (I 55 0 (800 * h + 2 * a)) (I 55 0 (800 * h + 2 * a + 1))
def mH (I : H3) (h : Nat) : HH := fun w => if w < 8 then slc (mS1 I h) (mS2 I h) (I 56 0 (8 * h + w)).toNat (I 57 0 (8 * h + w) - I 56 0 (8 * h + w)).toNat else []
def mhOk (I : H3) (h : Nat) : Prop := ∀ w, w < 8 → (I 57 0 (8 * h + w) = 0 ∧ 0 ≤ I 56 0 (8 * h + w)) ∨ (0 ≤ I 56 0 (8 * h + w) ∧ I 56 0 (8 * h + w) < I 57 0 (8 * h + w) ∧ I 57 0 (8 * h + w) ≤ 400)
def s63 (r _ _ : Nat) : Bool := r == 63
theorem ix8 {h w : Nat} (hh : h < 4) (hw : w < 8) : w32 (w32 (8 * (h : Int)) + (w : Int)) = ((8 * h + w : Nat) : Int) := by
  rw [w32_s (x := 8 * (h : Int)) (by omega), w32_s (by omega)]
  omega
theorem ix800 {h k : Nat} (hh : h < 4) (hk : k < 400) : w32 (w32 (800 * (h : Int)) + w32 (2 * (k : Int))) = ((800 * h + 2 * k : Nat) : Int) := by
  rw [w32_s (x := 800 * (h : Int)) (by omega), w32_s (x := 2 * (k : Int)) (by omega), w32_s (by omega)]
  omega
section MRUN
variable {d h w : Nat} {L : H3} {t : Nat → Nat} {I0 : H3} {tl : Nat}
theorem l183 (hh : h < 4) (e54 : I0 12 0 54 = (h : Int)) (hw : w < 8) (htl : I0 57 0 (8 * h + w) = (tl : Int)) (h400 : tl ≤ 400) : ∀ (n k top : Nat) (I : H3) (u4 u5 u6 u7 : MV), Fr s63 I0 I → top ≤ 24 → k + n = tl → okL (slc (mS1 I0 h) (mS2 I0 h) k n) top = true →
    ∃ J, Res d 183 17 [vr 12 0, vi (w : Int), vi (top : Int), vi (k : Int), u4, u5, u6, u7] [] (mk I L t) = some (vi ((evS (gvM I0) (slc (mS1 I0 h) (mS2 I0 h) k n) (lst (I 63 0) top)).headD 0), mk J L t) ∧ Fr s63 I0 J
  | 0, k, top, I, u4, u5, u6, u7, hF, htop, hk, hok => by
    have e57 : I 57 0 = I0 57 0 := hF.ri (fun _ => rfl)
    have f54 : I 12 0 54 = (h : Int) := (hF 12 0 54 rfl).trans e54
    have ht : top = 1 := by simpa [slc, okL] using hok
    subst ht
    refine ⟨I, Eq.trans (P183_17_6 (g1 := by rw [f54, ix8 hh hw]; omega) (h1 := by rw [f54, ix8 hh hw, Int.toNat_natCast, e57]; omega)) ?_, hF⟩
    rfl
  | n + 1, k, top, I, u4, u5, u6, u7, hF, htop, hk, hok => by
    have e57 : I 57 0 = I0 57 0 := hF.ri (fun _ => rfl)
    have e55 : I 55 0 = I0 55 0 := hF.ri (fun _ => rfl)
    have e75 : I 75 0 = I0 75 0 := hF.ri (fun _ => rfl)
    have f54 : I 12 0 54 = (h : Int) := (hF 12 0 54 rfl).trans e54
    have i8 := ix8 (h := h) (w := w) hh hw
    have i800 := ix800 (h := h) (k := k) hh (by omega)
    have i801 : w32 (((800 * h + 2 * k : Nat) : Int) + 1) = ((800 * h + 2 * k + 1 : Nat) : Int) := lem_w32k (by omega)
    have g1' : 0 ≤ w32 (w32 (8 * I 12 0 54) + (w : Int)) ∧ w32 (w32 (8 * I 12 0 54) + (w : Int)) < 32 := by rw [f54, i8]; omega
    have h1' : (k : Int) < I 57 0 (w32 (w32 (8 * I 12 0 54) + (w : Int))).toNat := by rw [f54, i8, Int.toNat_natCast, e57]; omega
    have g2' : 0 ≤ w32 (w32 (800 * I 12 0 54) + w32 (2 * (k : Int))) ∧ w32 (w32 (800 * I 12 0 54) + w32 (2 * (k : Int))) < 3200 := by rw [f54, i800]; omega
    have g3' : 0 ≤ w32 (w32 (w32 (800 * I 12 0 54) + w32 (2 * (k : Int))) + 1) ∧ w32 (w32 (w32 (800 * I 12 0 54) + w32 (2 * (k : Int))) + 1) < 3200 := by rw [f54, i800, i801]; omega
    have v1 : I 55 0 (w32 (w32 (800 * I 12 0 54) + w32 (2 * (k : Int)))).toNat = I0 55 0 (800 * h + 2 * k) := by rw [f54, i800, Int.toNat_natCast, e55]
    have v2 : I 55 0 (w32 (w32 (w32 (800 * I 12 0 54) + w32 (2 * (k : Int))) + 1)).toNat = I0 55 0 (800 * h + 2 * k + 1) := by rw [f54, i800, i801, Int.toNat_natCast, e55]
    have es : slc (mS1 I0 h) (mS2 I0 h) k (n + 1) = (mS1 I0 h k, mS2 I0 h k) :: slc (mS1 I0 h) (mS2 I0 h) (k + 1) n := rfl
    rw [es] at hok ⊢
    unfold okL at hok
    show ∃ J, _ = some (vi ((evS (gvM I0) (slc (mS1 I0 h) (mS2 I0 h) (k + 1) n) (stp (gvM I0) (mS1 I0 h k, mS2 I0 h k) (lst (I 63 0) top))).headD 0), _) ∧ _
    by_cases c0 : I0 55 0 (800 * h + 2 * k) = 0
    · have m1 : mS1 I0 h k = 0 := if_pos c0
      have m2 : mS2 I0 h k = I0 55 0 (800 * h + 2 * k + 1) := if_pos c0
      rw [m1, m2] at hok ⊢
      rw [if_pos rfl] at hok
      simp only [Bool.and_eq_true, decide_eq_true_eq] at hok
      have st : stp (gvM I0) (0, I0 55 0 (800 * h + 2 * k + 1)) (lst (I 63 0) top) = lst (up3 I 63 0 top (I0 55 0 (800 * h + 2 * k + 1)) 63 0) (top + 1) := by
        show I0 55 0 (800 * h + 2 * k + 1) :: lst (I 63 0) top = up3 I 63 0 top (I0 55 0 (800 * h + 2 * k + 1)) 63 0 top :: lst (up3 I 63 0 top (I0 55 0 (800 * h + 2 * k + 1)) 63 0) top
        rw [up_e, lst_up (Nat.le_refl _)]
      rw [st]
      have P := P183_17_0 (d := d) (L := L) (t := t) (u4 := u4) (u5 := u5) (u6 := u6) (u7 := u7) (I := I) (x1 := (w : Int)) (x2 := (top : Int)) (x3 := (k : Int)) (g1 := g1') (h1 := h1') (g2 := g2') (g3 := g3') (h2 := by rw [v1]; omega) (h3 := by rw [v1]; exact c0) (g4 := by omega)
      rw [v1, v2, lem_w32k (k := top) (by omega), lem_w32k (k := k) (by omega)] at P
      obtain ⟨J, hr, hJ⟩ := l183 hh e54 hw htl h400 n (k + 1) (top + 1) (up3 I 63 0 top (I0 55 0 (800 * h + 2 * k + 1))) _ _ u6 u7 (Fr.up hF rfl) (by omega) (by omega) hok.2
      exact ⟨J, P.trans hr, hJ⟩
    · by_cases c1 : 1 ≤ I0 55 0 (800 * h + 2 * k) ∧ I0 55 0 (800 * h + 2 * k) ≤ 10
      · have m1 : mS1 I0 h k = 1 := by unfold mS1 mst1; rw [if_neg c0, if_pos c1]
        have m2 : mS2 I0 h k = I0 55 0 (800 * h + 2 * k) - 1 := by unfold mS2 mst2; rw [if_neg c0, if_pos c1]
        rw [m1, m2] at hok ⊢
        rw [if_neg (by decide), if_pos rfl] at hok
        simp only [Bool.and_eq_true, decide_eq_true_eq] at hok
        have gx : I 75 0 (I0 55 0 (800 * h + 2 * k)).toNat = gvM I0 (I0 55 0 (800 * h + 2 * k) - 1).toNat := by
          unfold gvM
          rw [if_pos (by omega), e75]
          congr 1
          omega
        have st : stp (gvM I0) (1, I0 55 0 (800 * h + 2 * k) - 1) (lst (I 63 0) top) = lst (up3 I 63 0 top (gvM I0 (I0 55 0 (800 * h + 2 * k) - 1).toNat) 63 0) (top + 1) := by
          show gvM I0 (I0 55 0 (800 * h + 2 * k) - 1).toNat :: lst (I 63 0) top = up3 I 63 0 top (gvM I0 (I0 55 0 (800 * h + 2 * k) - 1).toNat) 63 0 top :: lst (up3 I 63 0 top (gvM I0 (I0 55 0 (800 * h + 2 * k) - 1).toNat) 63 0) top
          rw [up_e, lst_up (Nat.le_refl _)]
        rw [st]
        have P := P183_17_1 (d := d) (L := L) (t := t) (u4 := u4) (u5 := u5) (u6 := u6) (u7 := u7) (I := I) (x1 := (w : Int)) (x2 := (top : Int)) (x3 := (k : Int)) (g1 := g1') (h1 := h1') (g2 := g2') (g3 := g3') (h2 := by rw [v1]; omega) (h3 := by rw [v1]; exact c0) (g4 := by rw [v1]; omega) (g5 := by omega)
        rw [v1, v2, gx, lem_w32k (k := top) (by omega), lem_w32k (k := k) (by omega)] at P
        obtain ⟨J, hr, hJ⟩ := l183 hh e54 hw htl h400 n (k + 1) (top + 1) (up3 I 63 0 top (gvM I0 (I0 55 0 (800 * h + 2 * k) - 1).toNat)) _ _ u6 u7 (Fr.up hF rfl) (by omega) (by omega) hok.2
        exact ⟨J, P.trans hr, hJ⟩
      · by_cases c14 : I0 55 0 (800 * h + 2 * k) = 14
        · have m1 : mS1 I0 h k = 5 := by unfold mS1 mst1; rw [if_neg c0, if_neg c1, if_neg (by omega), if_neg (by omega), if_neg (by omega), if_pos c14]
          have m2 : mS2 I0 h k = I0 55 0 (800 * h + 2 * k + 1) := by unfold mS2 mst2; rw [if_neg c0, if_neg c1, if_pos c14]
          rw [m1, m2] at hok ⊢
          rw [if_neg (by decide), if_neg (by decide), if_pos rfl] at hok
          simp only [Bool.and_eq_true, decide_eq_true_eq] at hok
          obtain ⟨m, rfl⟩ : ∃ m, top = m + 1 := ⟨top - 1, by omega⟩
          have em : w32 (((m + 1 : Nat) : Int) - 1) = (m : Int) := w32_m2 (by omega)
          have st : stp (gvM I0) (5, I0 55 0 (800 * h + 2 * k + 1)) (lst (I 63 0) (m + 1)) = lst (up3 I 63 0 m (vIdiv (I 63 0 m) (I0 55 0 (800 * h + 2 * k + 1))) 63 0) (m + 1) := by
            show vIdiv (I 63 0 m) (I0 55 0 (800 * h + 2 * k + 1)) :: lst (I 63 0) m = up3 I 63 0 m (vIdiv (I 63 0 m) (I0 55 0 (800 * h + 2 * k + 1))) 63 0 m :: lst (up3 I 63 0 m (vIdiv (I 63 0 m) (I0 55 0 (800 * h + 2 * k + 1))) 63 0) m
            rw [up_e, lst_up (Nat.le_refl _)]
          rw [st]
          have P := P183_17_2 (d := d) (L := L) (t := t) (u4 := u4) (u5 := u5) (u6 := u6) (u7 := u7) (I := I) (x1 := (w : Int)) (x2 := ((m + 1 : Nat) : Int)) (x3 := (k : Int)) (g1 := g1') (h1 := h1') (g2 := g2') (g3 := g3') (h2 := by rw [v1]; omega) (h3 := by rw [v1]; exact c14) (g4 := by rw [em]; omega) (g5 := by rw [v2]; omega)
          rw [v1, v2, em, lem_w32k (k := k) (by omega), Int.toNat_natCast] at P
          obtain ⟨J, hr, hJ⟩ := l183 hh e54 hw htl h400 n (k + 1) (m + 1) (up3 I 63 0 m (vIdiv (I 63 0 m) (I0 55 0 (800 * h + 2 * k + 1)))) _ _ u6 u7 (Fr.up hF rfl) htop (by omega) hok.2
          exact ⟨J, P.trans hr, hJ⟩
        · have mv : mS1 I0 h k = (if I0 55 0 (800 * h + 2 * k) = 11 then 2 else if I0 55 0 (800 * h + 2 * k) = 12 then 3 else if I0 55 0 (800 * h + 2 * k) = 13 then 4 else 9) := by
            unfold mS1 mst1
            rw [if_neg c0, if_neg c1, if_neg c14]
          have hs : (I0 55 0 (800 * h + 2 * k) = 11 ∨ I0 55 0 (800 * h + 2 * k) = 12 ∨ I0 55 0 (800 * h + 2 * k) = 13) ∧ 2 ≤ top ∧ okL (slc (mS1 I0 h) (mS2 I0 h) (k + 1) n) (top - 1) = true := by
            rw [mv] at hok
            by_cases q1 : I0 55 0 (800 * h + 2 * k) = 11
            · rw [if_pos q1, if_neg (by decide), if_neg (by decide), if_neg (by decide)] at hok
              simp only [Bool.and_eq_true, decide_eq_true_eq] at hok
              exact ⟨Or.inl q1, hok.1.2, hok.2⟩
            · rw [if_neg q1] at hok
              by_cases q2 : I0 55 0 (800 * h + 2 * k) = 12
              · rw [if_pos q2, if_neg (by decide), if_neg (by decide), if_neg (by decide)] at hok
                simp only [Bool.and_eq_true, decide_eq_true_eq] at hok
                exact ⟨Or.inr (Or.inl q2), hok.1.2, hok.2⟩
              · rw [if_neg q2] at hok
                by_cases q3 : I0 55 0 (800 * h + 2 * k) = 13
                · rw [if_pos q3, if_neg (by decide), if_neg (by decide), if_neg (by decide)] at hok
                  simp only [Bool.and_eq_true, decide_eq_true_eq] at hok
                  exact ⟨Or.inr (Or.inr q3), hok.1.2, hok.2⟩
                · rw [if_neg q3, if_neg (by decide), if_neg (by decide), if_neg (by decide)] at hok
                  simp at hok
          obtain ⟨hs, h2, hok2⟩ := hs
          obtain ⟨m, rfl⟩ : ∃ m, top = m + 1 + 1 := ⟨top - 2, by omega⟩
          have hk2 : okL (slc (mS1 I0 h) (mS2 I0 h) (k + 1) n) (m + 1) = true := hok2
          have em1 : w32 (((m + 1 + 1 : Nat) : Int) + (-1)) = ((m + 1 : Nat) : Int) := w32_m1 (by omega)
          have em2 : w32 (((m + 1 : Nat) : Int) - 1) = (m : Int) := w32_m2 (by omega)
          have fin : ∀ v : Int, stp (gvM I0) (mS1 I0 h k, mS2 I0 h k) (lst (I 63 0) (m + 1 + 1)) = v :: lst (I 63 0) m →
              (∃ u4' u5' u6' u7', Res d 183 17 [vr 12 0, vi (w : Int), vi ((m + 1 + 1 : Nat) : Int), vi (k : Int), u4, u5, u6, u7] [] (mk I L t) = Res d 183 17 [vr 12 0, vi (w : Int), vi ((m + 1 : Nat) : Int), vi ((k + 1 : Nat) : Int), u4', u5', u6', u7'] [] (mk (up3 I 63 0 m v) L t)) →
              ∃ J, Res d 183 17 [vr 12 0, vi (w : Int), vi ((m + 1 + 1 : Nat) : Int), vi (k : Int), u4, u5, u6, u7] [] (mk I L t) = some (vi ((evS (gvM I0) (slc (mS1 I0 h) (mS2 I0 h) (k + 1) n) (stp (gvM I0) (mS1 I0 h k, mS2 I0 h k) (lst (I 63 0) (m + 1 + 1)))).headD 0), mk J L t) ∧ Fr s63 I0 J := by
            rintro v hv ⟨u4', u5', u6', u7', P⟩
            have st : v :: lst (I 63 0) m = lst (up3 I 63 0 m v 63 0) (m + 1) := by
              show _ = up3 I 63 0 m v 63 0 m :: lst (up3 I 63 0 m v 63 0) m
              rw [up_e, lst_up (Nat.le_refl _)]
            rw [hv, st]
            obtain ⟨J, hr, hJ⟩ := l183 hh e54 hw htl h400 n (k + 1) (m + 1) (up3 I 63 0 m v) u4' u5' u6' u7' (Fr.up hF rfl) (by omega) (by omega) hk2
            exact ⟨J, P.trans hr, hJ⟩
          rcases hs with q | q | q
          · have P := P183_17_3 (d := d) (L := L) (t := t) (u4 := u4) (u5 := u5) (u6 := u6) (u7 := u7) (I := I) (x1 := (w : Int)) (x2 := ((m + 1 + 1 : Nat) : Int)) (x3 := (k : Int)) (g1 := g1') (h1 := h1') (g2 := g2') (g3 := g3') (h2 := by rw [v1]; omega) (h3 := by rw [v1]; omega) (g4 := by rw [em1, em2]; omega) (g5 := by rw [em1]; omega) (h4 := by rw [v1]; exact q) (g6 := by rw [em1, em2]; omega)
            rw [em1, em2, lem_w32k (k := k) (by omega)] at P
            exact fin _ (by rw [mv, if_pos q]; rfl) ⟨_, _, _, _, P⟩
          · have P := P183_17_4 (d := d) (L := L) (t := t) (u4 := u4) (u5 := u5) (u6 := u6) (u7 := u7) (I := I) (x1 := (w : Int)) (x2 := ((m + 1 + 1 : Nat) : Int)) (x3 := (k : Int)) (g1 := g1') (h1 := h1') (g2 := g2') (g3 := g3') (h2 := by rw [v1]; omega) (h3 := by rw [v1]; omega) (g4 := by rw [em1, em2]; omega) (g5 := by rw [em1]; omega) (h4 := by rw [v1]; omega) (h5 := by rw [v1]; exact q) (g6 := by rw [em1, em2]; omega)
            rw [em1, em2, lem_w32k (k := k) (by omega)] at P
            exact fin _ (by rw [mv, if_neg (by omega), if_pos q]; rfl) ⟨_, _, _, _, P⟩
          · have P := P183_17_5 (d := d) (L := L) (t := t) (u4 := u4) (u5 := u5) (u6 := u6) (u7 := u7) (I := I) (x1 := (w : Int)) (x2 := ((m + 1 + 1 : Nat) : Int)) (x3 := (k : Int)) (g1 := g1') (h1 := h1') (g2 := g2') (g3 := g3') (h2 := by rw [v1]; omega) (h3 := by rw [v1]; omega) (g4 := by rw [em1, em2]; omega) (g5 := by rw [em1]; omega) (h4 := by rw [v1]; omega) (h5 := by rw [v1]; omega) (g6 := by rw [em1, em2]; omega)
            rw [em1, em2, lem_w32k (k := k) (by omega)] at P
            exact fin _ (by rw [mv, if_neg (by omega), if_neg (by omega), if_pos q]; rfl) ⟨_, _, _, _, P⟩
end MRUN
section MASK
variable {d h w : Nat} {I L : H3} {t : Nat → Nat}
theorem sp183 (hh : h < 4) (e54 : I 12 0 54 = (h : Int)) (hw : w < 8) (hb : 0 ≤ I 56 0 (8 * h + w) ∧ I 56 0 (8 * h + w) < I 57 0 (8 * h + w) ∧ I 57 0 (8 * h + w) ≤ 400) (hok : okL (mH I h w) 0 = true) :
    ∃ J, Cal d 183 [vr 12 0, vi (w : Int)] (mk I L t) = some (vi ((evS (gvM I) (mH I h w) []).headD 0), mk J L t) ∧ Fr s63 I J := by
  have eh : mH I h w = slc (mS1 I h) (mS2 I h) (I 56 0 (8 * h + w)).toNat (I 57 0 (8 * h + w) - I 56 0 (8 * h + w)).toNat := if_pos hw
  rw [eh] at hok ⊢
  obtain ⟨J, hr, hJ⟩ := l183 (d := d) (L := L) (t := t) (I0 := I) (tl := (I 57 0 (8 * h + w)).toNat) hh e54 hw (by omega) (by omega) (I 57 0 (8 * h + w) - I 56 0 (8 * h + w)).toNat (I 56 0 (8 * h + w)).toNat 0 I vx vx vx vx Fr.rfl' (by omega) (by omega) hok
  refine ⟨J, Eq.trans (P183_0_0 (g1 := by rw [e54, ix8 hh hw]; omega)) (Eq.trans ?_ hr), hJ⟩
  have e : I 56 0 (w32 (w32 (8 * I 12 0 54) + (w : Int))).toNat = ((I 56 0 (8 * h + w)).toNat : Int) := by
    rw [e54, ix8 hh hw, Int.toNat_natCast]
    omega
  rw [e]
  rfl
theorem mH_nil (hb : mhOk I h) (hw : w < 8) : mH I h w = [] ↔ I 57 0 (8 * h + w) ≤ 0 := by
  have eh : mH I h w = slc (mS1 I h) (mS2 I h) (I 56 0 (8 * h + w)).toNat (I 57 0 (8 * h + w) - I 56 0 (8 * h + w)).toNat := if_pos hw
  rw [eh, slc_nil]
  rcases hb w hw with q | q
  · omega
  · omega
theorem rom_v : (rom 0 0 = 0 ∧ rom 1 0 = 9999) ∧ (rom 0 1 = 0 ∧ rom 1 1 = 15 ∧ rom 2 1 = 0) ∧ (rom 0 2 = 0 ∧ rom 1 2 = 100 ∧ rom 2 2 = 0) ∧ (rom 0 3 = 0 ∧ rom 1 3 = 100 ∧ rom 2 3 = 0) ∧ (rom 0 4 = 0 ∧ rom 1 4 = 9999 ∧ rom 2 4 = 100) ∧ (rom 0 5 = 1 ∧ rom 1 5 = 9999 ∧ rom 2 5 = 10) ∧ (rom 0 6 = 0 ∧ rom 1 6 = 100 ∧ rom 2 6 = 50) ∧ (rom 0 7 = 0 ∧ rom 1 7 = 15 ∧ rom 2 7 = 0) := by decide +kernel
theorem sp184 (hh : h < 4) (e54 : I 12 0 54 = (h : Int)) (hw : w < 8) (hb : mhOk I h) (hok : okH (mH I h)) :
    ∃ J, Cal (d + 1) 184 [vr 12 0, vi (w : Int)] (mk I L t) = some (vi (ans (mH I h) w (gvM I)), mk J L t) ∧ Fr s63 I J := by
  have g1' : 0 ≤ w32 (w32 (8 * I 12 0 54) + (w : Int)) ∧ w32 (w32 (8 * I 12 0 54) + (w : Int)) < 32 := by rw [e54, ix8 hh hw]; omega
  have v57 : I 57 0 (w32 (w32 (8 * I 12 0 54) + (w : Int))).toNat = I 57 0 (8 * h + w) := by rw [e54, ix8 hh hw, Int.toNat_natCast]
  have hn := mH_nil (w := w) hb hw
  obtain ⟨r0, r1, r2, r3, r4, r5, r6, r7⟩ := rom_v
  rcases hok w hw with hnil | hl
  · have h0 := hn.mp hnil
    unfold ans
    rw [if_pos hnil]
    have h1' : I 57 0 (w32 (w32 (8 * I 12 0 54) + (w : Int))).toNat ≤ 0 := by rw [v57]; exact h0
    refine ⟨I, ?_, Fr.rfl'⟩
    have cs : w = 0 ∨ w = 1 ∨ w = 2 ∨ w = 3 ∨ w = 4 ∨ w = 5 ∨ w = 6 ∨ w = 7 := by omega
    rcases cs with rfl | rfl | rfl | rfl | rfl | rfl | rfl | rfl
    · rw [if_pos rfl, r0.1, r0.2]
      exact P184_0_9 (g1 := g1') (h1 := h1') (h2 := rfl)
    · rw [if_neg (by decide), r1.1, r1.2.1, r1.2.2]
      exact P184_0_10 (g1 := g1') (h1 := h1') (h2 := rfl)
    · rw [if_neg (by decide), r2.1, r2.2.1, r2.2.2]
      exact P184_0_12 (g1 := g1') (h1 := h1') (h2 := rfl) (h3 := by decide)
    · rw [if_neg (by decide), r3.1, r3.2.1, r3.2.2]
      exact P184_0_14 (g1 := g1') (h1 := h1') (h2 := rfl) (h3 := by decide)
    · rw [if_neg (by decide), r4.1, r4.2.1, r4.2.2]
      exact P184_0_15 (g1 := g1') (h1 := h1') (h2 := rfl)
    · rw [if_neg (by decide), r5.1, r5.2.1, r5.2.2]
      exact P184_0_16 (g1 := g1') (h1 := h1') (h2 := rfl)
    · rw [if_neg (by decide), r6.1, r6.2.1, r6.2.2]
      exact P184_0_17 (g1 := g1') (h1 := h1') (h2 := rfl)
    · rw [if_neg (by decide), r7.1, r7.2.1, r7.2.2]
      exact P184_0_19 (g1 := g1') (h1 := h1') (h2 := rfl)
  · have hne : ¬ mH I h w = [] := fun q => by rw [q] at hl; cases hl
    have h0 : ¬ I 57 0 (8 * h + w) ≤ 0 := fun q => hne (hn.mpr q)
    unfold ans
    rw [if_neg hne]
    have h1' : 0 < I 57 0 (w32 (w32 (8 * I 12 0 54) + (w : Int))).toNat := by rw [v57]; omega
    obtain ⟨J, c, hJ⟩ := sp183 (d := d) (L := L) (t := t) hh e54 hw ((hb w hw).resolve_left (by omega)) hl
    refine ⟨J, ?_, hJ⟩
    have cs : w = 0 ∨ w = 1 ∨ w = 2 ∨ w = 3 ∨ w = 4 ∨ w = 5 ∨ w = 6 ∨ w = 7 := by omega
    rcases cs with rfl | rfl | rfl | rfl | rfl | rfl | rfl | rfl
    · rw [r0.1, r0.2]
      exact P184_0_0 (g1 := g1') (h1 := h1') (h2 := rfl) (c1 := c)
    · rw [r1.1, r1.2.1]
      exact P184_0_1 (g1 := g1') (h1 := h1') (h2 := rfl) (c1 := c)
    · rw [r2.1, r2.2.1]
      exact P184_0_2 (g1 := g1') (h1 := h1') (h2 := rfl) (c1 := c)
    · rw [r3.1, r3.2.1]
      exact P184_0_3 (g1 := g1') (h1 := h1') (h2 := rfl) (c1 := c)
    · rw [r4.1, r4.2.1]
      exact P184_0_4 (g1 := g1') (h1 := h1') (h2 := rfl) (c1 := c)
    · rw [r5.1, r5.2.1]
      exact P184_0_5 (g1 := g1') (h1 := h1') (h2 := rfl) (c1 := c)
    · rw [r6.1, r6.2.1]
      exact P184_0_6 (g1 := g1') (h1 := h1') (h2 := rfl) (c1 := c)
    · rw [r7.1, r7.2.1]
      exact P184_0_7 (g1 := g1') (h1 := h1') (h2 := rfl) (c1 := c)
end MASK
