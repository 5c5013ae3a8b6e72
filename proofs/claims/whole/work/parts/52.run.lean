/-! the class: a head answers -/
def lst (f : Nat → Int) : Nat → List Int
  | 0 => []
  | n + 1 => f n :: lst f n
theorem lst_cg {f g : Nat → Int} : ∀ n, (∀ c, c < n → f c = g c) → lst f n = lst g n
  | 0, _ => rfl
  | n + 1, h => by
    show f n :: lst f n = g n :: lst g n
    rw [h n (by omega), lst_cg n (fun c hc => h c (by omega))]
theorem lst_up {I : H3} {r i s : Nat} {x : Int} {n : Nat} (h : n ≤ s) : lst (up3 I r i s x r i) n = lst (I r i) n := lst_cg n (fun _ hc => up_s (by omega))
/-- steps of a line -/
def slc (s v : Nat → Int) : Nat → Nat → List (Int × Int)
  | _, 0 => []
  | a, n + 1 => (s a, v a) :: slc s v (a + 1) n
theorem slc_nil {s v : Nat → Int} {a n : Nat} : slc s v a n = [] ↔ n = 0 := by
  cases n with
  | zero => exact ⟨fun _ => rfl, fun _ => rfl⟩
  | succ n => exact ⟨fun h => (by cases h), fun h => (by cases h)⟩
/-- a head of the class, as it is -/
def hC (I : H3) (i : Nat) : HH := fun w => if w < 8 then slc (I 23 i) (I 24 i) (I 25 i w).toNat (I 26 i w - I 25 i w).toNat else []
/-- its lines lie within bounds -/
def hOk (I : H3) (i : Nat) : Prop := ∀ w, w < 8 → 0 ≤ I 25 i w ∧ I 25 i w ≤ I 26 i w ∧ I 26 i w ≤ 400
def s27 (r _ _ : Nat) : Bool := r == 27
theorem w32_m1 {k : Nat} (h : k < 1000000) : w32 (((k + 1 : Nat) : Int) + (-1)) = (k : Int) := by
  rw [w32_s (by omega)]
  omega
theorem w32_m2 {k : Nat} (h : k < 1000000) : w32 (((k + 1 : Nat) : Int) - 1) = (k : Int) := by
  rw [w32_s (by omega)]
  omega
theorem w32_sub (a b : Int) : w32 (a + w32 (-b)) = w32 (a - b) := by
  rw [w32_eq, w32_eq, w32_eq, Int.add_bmod_bmod, Int.sub_eq_add_neg]
section RUN
variable {d i w : Nat} {L : Nat → Nat → Nat → Int} {t : Nat → Nat} {I0 : H3} {tl : Nat}
theorem l19 (hw : w < 8) (htl : I0 26 i w = (tl : Int)) (h400 : tl ≤ 400) : ∀ (n k top : Nat) (I : H3) (u5 u6 u7 : MV), Fr s27 I0 I → top ≤ 24 → k + n = tl → okL (slc (I0 23 i) (I0 24 i) k n) top = true →
    ∃ J, Res d 19 10 [vr 2 i, vi (w : Int), vr 13 0, vi (top : Int), vi (k : Int), u5, u6, u7] [] (mk I L t) = some (vi ((evS (gvC I0) (slc (I0 23 i) (I0 24 i) k n) (lst (I 27 i) top)).headD 0), mk J L t) ∧ Fr s27 I0 J
  | 0, k, top, I, u5, u6, u7, hF, htop, hk, hok => by
    have e26 : I 26 = I0 26 := hF.rg (fun _ _ => rfl)
    have ht : top = 1 := by simpa [slc, okL] using hok
    subst ht
    refine ⟨I, Eq.trans (P19_10_12 (g1 := by omega) (h1 := by rw [e26]; show I0 26 i w ≤ _; omega)) ?_, hF⟩
    rfl
  | n + 1, k, top, I, u5, u6, u7, hF, htop, hk, hok => by
    have e26 : I 26 = I0 26 := hF.rg (fun _ _ => rfl)
    have e23 : I 23 i ((k : Int).toNat) = I0 23 i k := congrFun (congrFun (hF.rg (r := 23) (fun _ _ => rfl)) i) k
    have e24 : I 24 i ((k : Int).toNat) = I0 24 i k := congrFun (congrFun (hF.rg (r := 24) (fun _ _ => rfl)) i) k
    have e13 : I 13 = I0 13 := hF.rg (fun _ _ => rfl)
    have hlt : (k : Int) < I 26 i ((w : Int).toNat) := by rw [e26]; show _ < I0 26 i w; omega
    have es : slc (I0 23 i) (I0 24 i) k (n + 1) = (I0 23 i k, I0 24 i k) :: slc (I0 23 i) (I0 24 i) (k + 1) n := rfl
    rw [es] at hok ⊢
    unfold okL at hok
    show ∃ J, _ = some (vi ((evS (gvC I0) (slc (I0 23 i) (I0 24 i) (k + 1) n) (stp (gvC I0) (I0 23 i k, I0 24 i k) (lst (I 27 i) top))).headD 0), _) ∧ _
    by_cases h0 : I0 23 i k = 0
    · rw [if_pos h0] at hok
      simp only [Bool.and_eq_true, decide_eq_true_eq] at hok
      have st : stp (gvC I0) (I0 23 i k, I0 24 i k) (lst (I 27 i) top) = lst (up3 I 27 i top (I0 24 i k) 27 i) (top + 1) := by
        show (if I0 23 i k = 0 then _ else _) = up3 I 27 i top (I0 24 i k) 27 i top :: lst (up3 I 27 i top (I0 24 i k) 27 i) top
        rw [if_pos h0, up_e, lst_up (Nat.le_refl _)]
      rw [st]
      have P := P19_10_9 (d := d) (L := L) (t := t) (u5 := u5) (u6 := u6) (u7 := u7) (I := I) (i0 := i) (r2 := 13) (i2 := 0) (x1 := (w : Int)) (x3 := (top : Int)) (x4 := (k : Int)) (by omega) hlt (by omega) (by omega) (by rw [e23]; exact h0) (by omega) (by omega)
      rw [lem_w32k (by omega), lem_w32k (by omega), e23, e24] at P
      obtain ⟨J, hr, hJ⟩ := l19 hw htl h400 n (k + 1) (top + 1) (up3 I 27 i top (I0 24 i k)) (vi (I0 23 i k)) (vi (I0 24 i k)) u7 (Fr.up hF rfl) (by omega) (by omega) hok.2
      exact ⟨J, P.trans hr, hJ⟩
    · rw [if_neg h0] at hok
      by_cases h1 : I0 23 i k = 1
      · rw [if_pos h1] at hok
        simp only [Bool.and_eq_true, decide_eq_true_eq] at hok
        have gx : ldI (mk I L t) 13 0 (I0 24 i k).toNat = gvC I0 (I0 24 i k).toNat := by
          show I 13 0 (I0 24 i k).toNat = gvC I0 (I0 24 i k).toNat
          rw [e13]
          exact (if_pos (by omega)).symm
        have st : stp (gvC I0) (I0 23 i k, I0 24 i k) (lst (I 27 i) top) = lst (up3 I 27 i top (gvC I0 (I0 24 i k).toNat) 27 i) (top + 1) := by
          show (if I0 23 i k = 0 then _ else if I0 23 i k = 1 then gvC I0 (I0 24 i k).toNat :: _ else _) = up3 I 27 i top (gvC I0 (I0 24 i k).toNat) 27 i top :: lst (up3 I 27 i top (gvC I0 (I0 24 i k).toNat) 27 i) top
          rw [if_neg h0, if_pos h1, up_e, lst_up (Nat.le_refl _)]
        rw [st]
        have P := P19_10_0 (d := d) (L := L) (t := t) (u5 := u5) (u6 := u6) (u7 := u7) (I := I) (i0 := i) (r2 := 13) (i2 := 0) (n1 := 10) (x1 := (w : Int)) (x3 := (top : Int)) (x4 := (k : Int)) (g1 := by omega) (h1 := hlt) (h2 := by omega) (g2 := by omega) (h3 := by rw [e23]; exact h0) (h4 := by rw [e23]; exact h1) (h5 := by omega) (g3 := rfl) (g4 := by rw [e24]; omega) (g5 := by omega)
        rw [lem_w32k (by omega), lem_w32k (by omega), e23, e24, gx] at P
        obtain ⟨J, hr, hJ⟩ := l19 hw htl h400 n (k + 1) (top + 1) (up3 I 27 i top (gvC I0 (I0 24 i k).toNat)) (vi (I0 23 i k)) (vi (I0 24 i k)) u7 (Fr.up hF rfl) (by omega) (by omega) hok.2
        exact ⟨J, P.trans hr, hJ⟩
      · rw [if_neg h1] at hok
        by_cases h5 : I0 23 i k = 5
        · rw [if_pos h5] at hok
          simp only [Bool.and_eq_true, decide_eq_true_eq] at hok
          obtain ⟨m, rfl⟩ : ∃ m, top = m + 1 := ⟨top - 1, by omega⟩
          have st : stp (gvC I0) (I0 23 i k, I0 24 i k) (lst (I 27 i) (m + 1)) = lst (up3 I 27 i m (vIdiv (I 27 i m) (I0 24 i k)) 27 i) (m + 1) := by
            show (if I0 23 i k = 0 then _ else if I0 23 i k = 1 then _ else if I0 23 i k = 5 then vIdiv (I 27 i m) (I0 24 i k) :: lst (I 27 i) m else _) = up3 I 27 i m (vIdiv (I 27 i m) (I0 24 i k)) 27 i m :: lst (up3 I 27 i m (vIdiv (I 27 i m) (I0 24 i k)) 27 i) m
            rw [if_neg h0, if_neg h1, if_pos h5, up_e, lst_up (Nat.le_refl _)]
          rw [st]
          have em : w32 (((m + 1 : Nat) : Int) - 1) = (m : Int) := w32_m2 (by omega)
          have P := P19_10_2 (d := d) (L := L) (t := t) (u5 := u5) (u6 := u6) (u7 := u7) (I := I) (i0 := i) (r2 := 13) (i2 := 0) (x1 := (w : Int)) (x3 := ((m + 1 : Nat) : Int)) (x4 := (k : Int)) (g1 := by omega) (h1 := hlt) (h2 := by omega) (g2 := by omega) (h3 := by rw [e23]; exact h0) (h4 := by rw [e23]; exact h1) (h5 := by rw [e23]; exact h5) (h6 := by omega) (h7 := by rw [e24]; exact hok.1.2) (g3 := by rw [em]; omega) (g4 := by rw [e24]; omega)
          rw [lem_w32k (by omega), em, e23, e24] at P
          obtain ⟨J, hr, hJ⟩ := l19 hw htl h400 n (k + 1) (m + 1) (up3 I 27 i m (vIdiv (I 27 i m) (I0 24 i k))) (vi (I0 23 i k)) (vi (I0 24 i k)) u7 (Fr.up hF rfl) htop (by omega) hok.2
          exact ⟨J, P.trans hr, hJ⟩
        · rw [if_neg h5] at hok
          simp only [Bool.and_eq_true, decide_eq_true_eq] at hok
          obtain ⟨m, rfl⟩ : ∃ m, top = m + 1 + 1 := ⟨top - 2, by omega⟩
          have hk2 : okL (slc (I0 23 i) (I0 24 i) (k + 1) n) (m + 1) = true := hok.2
          have em1 : w32 (((m + 1 + 1 : Nat) : Int) + (-1)) = ((m + 1 : Nat) : Int) := w32_m1 (by omega)
          have em2 : w32 (((m + 1 : Nat) : Int) - 1) = (m : Int) := w32_m2 (by omega)
          have fin : ∀ v : Int, (if I0 23 i k = 4 then w32 (I 27 i m * I 27 i (m + 1)) else if I0 23 i k = 2 then w32 (I 27 i m + I 27 i (m + 1)) else w32 (I 27 i m - I 27 i (m + 1))) = v →
              (Res d 19 10 [vr 2 i, vi (w : Int), vr 13 0, vi ((m + 1 + 1 : Nat) : Int), vi (k : Int), u5, u6, u7] [] (mk I L t) = Res d 19 10 [vr 2 i, vi (w : Int), vr 13 0, vi ((m + 1 : Nat) : Int), vi ((k + 1 : Nat) : Int), vi (I0 23 i k), vi (I0 24 i k), vi (I 27 i (m + 1))] [] (mk (up3 I 27 i m v) L t)) →
              ∃ J, Res d 19 10 [vr 2 i, vi (w : Int), vr 13 0, vi ((m + 1 + 1 : Nat) : Int), vi (k : Int), u5, u6, u7] [] (mk I L t) = some (vi ((evS (gvC I0) (slc (I0 23 i) (I0 24 i) (k + 1) n) (stp (gvC I0) (I0 23 i k, I0 24 i k) (lst (I 27 i) (m + 1 + 1)))).headD 0), mk J L t) ∧ Fr s27 I0 J := by
            intro v hv P
            have st : stp (gvC I0) (I0 23 i k, I0 24 i k) (lst (I 27 i) (m + 1 + 1)) = lst (up3 I 27 i m v 27 i) (m + 1) := by
              show (if I0 23 i k = 0 then _ else if I0 23 i k = 1 then _ else if I0 23 i k = 5 then _ else (if I0 23 i k = 4 then w32 (I 27 i m * I 27 i (m + 1)) else if I0 23 i k = 2 then w32 (I 27 i m + I 27 i (m + 1)) else w32 (I 27 i m - I 27 i (m + 1))) :: lst (I 27 i) m) = up3 I 27 i m v 27 i m :: lst (up3 I 27 i m v 27 i) m
              rw [if_neg h0, if_neg h1, if_neg h5, up_e, lst_up (Nat.le_refl _), hv]
            rw [st]
            obtain ⟨J, hr, hJ⟩ := l19 hw htl h400 n (k + 1) (m + 1) (up3 I 27 i m v) (vi (I0 23 i k)) (vi (I0 24 i k)) (vi (I 27 i (m + 1))) (Fr.up hF rfl) (by omega) (by omega) hk2
            exact ⟨J, P.trans hr, hJ⟩
          by_cases h4 : I0 23 i k = 4
          · have P := P19_10_5 (d := d) (L := L) (t := t) (u5 := u5) (u6 := u6) (u7 := u7) (I := I) (i0 := i) (r2 := 13) (i2 := 0) (x1 := (w : Int)) (x3 := ((m + 1 + 1 : Nat) : Int)) (x4 := (k : Int)) (g1 := by omega) (h1 := hlt) (h2 := by omega) (g2 := by omega) (h3 := by rw [e23]; exact h0) (h4 := by rw [e23]; exact h1) (h5 := by rw [e23]; exact h5) (h6 := by omega) (h7 := by rw [e23]; exact h4) (g3 := by rw [em1]; omega) (g4 := by rw [em1, em2]; omega)
            rw [lem_w32k (by omega), em1, em2, e23, e24] at P
            exact fin _ (if_pos h4) P
          · by_cases h2 : I0 23 i k = 2
            · have P := P19_10_6 (d := d) (L := L) (t := t) (u5 := u5) (u6 := u6) (u7 := u7) (I := I) (i0 := i) (r2 := 13) (i2 := 0) (x1 := (w : Int)) (x3 := ((m + 1 + 1 : Nat) : Int)) (x4 := (k : Int)) (g1 := by omega) (h1 := hlt) (h2 := by omega) (g2 := by omega) (h3 := by rw [e23]; exact h0) (h4 := by rw [e23]; exact h1) (h5 := by rw [e23]; exact h5) (h6 := by omega) (h7 := by rw [e23]; exact h4) (h8 := by rw [e23]; exact h2) (g3 := by rw [em1]; omega) (g4 := by rw [em1, em2]; omega) (g5 := by rw [em1, em2]; omega)
              rw [lem_w32k (by omega), em1, em2, e23, e24] at P
              exact fin _ (by rw [if_neg h4, if_pos h2]; rfl) P
            · have P := P19_10_7 (d := d) (L := L) (t := t) (u5 := u5) (u6 := u6) (u7 := u7) (I := I) (i0 := i) (r2 := 13) (i2 := 0) (x1 := (w : Int)) (x3 := ((m + 1 + 1 : Nat) : Int)) (x4 := (k : Int)) (g1 := by omega) (h1 := hlt) (h2 := by omega) (g2 := by omega) (h3 := by rw [e23]; exact h0) (h4 := by rw [e23]; exact h1) (h5 := by rw [e23]; exact h5) (h6 := by omega) (h7 := by rw [e23]; exact h4) (h8 := by rw [e23]; exact h2) (g3 := by rw [em1]; omega) (g4 := by rw [em1, em2]; omega) (g5 := by rw [em1, em2]; omega)
              rw [lem_w32k (by omega), em1, em2, e23, e24] at P
              exact fin _ (by rw [if_neg h4, if_neg h2]; exact (w32_sub _ _).symm) P
end RUN
section ANS
variable {d i w : Nat} {I L : H3} {t : Nat → Nat}
theorem s19 (hw : w < 8) (hb : hOk I i) (hok : okL (hC I i w) 0 = true) : ∃ J, Cal d 19 [vr 2 i, vi (w : Int), vr 13 0] (mk I L t) = some (vi ((evS (gvC I) (hC I i w) []).headD 0), mk J L t) ∧ Fr s27 I J := by
  obtain ⟨b0, b1, b2⟩ := hb w hw
  have eh : hC I i w = slc (I 23 i) (I 24 i) (I 25 i w).toNat (I 26 i w - I 25 i w).toNat := if_pos hw
  rw [eh] at hok ⊢
  obtain ⟨J, hr, hJ⟩ := l19 (d := d) (L := L) (t := t) (I0 := I) (tl := (I 26 i w).toNat) hw (by omega) (by omega) (I 26 i w - I 25 i w).toNat (I 25 i w).toNat 0 I vx vx vx Fr.rfl' (by omega) (by omega) hok
  refine ⟨J, Eq.trans (P19_0_0 (g1 := by omega)) (Eq.trans ?_ hr), hJ⟩
  have e : I 25 i ((w : Int).toNat) = ((I 25 i w).toNat : Int) := by
    show I 25 i w = _
    omega
  rw [e]
  rfl
theorem s18 (hw : w < 8) (hb : hOk I i) (hok : okH (hC I i)) : ∃ J, Cal (d + 1) 18 [vr 2 i, vi (w : Int), vr 13 0] (mk I L t) = some (vi (ans (hC I i) w (gvC I)), mk J L t) ∧ Fr s27 I J := by
  obtain ⟨b0, b1, b2⟩ := hb w hw
  have eh : hC I i w = slc (I 23 i) (I 24 i) (I 25 i w).toNat (I 26 i w - I 25 i w).toNat := if_pos hw
  have hnil : hC I i w = [] ↔ ¬ I 25 i w < I 26 i w := by
    rw [eh, slc_nil]
    omega
  have hle := (rom_le hw).1
  rcases hok w hw with hn | hl
  · have c1 : Cal d 14 [vr 2 i, vi (w : Int)] (mk I L t) = some (vi 0, mk I L t) := P14_0_1 (g1 := by omega) (h1 := by have := hnil.mp hn; show I 26 i w ≤ I 25 i w; omega)
    by_cases h0 : w = 0
    · subst h0
      refine ⟨I, Eq.trans (P18_0_1 (n1 := 10) (n2 := 10) (g1 := by decide) (c1 := c1) (h1 := rfl) (g2 := rfl) (g3 := by decide) (g4 := rfl) (g5 := by decide)) ?_, Fr.rfl'⟩
      rw [Int.toNat_natCast, mmx hle]
      unfold ans
      rw [if_pos hn, if_pos rfl]
      rfl
    · refine ⟨I, Eq.trans (P18_0_2 (g1 := by omega) (c1 := c1) (h1 := by omega)) ?_, Fr.rfl'⟩
      rw [Int.toNat_natCast, mmx hle]
      unfold ans
      rw [if_pos hn, if_neg h0]
  · have hn : ¬ hC I i w = [] := fun h => by rw [h] at hl; cases hl
    have c1 : Cal d 14 [vr 2 i, vi (w : Int)] (mk I L t) = some (vi 1, mk I L t) := P14_0_0 (g1 := by omega) (h1 := by have := mt hnil.mpr hn; show I 25 i w < I 26 i w; omega)
    obtain ⟨J, c2, hJ⟩ := s19 (d := d) (L := L) (t := t) hw hb hl
    refine ⟨J, Eq.trans (P18_0_0 (g1 := by omega) (c1 := c1) (c2 := c2)) ?_, hJ⟩
    rw [Int.toNat_natCast, mmx hle]
    unfold ans
    rw [if_neg hn]
end ANS
