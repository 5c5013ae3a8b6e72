/-! the class: what sure is worth, who is missed -/
def bnS (od : Nat → Int) (sure : Int → Int) (rv : Int → Int) (seen bin right : Int) (k : Nat) (a : Int) : Int :=
  if rv k = -1 then a else if (if rv k = seen then 1 else 0) = right then w32 (a + (if (if vIdiv (sure k) 20 < 4 then vIdiv (sure k) 20 else 4) = bin then od k else 0)) else a
def bnP (od : Nat → Int) (sure : Int → Int) (rv : Int → Int) (seen bin right : Int) : Int := fo (bnS od sure rv seen bin right) 0 9 0
section BIN
variable {d i : Nat} {I0 L : H3} {t : Nat → Nat} {told dy : Int} {m ty : Nat → Int} {od : Nat → Int} {bin right : Int}
/-- how sure the bench's mind is of a place of world i -/
def suB (I : H3) (t : Nat → Nat) (i : Nat) (told dy : Int) (m : Nat → Int) : Int → Int := suQ (aW I t (20 + i)) (gvS I (20 + i) told dy) (I 3 (20 + i) 3) m (I 22) (fun f => I 1 f 1) (rv I (106 + i))
theorem l137 (hi : i < 40) (hm : mOk I0 t (20 + i)) (hF0 : fcOk I0) (hr : rwOk I0 (106 + i)) (hb : right = 0 ∨ right = 1) : ∀ (n k : Nat) (a : Int) (I : H3) (u6 u7 : MV), k + n = 9 → At60 I0 I (20 + i) told m ty dy → (∀ j, j < 10 → I 15 0 j = od j) →
    ∃ J, Res (d + 6) 137 6 [vr 11 0, vr 10 i, vi bin, vi right, vi a, vi (k : Int), u6, u7] [] (mk I L t) = some (vi (fo (bnS od (suB I0 t i told dy m) (rv I0 (106 + i)) (I0 3 (20 + i) 4) bin right) k n a), mk J L t) ∧ Fr sT I0 J
  | 0, k, a, I, u6, u7, hk, hA, ho => ⟨I, P137_6_7 (by omega), hA.1⟩
  | n + 1, k, a, I, u6, u7, hk, hA, ho => by
    have hF := hA.1
    have ⟨hr', er⟩ := fr_rw hF hr
    have ev : rvP (I 4 (106 + i) 1) (I 30 (106 + i)) (k : Int) = rv I0 (106 + i) (k : Int) := congrFun er (k : Int)
    have e4 : I 3 (20 + i) 4 = I0 3 (20 + i) 4 := congrFun (fr_3 hF (show 20 + i < 60 by omega)) 4
    have eo : oP (I 15 0) (k : Int) = od k := by
      unfold oP
      rw [if_pos (by omega)]
      exact ho k (by omega)
    rw [fo_s]
    by_cases h1 : rv I0 (106 + i) (k : Int) = -1
    · have es : bnS od (suB I0 t i told dy m) (rv I0 (106 + i)) (I0 3 (20 + i) 4) bin right k a = a := if_pos h1
      rw [es]
      obtain ⟨J, hr2, hJ⟩ := l137 hi hm hF0 hr hb n (k + 1) a I (vi (rv I0 (106 + i) (k : Int))) u7 (by omega) hA ho
      refine ⟨J, Eq.trans (P137_6_6 (h1 := by omega) (g1 := hr'.1) (h2 := by rw [ev]; exact h1)) ?_, hJ⟩
      rw [lem_w32k (by omega), ev]
      exact hr2
    · by_cases h2 : (if rv I0 (106 + i) (k : Int) = I0 3 (20 + i) 4 then (1 : Int) else 0) = right
      · obtain ⟨J1, c1, f1, A1⟩ := sure60 (d := d) (L := L) (p := (k : Int)) hA hm hF0 hr
        have ho1 : ∀ j, j < 10 → J1 15 0 j = od j := fun j hj => (f1 15 0 j rfl).trans (ho j hj)
        have es : bnS od (suB I0 t i told dy m) (rv I0 (106 + i)) (I0 3 (20 + i) 4) bin right k a = w32 (a + (if (if vIdiv (suB I0 t i told dy m (k : Int)) 20 < 4 then vIdiv (suB I0 t i told dy m (k : Int)) 20 else 4) = bin then od k else 0)) := by
          unfold bnS
          rw [if_neg h1, if_pos h2]
        have eo1 : oP (J1 15 0) (k : Int) = od k := by
          unfold oP
          rw [if_pos (by omega)]
          exact ho1 k (by omega)
        rw [es]
        by_cases h3 : (if vIdiv (suB I0 t i told dy m (k : Int)) 20 < 4 then vIdiv (suB I0 t i told dy m (k : Int)) 20 else 4) = bin
        · rw [if_pos h3]
          obtain ⟨J, hr2, hJ⟩ := l137 hi hm hF0 hr hb n (k + 1) (w32 (a + od k)) J1 (vi (rv I0 (106 + i) (k : Int))) (vi (suB I0 t i told dy m (k : Int))) (by omega) A1 ho1
          refine ⟨J, Eq.trans ?_ hr2, hJ⟩
          rw [← lem_w32k (k := k) (by omega), ← eo1, ← ev]
          by_cases h4 : rv I0 (106 + i) (k : Int) = I0 3 (20 + i) 4
          · rw [if_pos h4] at h2
            exact P137_6_0 (h1 := by omega) (g1 := hr'.1) (h2 := by rw [ev]; exact h1) (h3 := by rw [ev, e4]; exact h4) (h4 := h2) (c1 := c1) (h5 := h3) (c2 := s1)
          · rw [if_neg h4] at h2
            exact P137_6_3 (h1 := by omega) (g1 := hr'.1) (h2 := by rw [ev]; exact h1) (h3 := by rw [ev, e4]; exact h4) (h4 := h2) (c1 := c1) (h5 := h3) (c2 := s1)
        · rw [if_neg h3]
          obtain ⟨J, hr2, hJ⟩ := l137 hi hm hF0 hr hb n (k + 1) (w32 (a + 0)) J1 (vi (rv I0 (106 + i) (k : Int))) (vi (suB I0 t i told dy m (k : Int))) (by omega) A1 ho1
          refine ⟨J, Eq.trans ?_ hr2, hJ⟩
          rw [← lem_w32k (k := k) (by omega), ← ev]
          by_cases h4 : rv I0 (106 + i) (k : Int) = I0 3 (20 + i) 4
          · rw [if_pos h4] at h2
            exact P137_6_1 (h1 := by omega) (g1 := hr'.1) (h2 := by rw [ev]; exact h1) (h3 := by rw [ev, e4]; exact h4) (h4 := h2) (c1 := c1) (h5 := h3)
          · rw [if_neg h4] at h2
            exact P137_6_4 (h1 := by omega) (g1 := hr'.1) (h2 := by rw [ev]; exact h1) (h3 := by rw [ev, e4]; exact h4) (h4 := h2) (c1 := c1) (h5 := h3)
      · have es : bnS od (suB I0 t i told dy m) (rv I0 (106 + i)) (I0 3 (20 + i) 4) bin right k a = a := by
          unfold bnS
          rw [if_neg h1, if_neg h2]
        rw [es]
        obtain ⟨J, hr2, hJ⟩ := l137 hi hm hF0 hr hb n (k + 1) a I (vi (rv I0 (106 + i) (k : Int))) u7 (by omega) hA ho
        refine ⟨J, Eq.trans ?_ hr2, hJ⟩
        rw [← lem_w32k (k := k) (by omega), ← ev]
        by_cases h4 : rv I0 (106 + i) (k : Int) = I0 3 (20 + i) 4
        · rw [if_pos h4] at h2
          exact P137_6_2 (h1 := by omega) (g1 := hr'.1) (h2 := by rw [ev]; exact h1) (h3 := by rw [ev, e4]; exact h4) (h4 := h2)
        · rw [if_neg h4] at h2
          exact P137_6_5 (h1 := by omega) (g1 := hr'.1) (h2 := by rw [ev]; exact h1) (h3 := by rw [ev, e4]; exact h4) (h4 := h2)
theorem sp137 {I : H3} (hi : i < 40) (hm : mOk I0 t (20 + i)) (hF0 : fcOk I0) (hr : rwOk I0 (106 + i)) (hb : right = 0 ∨ right = 1) (hA : At60 I0 I (20 + i) told m ty dy) (ho : ∀ j, j < 10 → I 15 0 j = od j) :
    ∃ J, Cal (d + 6) 137 [vr 11 0, vr 10 i, vi bin, vi right] (mk I L t) = some (vi (bnP od (suB I0 t i told dy m) (rv I0 (106 + i)) (I0 3 (20 + i) 4) bin right), mk J L t) ∧ Fr sT I0 J := by
  obtain ⟨J, h1, h2⟩ := l137 (d := d) (L := L) (bin := bin) hi hm hF0 hr hb 9 0 0 I vx vx rfl hA ho
  exact ⟨J, Eq.trans P137_0_0 h1, h2⟩
end BIN
/-- what sure is worth in a world by a way -/
def bnW (I : H3) (t : Nat → Nat) (i y : Nat) (bin right : Int) : Int := bnP (toW I t i y) (suB I t i (if I 9 y 1 = 0 then 0 else 1) (trW I t i y).2 (trW I t i y).1) (rv I (106 + i)) (I 3 (20 + i) 4) bin right
def allW (I : H3) (t : Nat → Nat) (y : Nat) (bin right : Int) : Int := fo (fun i a => w64 (a + bnW I t i y bin right)) 0 (I 11 0 14).toNat 0
/-- those of the own kin, or of others, that are missed -/
def msS (I : H3) (t : Nat → Nat) (y : Nat) (own : Int) (i : Nat) (a : Int) : Int := if (if I 1 (I 3 (20 + i) 4).toNat 1 = I 3 (20 + i) 3 then 1 else 0) = own then w64 (a + w32 (shW I t i y 1 + shW I t i y 2)) else a
def msW (I : H3) (t : Nat → Nat) (y : Nat) (own : Int) : Int := fo (msS I t y own) 0 (I 11 0 14).toNat 0
section ALLB
variable {d : Nat} {I0 L : H3} {t : Nat → Nat}
theorem At60.told {I J : H3} {s : Nat} {told dy x : Int} {m ty : Nat → Int} (h : At60 I J s told m ty dy) : At60 I (up3 J 3 60 8 x) s x m ty dy := by
  obtain ⟨hF, ⟨h2, h3, h4, h5, h6, h7, h8, h10⟩, hmm, htt, h31⟩ := h
  exact ⟨hF.up rfl, ⟨h2, h3, h4, h5, h6, h7, rfl, h10⟩, hmm, htt, h31⟩
theorem l136 {x y : Nat} {bin right : Int} (hx : x < 4) (hyx : t (5 + x) = y) (hk : lkOk I0 t) (hy : wyOk I0 y) (hb : right = 0 ∨ right = 1) : ∀ (n k : Nat) (a : Int) (I : H3), k + n = (I0 11 0 14).toNat → Fr sT I0 I →
    ∃ J, Res (d + 7) 136 6 [vr 11 0, vi (x : Int), vi bin, vi right, vl a, vx, vi (k : Int)] [] (mk I L t) = some (vl (fo (fun i a => w64 (a + bnW I0 t i y bin right)) k n a), mk J L t) ∧ Fr sT I0 J
  | 0, k, a, I, hk', hF => by
    have e := hF 11 0 14 rfl
    have hb := hk.2.2.2.2.1
    exact ⟨I, P136_6_2 (by rw [e]; omega), hF⟩
  | n + 1, k, a, I, hk', hF => by
    have e := hF 11 0 14 rfl
    have hb4 := hk.2.2.2.2.1
    obtain ⟨J, c, FJ, sh, A, o⟩ := tried60 (d := d + 1) (L := L) (i := k) hk hF (by omega) hy
    have hw := hk.2.2.2.2.2 k (by omega)
    have e9 : J 9 = I0 9 := FJ.rg (fun _ _ => rfl)
    have e5 : t (5 + ((x : Int)).toNat) = y := hyx
    have A' : At60 I0 J (20 + k) 0 (trW I0 t k y).1 (c16 (I0 115 (I0 1 (I0 3 (20 + k) 4).toNat 1).toNat)) (trW I0 t k y).2 := ⟨FJ, by
      have h := A.2.1
      rw [fr_3 hF (show 20 + k < 60 by omega)] at h
      exact h, A.2.2⟩
    obtain ⟨J2, c2, F2⟩ := sp137 (d := d) (L := L) (bin := bin) (right := right) (od := toW I0 t k y) (by omega) hw.1 hk.1 hw.2.2.1 hb (A'.told (x := if I0 9 y 1 = 0 then 0 else 1)) (fun j hj => o j hj)
    obtain ⟨J3, hr, F3⟩ := l136 (bin := bin) hx hyx hk hy hb n (k + 1) (w64 (a + bnW I0 t k y bin right)) J2 (by omega) F2
    refine ⟨J3, Eq.trans ?_ hr, F3⟩
    rw [← lem_w32k (k := k) (by omega)]
    by_cases h1 : I0 9 y 1 = 0
    · rw [if_pos h1] at c2
      have ebn : bnW I0 t k y bin right = bnP (toW I0 t k y) (suB I0 t k 0 (trW I0 t k y).2 (trW I0 t k y).1) (rv I0 (106 + k)) (I0 3 (20 + k) 4) bin right := by
        unfold bnW
        rw [if_pos h1]
      rw [ebn]
      exact P136_6_1 (h1 := by rw [e]; omega) (g1 := by omega) (g2 := by omega) (c1 := by rw [e5]; exact c) (h2 := by rw [e5, e9]; exact h1) (c2 := c2)
    · rw [if_neg h1] at c2
      have ebn : bnW I0 t k y bin right = bnP (toW I0 t k y) (suB I0 t k 1 (trW I0 t k y).2 (trW I0 t k y).1) (rv I0 (106 + k)) (I0 3 (20 + k) 4) bin right := by
        unfold bnW
        rw [if_neg h1]
      rw [ebn]
      exact P136_6_0 (h1 := by rw [e]; omega) (g1 := by omega) (g2 := by omega) (c1 := by rw [e5]; exact c) (h2 := by rw [e5, e9]; exact h1) (c2 := c2)
theorem sp136 {x y : Nat} {bin right : Int} (hx : x < 4) (hyx : t (5 + x) = y) (hk : lkOk I0 t) (hy : wyOk I0 y) (hb : right = 0 ∨ right = 1) :
    ∃ J, Cal (d + 7) 136 [vr 11 0, vi (x : Int), vi bin, vi right] (mk I0 L t) = some (vl (allW I0 t y bin right), mk J L t) ∧ Fr sT I0 J := by
  obtain ⟨J, h1, h2⟩ := l136 (d := d) (L := L) (bin := bin) hx hyx hk hy hb (I0 11 0 14).toNat 0 0 I0 (by omega) Fr.rfl'
  exact ⟨J, Eq.trans P136_0_0 h1, h2⟩
theorem l138 {x y : Nat} {own : Int} (hx : x < 4) (hyx : t (5 + x) = y) (hk : lkOk I0 t) (hy : wyOk I0 y) (hb : own = 0 ∨ own = 1) : ∀ (n k : Nat) (a : Int) (I : H3) (u6 u7 : MV), k + n = (I0 11 0 14).toNat → Fr sT I0 I →
    ∃ J, Res (d + 6) 138 5 [vr 11 0, vi (x : Int), vi own, vl a, vx, vi (k : Int), u6, u7] [] (mk I L t) = some (vl (fo (msS I0 t y own) k n a), mk J L t) ∧ Fr sT I0 J
  | 0, k, a, I, u6, u7, hk', hF => by
    have e := hF 11 0 14 rfl
    have hb := hk.2.2.2.2.1
    exact ⟨I, P138_5_4 (by rw [e]; omega), hF⟩
  | n + 1, k, a, I, u6, u7, hk', hF => by
    have e := hF 11 0 14 rfl
    have hb4 := hk.2.2.2.2.1
    have hw := hk.2.2.2.2.2 k (by omega)
    have e3 : I 3 (20 + ((k : Int)).toNat) = I0 3 (20 + k) := fr_3 hF (show 20 + k < 60 by omega)
    have e1 : I 1 = I0 1 := hF.rg (fun _ _ => rfl)
    have e5 : t (5 + ((x : Int)).toNat) = y := hyx
    have hs := hw.2.1
    rw [fo_s]
    by_cases h2 : (if I0 1 (I0 3 (20 + k) 4).toNat 1 = I0 3 (20 + k) 3 then (1 : Int) else 0) = own
    · obtain ⟨J, c, FJ, sh, _⟩ := tried60 (d := d) (L := L) (i := k) hk hF (by omega) hy
      have es : msS I0 t y own k a = w64 (a + w32 (shW I0 t k y 1 + shW I0 t k y 2)) := if_pos h2
      rw [es]
      by_cases h1 : I0 1 (I0 3 (20 + k) 4).toNat 1 = I0 3 (20 + k) 3
      · rw [if_pos h1] at h2
        obtain ⟨J3, hr, F3⟩ := l138 (own := own) hx hyx hk hy hb n (k + 1) (w64 (a + w32 (shW I0 t k y 1 + shW I0 t k y 2))) J (vr 10 k) (vi 1) (by omega) FJ
        refine ⟨J3, Eq.trans (P138_5_0 (h1 := by rw [e]; omega) (g1 := by omega) (g2 := by rw [e3]; exact hs) (h2 := by rw [e3, e1]; exact h1) (h3 := h2) (g3 := by omega) (c1 := by rw [e5]; exact c) (c2 := sh L (d + 3) 1) (c3 := sh L (d + 3) 2)) ?_, F3⟩
        rw [lem_w32k (by omega)]
        exact hr
      · rw [if_neg h1] at h2
        obtain ⟨J3, hr, F3⟩ := l138 (own := own) hx hyx hk hy hb n (k + 1) (w64 (a + w32 (shW I0 t k y 1 + shW I0 t k y 2))) J (vr 10 k) (vi 0) (by omega) FJ
        refine ⟨J3, Eq.trans (P138_5_2 (h1 := by rw [e]; omega) (g1 := by omega) (g2 := by rw [e3]; exact hs) (h2 := by rw [e3, e1]; exact h1) (h3 := h2) (g3 := by omega) (c1 := by rw [e5]; exact c) (c2 := sh L (d + 3) 1) (c3 := sh L (d + 3) 2)) ?_, F3⟩
        rw [lem_w32k (by omega)]
        exact hr
    · have es : msS I0 t y own k a = a := if_neg h2
      rw [es]
      by_cases h1 : I0 1 (I0 3 (20 + k) 4).toNat 1 = I0 3 (20 + k) 3
      · rw [if_pos h1] at h2
        obtain ⟨J3, hr, F3⟩ := l138 (own := own) hx hyx hk hy hb n (k + 1) a I (vr 10 k) (vi 1) (by omega) hF
        refine ⟨J3, Eq.trans (P138_5_1 (h1 := by rw [e]; omega) (g1 := by omega) (g2 := by rw [e3]; exact hs) (h2 := by rw [e3, e1]; exact h1) (h3 := h2)) ?_, F3⟩
        rw [lem_w32k (by omega)]
        exact hr
      · rw [if_neg h1] at h2
        obtain ⟨J3, hr, F3⟩ := l138 (own := own) hx hyx hk hy hb n (k + 1) a I (vr 10 k) (vi 0) (by omega) hF
        refine ⟨J3, Eq.trans (P138_5_3 (h1 := by rw [e]; omega) (g1 := by omega) (g2 := by rw [e3]; exact hs) (h2 := by rw [e3, e1]; exact h1) (h3 := h2)) ?_, F3⟩
        rw [lem_w32k (by omega)]
        exact hr
theorem sp138 {x y : Nat} {own : Int} (hx : x < 4) (hyx : t (5 + x) = y) (hk : lkOk I0 t) (hy : wyOk I0 y) (hb : own = 0 ∨ own = 1) :
    ∃ J, Cal (d + 6) 138 [vr 11 0, vi (x : Int), vi own] (mk I0 L t) = some (vl (msW I0 t y own), mk J L t) ∧ Fr sT I0 J := by
  obtain ⟨J, h1, h2⟩ := l138 (d := d) (L := L) (own := own) hx hyx hk hy hb (I0 11 0 14).toNat 0 0 I0 vx vx (by omega) Fr.rfl'
  exact ⟨J, Eq.trans P138_0_0 h1, h2⟩
/-- ways in bounds -/
def ysOk (I : H3) (t : Nat → Nat) : Prop := ∀ k, k < 4 → wyOk I (t (5 + k))
/-- what way answers -/
def wayV (S : Nat → Int → Int) (B : Nat → Int → Int → Int) (M : Nat → Int → Int) (k what : Int) (be : Int) : Int :=
  if ¬ (0 ≤ k ∧ k < 4) then -1 else if what = 0 then S k.toNat 0 else if what = 1 then S k.toNat 1 else if what = 2 then be
  else if 10 ≤ what ∧ what ≤ 14 then B k.toNat (what - 10) 1 else if 20 ≤ what ∧ what ≤ 24 then B k.toNat (what - 20) 0 else if what = 30 then M k.toNat 1 else if what = 31 then M k.toNat 0 else -1
theorem l97 {x2 : Int} (hk : lkOk I0 t) (hy : ysOk I0 t) {x : Nat} (hx : x < 4) : ∀ (n k : Nat) (I L : H3), k + n = 4 → Fr sT I0 I → (∀ j, j < k → L 19 0 j = sumW I0 t (t (5 + j)) 0 ∧ L 20 0 j = sumW I0 t (t (5 + j)) 1) →
    ∃ J L' b, Res (d + 7) 97 60 [vr 11 0, vi (x : Int), vi x2, vi (k : Int)] [] (mk I L t) = some (vl b, mk J L' t) ∧ Fr sT I0 J ∧ (b = 0 ∨ b = 1) ∧ (b = 1 ↔ ∃ o, o < 4 ∧ bett (fun k => sumW I0 t (t (5 + k)) 0) (fun k => sumW I0 t (t (5 + k)) 1) x o)
  | 0, k, I, L, hk', hF, hL => by
    have h4 : k = 4 := by omega
    subst h4
    obtain ⟨b, c, h1, h2⟩ := sp3 (d := d + 6) (I := I) (L := L) (t := t) hx
    have e : (∃ o, o < 4 ∧ bett (L 19 0) (L 20 0) x o) ↔ ∃ o, o < 4 ∧ bett (fun k => sumW I0 t (t (5 + k)) 0) (fun k => sumW I0 t (t (5 + k)) 1) x o := by
      constructor
      · rintro ⟨o, ho, hb⟩
        refine ⟨o, ho, ?_⟩
        unfold bett at hb ⊢
        rw [(hL o ho).1, (hL o ho).2, (hL x hx).1, (hL x hx).2] at hb
        exact hb
      · rintro ⟨o, ho, hb⟩
        refine ⟨o, ho, ?_⟩
        unfold bett
        rw [(hL o ho).1, (hL o ho).2, (hL x hx).1, (hL x hx).2]
        exact hb
    rcases h1 with rfl | rfl
    · exact ⟨I, L, 0, P97_60_2 (by omega) c, hF, Or.inl rfl, h2.trans e⟩
    · exact ⟨I, L, 1, P97_60_1 (by omega) c, hF, Or.inr rfl, h2.trans e⟩
  | n + 1, k, I, L, hk', hF, hL => by
    obtain ⟨J, L', c, FJ, h1, h2, h3⟩ := sp135 (d := d) (I0 := I0) (I := I) (L := L) (x := k) (y := t (5 + k)) (by omega) rfl hk (hy k (by omega)) hF
    obtain ⟨J2, L2, b, hr, F2, hb⟩ := l97 (x2 := x2) hk hy hx n (k + 1) J L' (by omega) FJ (fun j hj => by
      by_cases hjk : j = k
      · subst hjk
        exact ⟨h1, h2⟩
      · obtain ⟨h5, h6⟩ := h3 j hjk
        rw [h5, h6]
        exact hL j (by omega))
    refine ⟨J2, L2, b, Eq.trans (P97_60_0 (h1 := by omega) (c1 := c)) ?_, F2, hb⟩
    rw [lem_w32k (by omega)]
    exact hr
theorem sp97 (hk : lkOk I0 t) (hy : ysOk I0 t) (k what be : Int) (b01 : be = 0 ∨ be = 1) (bb : be = 1 ↔ ∃ o, o < 4 ∧ bett (fun k => sumW I0 t (t (5 + k)) 0) (fun k => sumW I0 t (t (5 + k)) 1) k.toNat o) :
    ∃ J L', Cal (d + 8) 97 [vr 11 0, vi k, vi what] (mk I0 L t) = some (vl (wayV (fun k => sumW I0 t (t (5 + k))) (fun k => allW I0 t (t (5 + k))) (fun k => msW I0 t (t (5 + k))) k what be), mk J L' t) ∧ Fr sT I0 J := by
  by_cases h0 : 0 ≤ k ∧ k < 4
  · obtain ⟨x, hx⟩ : ∃ x : Nat, k = (x : Int) := ⟨k.toNat, by omega⟩
    subst hx
    have hx4 : x < 4 := by omega
    obtain ⟨J0, L0, b, hbe, F0, c01, cb⟩ := l97 (d := d + 1) (x2 := 2) hk hy hx4 4 0 I0 L rfl Fr.rfl' (fun j hj => by omega)
    have eb : b = be := by
      have q : b = 1 ↔ be = 1 := cb.trans bb.symm
      omega
    subst eb
    unfold wayV
    rw [if_neg (show ¬ ¬ (0 ≤ (x : Int) ∧ (x : Int) < 4) from fun q => q h0)]
    obtain ⟨J1, L1, c1, F1, h1, h2, _⟩ := sp135 (d := d + 1) (I0 := I0) (I := I0) (L := L) (x := x) (y := t (5 + x)) hx4 rfl hk (hy x hx4) Fr.rfl'
    by_cases w0 : what = 0
    · rw [if_pos w0]
      refine ⟨J1, L1, Eq.trans (P97_0_8 (h1 := by omega) (h2 := w0) (c1 := c1) (g1 := by omega)) ?_, F1⟩
      rw [Int.toNat_natCast, h1]
    · rw [if_neg w0]
      by_cases w1 : what = 1
      · rw [if_pos w1]
        refine ⟨J1, L1, Eq.trans (P97_0_1 (h1 := by omega) (h2 := w0) (h3 := w1) (c1 := c1) (g1 := by omega)) ?_, F1⟩
        rw [Int.toNat_natCast, h2]
      · rw [if_neg w1]
        by_cases w2 : what = 2
        · rw [if_pos w2]
          subst w2
          exact ⟨J0, L0, Eq.trans (P97_0_2 (h1 := by omega) (h2 := w0) (h3 := w1) (h4 := rfl)) hbe, F0⟩
        · rw [if_neg w2]
          by_cases w3 : 10 ≤ what ∧ what ≤ 14
          · rw [if_pos w3]
            obtain ⟨J, c, F⟩ := sp136 (d := d) (L := L) (bin := what - 10) (right := 1) hx4 rfl hk (hy x hx4) (Or.inr rfl)
            exact ⟨J, L, P97_0_7 (h1 := by omega) (h2 := w0) (h3 := w1) (h4 := w2) (h5 := w3) (c1 := by rw [w32_s (by omega)]; exact c), F⟩
          · rw [if_neg w3]
            by_cases w4 : 20 ≤ what ∧ what ≤ 24
            · rw [if_pos w4]
              obtain ⟨J, c, F⟩ := sp136 (d := d) (L := L) (bin := what - 20) (right := 0) hx4 rfl hk (hy x hx4) (Or.inl rfl)
              exact ⟨J, L, P97_0_6 (h1 := by omega) (h2 := w0) (h3 := w1) (h4 := w2) (h5 := w3) (h6 := w4) (c1 := by rw [w32_s (by omega)]; exact c), F⟩
            · rw [if_neg w4]
              by_cases w5 : what = 30
              · rw [if_pos w5]
                obtain ⟨J, c, F⟩ := sp138 (d := d + 1) (L := L) (own := 1) hx4 rfl hk (hy x hx4) (Or.inr rfl)
                exact ⟨J, L, P97_0_5 (h1 := by omega) (h2 := w0) (h3 := w1) (h4 := w2) (h5 := w3) (h6 := w4) (h7 := w5) (c1 := c), F⟩
              · rw [if_neg w5]
                by_cases w6 : what = 31
                · rw [if_pos w6]
                  obtain ⟨J, c, F⟩ := sp138 (d := d + 1) (L := L) (own := 0) hx4 rfl hk (hy x hx4) (Or.inl rfl)
                  exact ⟨J, L, P97_0_3 (h1 := by omega) (h2 := w0) (h3 := w1) (h4 := w2) (h5 := w3) (h6 := w4) (h7 := w5) (h8 := w6) (c1 := c), F⟩
                · rw [if_neg w6]
                  exact ⟨I0, L, P97_0_4 (h1 := by omega) (h2 := w0) (h3 := w1) (h4 := w2) (h5 := w3) (h6 := w4) (h7 := w5) (h8 := w6), Fr.rfl'⟩
  · refine ⟨I0, L, ?_, Fr.rfl'⟩
    unfold wayV
    rw [if_pos h0]
    exact P97_0_0 (by omega)
def triedV (sh : Nat → Nat → Int → Int) (n i k what : Int) : Int := if ¬ (0 ≤ i ∧ i < n) ∨ ¬ (0 ≤ k ∧ k < 4) ∨ ¬ (0 ≤ what ∧ what < 4) then -1 else sh i.toNat k.toNat what
theorem sp96 (hk : lkOk I0 t) (hy : ysOk I0 t) (i k what : Int) :
    ∃ J, Cal (d + 6) 96 [vr 11 0, vi i, vi k, vi what] (mk I0 L t) = some (vi (triedV (fun i k => shW I0 t i (t (5 + k))) (I0 11 0 14) i k what), mk J L t) ∧ Fr sT I0 J := by
  have hb := hk.2.2.2.2.1
  have e : w32 (I0 11 0 14 - 1) = I0 11 0 14 - 1 := w32_s (by omega)
  unfold triedV
  by_cases h1 : 0 ≤ i ∧ i < I0 11 0 14
  · by_cases h2 : 0 ≤ k ∧ k < 4
    · by_cases h3 : 0 ≤ what ∧ what < 4
      · rw [if_neg (by omega)]
        obtain ⟨J, c, FJ, sh, _⟩ := tried60 (d := d) (I := I0) (L := L) (i := i.toNat) (y := t (5 + k.toNat)) hk Fr.rfl' (by omega) (hy _ (by omega))
        exact ⟨J, P96_0_3 (h1 := by rw [e]; omega) (h2 := by omega) (h3 := by omega) (g1 := by omega) (g2 := by omega) (c1 := c) (c2 := sh L (d + 3) what), FJ⟩
      · rw [if_pos (by omega)]
        exact ⟨I0, P96_0_2 (h1 := by rw [e]; omega) (h2 := by omega) (h3 := by omega), Fr.rfl'⟩
    · rw [if_pos (by omega)]
      exact ⟨I0, P96_0_1 (h1 := by rw [e]; omega) (h2 := by omega), Fr.rfl'⟩
  · rw [if_pos (by omega)]
    exact ⟨I0, P96_0_0 (h1 := by rw [e]; omega), Fr.rfl'⟩
end ALLB
