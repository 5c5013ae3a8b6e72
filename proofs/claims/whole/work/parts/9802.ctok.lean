/-! the class: a tape is split -/
theorem isLet_iff {c : Int} : isLet c ↔ leB c = true := by
  unfold isLet leB
  rw [decide_eq_true_eq]
theorem dg_iff {c : Int} : (48 ≤ c ∧ c ≤ 57) ↔ dgB c = true := by
  unfold dgB
  rw [decide_eq_true_eq]
section CTOK
variable {d : Nat} {L : H3} {t : Nat → Nat} {b : Nat → Int} {n : Nat}
theorem sp47 {I : H3} : ∀ k : Nat, k < 23 → Cal d 47 [vi (k : Int)] (mk I L t) = some (vr 117 k, mk I L t)
  | 0, _ => P47_0_0 rfl
  | 1, _ => P47_0_1 rfl
  | 2, _ => P47_0_12 rfl
  | 3, _ => P47_0_16 rfl
  | 4, _ => P47_0_17 rfl
  | 5, _ => P47_0_18 rfl
  | 6, _ => P47_0_19 rfl
  | 7, _ => P47_0_20 rfl
  | 8, _ => P47_0_21 rfl
  | 9, _ => P47_0_22 rfl
  | 10, _ => P47_0_2 rfl
  | 11, _ => P47_0_3 rfl
  | 12, _ => P47_0_4 rfl
  | 13, _ => P47_0_5 rfl
  | 14, _ => P47_0_6 rfl
  | 15, _ => P47_0_7 rfl
  | 16, _ => P47_0_8 rfl
  | 17, _ => P47_0_9 rfl
  | 18, _ => P47_0_10 rfl
  | 19, _ => P47_0_11 rfl
  | 20, _ => P47_0_13 rfl
  | 21, _ => P47_0_14 rfl
  | 22, _ => P47_0_15 rfl
  | k + 23, h => absurd h (by omega)
theorem sp46 {I : H3} (x : Int) : Cal d 46 [vi x] (mk I L t) = some (vi (if sgB x = true then 1 else 0), mk I L t) := by
  by_cases h : x < 40 ∨ 62 < x
  · rw [if_neg (by unfold sgB; rw [decide_eq_true_eq]; omega)]
    exact P46_0_23 h
  · have : x = 40 ∨ x = 41 ∨ x = 42 ∨ x = 43 ∨ x = 44 ∨ x = 45 ∨ x = 46 ∨ x = 47 ∨ x = 48 ∨ x = 49 ∨ x = 50 ∨ x = 51 ∨ x = 52 ∨ x = 53 ∨ x = 54 ∨ x = 55 ∨ x = 56 ∨ x = 57 ∨ x = 58 ∨ x = 59 ∨ x = 60 ∨ x = 61 ∨ x = 62 := by omega
    rcases this with h | h | h | h | h | h | h | h | h | h | h | h | h | h | h | h | h | h | h | h | h | h | h
    · subst h
      exact P46_0_0 rfl
    · subst h
      exact P46_0_1 rfl
    · subst h
      exact P46_0_2 rfl
    · subst h
      exact P46_0_3 rfl
    · subst h
      exact P46_0_4 rfl
    · subst h
      exact P46_0_5 rfl
    · subst h
      exact P46_0_6 rfl
    · subst h
      exact P46_0_7 rfl
    · subst h
      exact P46_0_8 rfl
    · subst h
      exact P46_0_9 rfl
    · subst h
      exact P46_0_10 rfl
    · subst h
      exact P46_0_11 rfl
    · subst h
      exact P46_0_12 rfl
    · subst h
      exact P46_0_13 rfl
    · subst h
      exact P46_0_14 rfl
    · subst h
      exact P46_0_15 rfl
    · subst h
      exact P46_0_16 rfl
    · subst h
      exact P46_0_17 rfl
    · subst h
      exact P46_0_18 rfl
    · subst h
      exact P46_0_19 rfl
    · subst h
      exact P46_0_20 rfl
    · subst h
      exact P46_0_21 rfl
    · subst h
      exact P46_0_22 rfl
theorem getD_e {l : List Int} {k : Nat} (h : k < l.length) : l.drop k = l.getD k 0 :: l.drop (k + 1) := by
  rw [List.drop_eq_getElem_cons h, List.getD_eq_getElem?_getD, List.getElem?_eq_getElem h]
  rfl
theorem l43 {I : H3} {w s e : Nat} (hw : w < 24) (he : e ≤ 400) (hs : s + slen w = e) : ∀ (m k : Nat), k + m = slen w → Res (d + 7) 43 15 [vr 7 0, vr 117 w, vi (s : Int), vi (e : Int), vi (k : Int)] [] (mk I L t) = some (vi (if (litB.getD w []).drop k = bl (I 34 0) (s + k) m then 1 else 0), mk I L t)
  | 0, k, hk => by
    have e0 : (litB.getD w []).drop k = [] := List.drop_eq_nil_of_le (by have : slen w = (litB.getD w []).length := rfl; omega)
    rw [e0, if_pos (show ([] : List Int) = bl (I 34 0) (s + k) 0 from rfl)]
    exact P43_15_2 (g1 := hw) (h1 := by omega)
  | m + 1, k, hk => by
    have hl : k < (litB.getD w []).length := by have : slen w = (litB.getD w []).length := rfl; omega
    have ew : w32 ((s : Int) + (k : Int)) = ((s + k : Nat) : Int) := by rw [w32_s (by omega)]; omega
    rw [getD_e hl]
    show _ = some (vi (if sch w k :: (litB.getD w []).drop (k + 1) = I 34 0 (s + k) :: bl (I 34 0) (s + k + 1) m then 1 else 0), mk I L t)
    by_cases q : sch w k = I 34 0 (s + k)
    · refine Eq.trans (P43_15_1 (g1 := hw) (h1 := by omega) (g2 := by omega) (g3 := by rw [ew]; omega) (h2 := by rw [ew, Int.toNat_natCast, Int.toNat_natCast]; exact q)) ?_
      rw [lem_w32k (k := k) (by have : slen w = (litB.getD w []).length := rfl; omega), l43 hw he hs m (k + 1) (by omega), show s + (k + 1) = s + k + 1 by omega, q]
      by_cases z : (litB.getD w []).drop (k + 1) = bl (I 34 0) (s + k + 1) m
      · rw [if_pos z, if_pos (by rw [z])]
      · rw [if_neg z, if_neg (fun y => z (List.cons.inj y).2)]
    · rw [if_neg (fun y => q (List.cons.inj y).1)]
      exact P43_15_0 (g1 := hw) (h1 := by omega) (g2 := by omega) (g3 := by rw [ew]; omega) (h2 := by rw [ew, Int.toNat_natCast, Int.toNat_natCast]; exact q)
theorem bl_len' : ∀ (m s : Nat), (bl b s m).length = m
  | 0, _ => rfl
  | m + 1, s => by
    show (bl b (s + 1) m).length + 1 = m + 1
    rw [bl_len' m (s + 1)]
theorem sp43 {I : H3} {w s e : Nat} (hw : w < 24) (he : e ≤ 400) (hs : s ≤ e) : Cal (d + 7) 43 [vr 7 0, vr 117 w, vi (s : Int), vi (e : Int)] (mk I L t) = some (vi (if mtB (I 34 0) s e w = true then 1 else 0), mk I L t) := by
  have ew : w32 ((e : Int) - (s : Int)) = ((e - s : Nat) : Int) := by rw [w32_s (by omega)]; omega
  have hm : mtB (I 34 0) s e w = true ↔ litB.getD w [] = bl (I 34 0) s (e - s) := by
    unfold mtB
    rw [decide_eq_true_eq]
  have hsl : slen w = (litB.getD w []).length := rfl
  by_cases q : slen w = e - s
  · have r := l43 (d := d) (L := L) (t := t) (I := I) hw he (s := s) (e := e) (by omega) (e - s) 0 (by omega)
    rw [List.drop_zero, show s + 0 = s from rfl] at r
    refine Eq.trans (P43_0_1 (g1 := hw) (h1 := by rw [ew, q])) (Eq.trans r ?_)
    by_cases z : litB.getD w [] = bl (I 34 0) s (e - s)
    · rw [if_pos z, if_pos (hm.mpr z)]
    · rw [if_neg z, if_neg (fun y => z (hm.mp y))]
  · rw [if_neg (fun z => q (by rw [hsl, hm.mp z, bl_len']))]
    exact P43_0_0 (g1 := hw) (h1 := by rw [ew]; omega)
def s75c (r _ c : Nat) : Bool := r == 7 && c == 5
theorem l42a {x : Int} (h400 : n ≤ 400) : ∀ (m p : Nat) (I : H3), p + m = n → I 7 0 5 = (p : Int) → I 7 0 4 = (n : Int) → I 34 0 = b →
    ∃ J, Res (d + 8) 42 0 [vr 7 0, vi x, vx] [] (mk I L t) = Res (d + 8) 42 41 [vr 7 0, vi x, vi 0] [] (mk J L t) ∧ Fr s75c I J ∧ J 7 0 5 = (rn leB b n p : Int)
  | 0, p, I, hp, e5, e4, eb => by
    rw [rn_ge (by omega)]
    exact ⟨I, P42_0_2 (d := d + 6) (h1 := by omega), Fr.rfl', e5⟩
  | m + 1, p, I, hp, e5, e4, eb => by
    have ei : I 34 0 (I 7 0 5).toNat = b p := by rw [eb, e5, Int.toNat_natCast]
    by_cases q : leB (b p) = true
    · rw [rn_t (by omega) q]
      obtain ⟨J, r, F, v⟩ := l42a (x := x) h400 m (p + 1) (up3 I 7 0 5 ((p + 1 : Nat) : Int)) (by omega) up_e (by rw [up_s (by decide)]; exact e4) (by rw [up_r (by decide)]; exact eb)
      refine ⟨J, Eq.trans (P42_0_1 (d := d + 6) (h1 := by omega) (g1 := by omega) (h2 := by rw [ei]; exact isLet_iff.mpr q)) ?_, Fr.tr (Fr.rfl'.up rfl) F, v⟩
      rw [e5, lem_w32k (k := p) (by omega)]
      exact r
    · rw [rn_f (by omega) q]
      exact ⟨I, P42_0_0 (d := d + 6) (h1 := by omega) (g1 := by omega) (h2 := by rw [ei]; exact fun z => q (isLet_iff.mp z)), Fr.rfl', e5⟩
theorem l42b {I : H3} {s e : Nat} (he : e ≤ 400) (hs : s ≤ e) (e5 : I 7 0 5 = (e : Int)) : ∀ (m k : Nat), k + m = 23 → Res (d + 8) 42 41 [vr 7 0, vi (s : Int), vi (k : Int)] [] (mk I L t) = some (vi (wdF (mtB (I 34 0) s e) m k : Int), mk I L t)
  | 0, k, hk => P42_41_2 (d := d + 6) (h1 := by omega)
  | m + 1, k, hk => by
    have c1 := sp47 (d := d + 7) (L := L) (t := t) (I := I) k (by omega)
    have c2 := sp43 (d := d) (L := L) (t := t) (I := I) (w := k) (by omega) he hs
    by_cases q : mtB (I 34 0) s e k = true
    · rw [if_pos q] at c2
      have : wdF (mtB (I 34 0) s e) (m + 1) k = k := if_pos q
      rw [this]
      exact P42_41_0 (d := d + 6) (h1 := by omega) (c1 := c1) (c2 := by rw [e5]; exact c2)
    · rw [if_neg q] at c2
      have : wdF (mtB (I 34 0) s e) (m + 1) k = wdF (mtB (I 34 0) s e) m (k + 1) := if_neg q
      rw [this]
      refine Eq.trans (P42_41_1 (d := d + 6) (h1 := by omega) (c1 := c1) (c2 := by rw [e5]; exact c2)) ?_
      rw [lem_w32k (k := k) (by omega)]
      exact l42b he hs e5 m (k + 1) (by omega)
theorem sp42 {I : H3} {s : Nat} (h400 : n ≤ 400) (hs : s ≤ n) (e5 : I 7 0 5 = (s : Int)) (e4 : I 7 0 4 = (n : Int)) (eb : I 34 0 = b) : ∃ J, Cal (d + 8) 42 [vr 7 0, vi (s : Int)] (mk I L t) = some (vi (wd b s (rn leB b n s) : Int), mk J L t) ∧ Fr s75c I J ∧ J 7 0 5 = (rn leB b n s : Int) := by
  obtain ⟨J, r, F, v⟩ := l42a (d := d) (L := L) (t := t) (x := (s : Int)) h400 (n - s) s I (by omega) e5 e4 eb
  have i := rn_i (Q := leB) (b := b) (n := n) hs
  have r2 := l42b (d := d) (L := L) (t := t) (I := J) (s := s) (e := rn leB b n s) (by omega) i.1 v 23 0 rfl
  rw [F.ri (r := 34) (i := 0) (fun _ => rfl), eb] at r2
  exact ⟨J, Eq.trans r r2, F, v⟩
def s75d (r _ c : Nat) : Bool := r == 7 && (c == 5 || c == 10)
theorem l41 {s : Nat} (h400 : n ≤ 400) : ∀ (m p : Nat) (I : H3), p + m = n → s ≤ p → I 7 0 5 = (p : Int) → I 7 0 4 = (n : Int) → I 34 0 = b → I 7 0 10 = fo (nvS b s) s (p - s) 0 →
    ∃ J, Res (d + 2) 41 5 [vr 7 0, vi (s : Int)] [] (mk I L t) = some (vi (if rn dgB b n p - s ≤ 4 then 23 else 25), mk J L t) ∧ Fr s75d I J ∧ J 7 0 5 = (rn dgB b n p : Int) ∧ J 7 0 10 = nv b s (rn dgB b n p)
  | 0, p, I, hp, hs, e5, e4, eb, ev => by
    rw [rn_ge (by omega)]
    have ew : w32 ((p : Int) - (s : Int)) = ((p - s : Nat) : Int) := by rw [w32_s (by omega)]; omega
    refine ⟨I, ?_, Fr.rfl', e5, ev⟩
    by_cases q : p - s ≤ 4
    · rw [if_pos q]
      exact P41_5_5 (h1 := by omega) (h2 := by rw [e5, ew]; omega)
    · rw [if_neg q]
      exact P41_5_4 (h1 := by omega) (h2 := by rw [e5, ew]; omega)
  | m + 1, p, I, hp, hs, e5, e4, eb, ev => by
    have ei : I 34 0 (I 7 0 5).toNat = b p := by rw [eb, e5, Int.toNat_natCast]
    have ew : w32 ((p : Int) - (s : Int)) = ((p - s : Nat) : Int) := by rw [w32_s (by omega)]; omega
    by_cases q : dgB (b p) = true
    · rw [rn_t (by omega) q]
      have ef : fo (nvS b s) s (p + 1 - s) 0 = nvS b s p (fo (nvS b s) s (p - s) 0) := by
        rw [show p + 1 - s = (p - s) + 1 by omega, fo_e, show s + (p - s) = p by omega]
      obtain ⟨J, r, F, v1, v2⟩ := l41 (s := s) h400 m (p + 1) (up3 (up3 I 7 0 10 (fo (nvS b s) s (p + 1 - s) 0)) 7 0 5 ((p + 1 : Nat) : Int)) (by omega) (by omega) up_e (by rw [up_s (by decide), up_s (by decide)]; exact e4) (by rw [up_r (by decide), up_r (by decide)]; exact eb) (by rw [up_s (by decide), up_e])
      refine ⟨J, ?_, Fr.tr ((Fr.rfl'.up rfl).up rfl) F, v1, v2⟩
      by_cases z : p - s < 4
      · refine Eq.trans (P41_5_2 (h1 := by omega) (g1 := by omega) (h2 := by rw [ei]; exact dg_iff.mpr q) (h3 := by rw [e5, ew]; omega)) ?_
        rw [ei, e5, lem_w32k (k := p) (by omega), ev]
        rw [ef] at r
        unfold nvS at r
        rw [if_pos (by omega)] at r
        exact r
      · refine Eq.trans (P41_5_3 (h1 := by omega) (g1 := by omega) (h2 := by rw [ei]; exact dg_iff.mpr q) (h3 := by rw [e5, ew]; omega)) ?_
        rw [e5, lem_w32k (k := p) (by omega), ev]
        rw [ef] at r
        unfold nvS at r
        rw [if_neg (by omega)] at r
        exact r
    · rw [rn_f (by omega) q]
      refine ⟨I, ?_, Fr.rfl', e5, ev⟩
      by_cases z : p - s ≤ 4
      · rw [if_pos z]
        exact P41_5_1 (h1 := by omega) (g1 := by omega) (h2 := by rw [ei]; exact fun y => q (dg_iff.mp y)) (h3 := by rw [e5, ew]; omega)
      · rw [if_neg z]
        exact P41_5_0 (h1 := by omega) (g1 := by omega) (h2 := by rw [ei]; exact fun y => q (dg_iff.mp y)) (h3 := by rw [e5, ew]; omega)
theorem sp41 {I : H3} {s : Nat} (h400 : n ≤ 400) (hs : s ≤ n) (e5 : I 7 0 5 = (s : Int)) (e4 : I 7 0 4 = (n : Int)) (eb : I 34 0 = b) : ∃ J, Cal (d + 2) 41 [vr 7 0, vi (s : Int)] (mk I L t) = some (vi (if rn dgB b n s - s ≤ 4 then 23 else 25), mk J L t) ∧ Fr s75d I J ∧ J 7 0 5 = (rn dgB b n s : Int) ∧ J 7 0 10 = nv b s (rn dgB b n s) := by
  obtain ⟨J, r, F, v⟩ := l41 (d := d) (L := L) (t := t) (b := b) (s := s) h400 (n - s) s (up3 I 7 0 10 0) (by omega) (Nat.le_refl _) (by rw [up_s (by decide)]; exact e5) (by rw [up_s (by decide)]; exact e4) (by rw [up_r (by decide)]; exact eb) (by rw [up_e, Nat.sub_self]; rfl)
  exact ⟨J, Eq.trans P41_0_0 r, Fr.tr (Fr.rfl'.up rfl) F, v⟩
/-- the class at token j -/
def Cur (b : Nat → Int) (n N : Nat) (I : H3) (j : Nat) : Prop := (∀ i, i ≤ N → I 35 0 i = tkC b n (stN b n i) ∧ I 36 0 i = (stN b n i : Int) ∧ I 37 0 i = vlN b n (stN b n i)) ∧ I 7 0 6 = ((N + 1 : Nat) : Int) ∧ I 7 0 7 = ((j + 1 : Nat) : Int) ∧ I 7 0 8 = tkC b n (stN b n j) ∧ I 7 0 9 = (stN b n j : Int) ∧ I 7 0 10 = vlN b n (stN b n j) ∧ j ≤ N ∧ I 7 0 11 = 0 ∧ I 7 0 12 = -1
def s38 (r _ c : Nat) : Bool := r == 7 && (c == 7 || c == 8 || c == 9 || c == 10)
theorem Cur.fr {S : Nat → Nat → Nat → Bool} {N j : Nat} {I J : H3} (h : Cur b n N I j) (F : Fr S I J) (h1 : ∀ c, S 35 0 c = false ∧ S 36 0 c = false ∧ S 37 0 c = false) (h2 : S 7 0 6 = false ∧ S 7 0 7 = false ∧ S 7 0 8 = false ∧ S 7 0 9 = false ∧ S 7 0 10 = false ∧ S 7 0 11 = false ∧ S 7 0 12 = false) : Cur b n N J j := by
  unfold Cur
  rw [F.ri (r := 35) (i := 0) (fun c => (h1 c).1), F.ri (r := 36) (i := 0) (fun c => (h1 c).2.1), F.ri (r := 37) (i := 0) (fun c => (h1 c).2.2), F 7 0 6 h2.1, F 7 0 7 h2.2.1, F 7 0 8 h2.2.2.1, F 7 0 9 h2.2.2.2.1, F 7 0 10 h2.2.2.2.2.1, F 7 0 11 h2.2.2.2.2.2.1, F 7 0 12 h2.2.2.2.2.2.2]
  exact h
theorem sp38' {N k : Nat} {I : H3} (hN : N ≤ 400) (hk : k ≤ N) (ha : ∀ i, i ≤ N → I 35 0 i = tkC b n (stN b n i) ∧ I 36 0 i = (stN b n i : Int) ∧ I 37 0 i = vlN b n (stN b n i)) (e6 : I 7 0 6 = ((N + 1 : Nat) : Int)) (e7 : I 7 0 7 = (k : Int)) (ef : I 7 0 11 = 0 ∧ I 7 0 12 = -1) : ∃ J, Cal d 38 [vr 7 0] (mk I L t) = some (vx, mk J L t) ∧ Fr s38 I J ∧ Cur b n N J k := by
  have r := P38_0_0 (d := d) (L := L) (t := t) (I := I) (h1 := by omega) (g1 := by omega)
  rw [e7, Int.toNat_natCast, lem_w32k (k := k) (by omega)] at r
  have F : Fr s38 I (up3 (up3 (up3 (up3 I 7 0 8 (I 35 0 k)) 7 0 9 (I 36 0 k)) 7 0 10 (I 37 0 k)) 7 0 7 ((k + 1 : Nat) : Int)) := (((Fr.rfl'.up rfl).up rfl).up rfl).up rfl
  obtain ⟨a1, a2, a3⟩ := ha k hk
  refine ⟨_, r, F, fun i hi => ?_, ?_, up_e, ?_, ?_, ?_, hk, by rw [F 7 0 11 rfl, F 7 0 12 rfl]; exact ef⟩
  · rw [F 35 0 i rfl, F 36 0 i rfl, F 37 0 i rfl]
    exact ha i hi
  · rw [F 7 0 6 rfl, e6]
  · rw [up_s (by decide), up_s (by decide), up_s (by decide), up_e, a1]
  · rw [up_s (by decide), up_s (by decide), up_e, a2]
  · rw [up_s (by decide), up_e, a3]
theorem sp38 {N j : Nat} {I : H3} (hN : N ≤ 400) (h : Cur b n N I j) (hj : j < N) : ∃ J, Cal d 38 [vr 7 0] (mk I L t) = some (vx, mk J L t) ∧ Fr s38 I J ∧ Cur b n N J (j + 1) :=
  sp38' hN (by omega) h.1 h.2.1 h.2.2.1 h.2.2.2.2.2.2.2
def sTok (r _ c : Nat) : Bool := r == 35 || r == 36 || r == 37 || (r == 7 && (c == 5 || c == 6 || c == 7 || c == 8 || c == 9 || c == 10))
theorem sTok_of {S : Nat → Nat → Nat → Bool} {I J : H3} (F : Fr S I J) (h : ∀ r i c, S r i c = true → sTok r i c = true) : Fr sTok I J := F.mo (fun r i c k => by
  cases q : S r i c with
  | false => rfl
  | true => rw [h r i c q] at k; cases k)
theorem s75c_t {I J : H3} (F : Fr s75c I J) : Fr sTok I J := sTok_of F (fun r i c h => by
  unfold s75c at h
  rw [Bool.and_eq_true, beq_iff_eq, beq_iff_eq] at h
  rw [h.1, h.2]
  rfl)
theorem s75d_t {I J : H3} (F : Fr s75d I J) : Fr sTok I J := sTok_of F (fun r i c h => by
  unfold s75d at h
  rw [Bool.and_eq_true, Bool.or_eq_true, beq_iff_eq, beq_iff_eq, beq_iff_eq] at h
  rcases h with ⟨h1, h2 | h2⟩ <;> rw [h1, h2] <;> rfl)
theorem s38_t {I J : H3} (F : Fr s38 I J) : Fr sTok I J := sTok_of F (fun r i c h => by
  unfold s38 at h
  rw [Bool.and_eq_true, Bool.or_eq_true, Bool.or_eq_true, Bool.or_eq_true, beq_iff_eq, beq_iff_eq, beq_iff_eq, beq_iff_eq, beq_iff_eq] at h
  rcases h with ⟨h1, ((h2 | h2) | h2) | h2⟩ <;> rw [h1, h2] <;> rfl)
/-- one more token kept -/
theorem sp40 {j : Nat} {x1 x2 x3 : Int} {I : H3} (hj : j ≤ 400) (e6 : I 7 0 6 = (j : Int)) : ∃ J, Cal d 40 [vr 7 0, vi x1, vi x2, vi x3] (mk I L t) = some (vx, mk J L t) ∧ Fr sTok I J ∧ J 7 0 6 = ((j + 1 : Nat) : Int) ∧ J 7 0 5 = I 7 0 5 ∧ (J 35 0 j = x1 ∧ J 36 0 j = x2 ∧ J 37 0 j = x3) ∧ ∀ i, i < j → J 35 0 i = I 35 0 i ∧ J 36 0 i = I 36 0 i ∧ J 37 0 i = I 37 0 i := by
  have r := P40_0_0 (d := d) (L := L) (t := t) (I := I) (x1 := x1) (x2 := x2) (x3 := x3) (h1 := by omega) (g1 := by omega)
  rw [e6, Int.toNat_natCast, lem_w32k (k := j) (by omega)] at r
  refine ⟨_, r, (((Fr.rfl'.up rfl).up rfl).up rfl).up rfl, up_e, ?_, ⟨?_, ?_, ?_⟩, fun i hi => ⟨?_, ?_, ?_⟩⟩
  · rw [up_s (by decide), up_r (by decide), up_r (by decide), up_r (by decide)]
  · rw [up_r (by decide), up_r (by decide), up_r (by decide), up_e]
  · rw [up_r (by decide), up_r (by decide), up_e]
  · rw [up_r (by decide), up_e]
  · rw [up_r (by decide), up_r (by decide), up_r (by decide), up_s (by omega)]
  · rw [up_r (by decide), up_r (by decide), up_s (by omega), up_r (by decide)]
  · rw [up_r (by decide), up_s (by omega), up_r (by decide), up_r (by decide)]
theorem l39 {I0 : H3} (h400 : n ≤ 400) (e4 : I0 7 0 4 = (n : Int)) (eb : I0 34 0 = b) (ef : I0 7 0 11 = 0 ∧ I0 7 0 12 = -1) : ∀ (m p j : Nat) (I : H3) (x : Nat) (u2 u3 : MV), p + m = n → Fr sTok I0 I → I 7 0 5 = (p : Int) → I 7 0 6 = (j : Int) → rn spB b n p = stN b n j → j ≤ p → x ≤ p → (∀ i, i < j → (I 35 0 i = tkC b n (stN b n i) ∧ I 36 0 i = (stN b n i : Int) ∧ I 37 0 i = vlN b n (stN b n i)) ∧ stN b n i < n) →
    ∃ J N, Res (d + 9) 39 12 [vr 7 0, vi (x : Int), u2, u3] [] (mk I L t) = some (vx, mk J L t) ∧ Fr sTok I0 J ∧ Cur b n N J 0 ∧ stN b n N = n ∧ (∀ i, i < N → stN b n i < n) ∧ N ≤ n
  | 0, p, j, I, x, u2, u3, hp, F, e5, e6, hst, hj, hx, ha => by
    have f4 : I 7 0 4 = (n : Int) := by rw [F 7 0 4 rfl, e4]
    rw [rn_ge (by omega)] at hst
    obtain ⟨J1, c1, F1, v6, v5, ⟨w1, w2, w3⟩, wo⟩ := sp40 (d := d + 8) (L := L) (t := t) (I := I) (x1 := 24) (x2 := (n : Int)) (x3 := 0) (j := j) (by omega) e6
    have hn : stN b n j = n := by omega
    have tk : tkC b n (stN b n j) = 24 := tk_end.mpr (by omega)
    have vl : vlN b n (stN b n j) = 0 := if_pos (by omega)
    obtain ⟨J2, c2, F2, cu⟩ := sp38' (d := d + 8) (L := L) (t := t) (b := b) (n := n) (N := j) (k := 0) (I := up3 J1 7 0 7 0) (by omega) (Nat.zero_le _) (fun i hi => by
      rw [up_r (by decide), up_r (by decide), up_r (by decide)]
      by_cases z : i = j
      · subst z
        rw [w1, w2, w3, tk, vl, hn]
        exact ⟨rfl, rfl, rfl⟩
      · obtain ⟨q1, q2, q3⟩ := wo i (by omega)
        rw [q1, q2, q3]
        exact (ha i (by omega)).1) (by rw [up_s (by decide), v6]) up_e (by rw [up_s (by decide), up_s (by decide), F1 7 0 11 rfl, F1 7 0 12 rfl, F 7 0 11 rfl, F 7 0 12 rfl]; exact ef)
    refine ⟨J2, j, ?_, F.tr (F1.tr ((Fr.rfl'.up rfl).tr (s38_t F2))), cu, hn, fun i hi => (ha i hi).2, by omega⟩
    by_cases q : (x : Int) < 400
    · exact P39_12_6 (d := d + 7) (h1 := q) (h2 := by omega) (c1 := by rw [f4]; exact c1) (c2 := c2)
    · exact P39_12_7 (d := d + 7) (h1 := by omega) (c1 := by rw [f4]; exact c1) (c2 := c2)
  | m + 1, p, j, I, x, u2, u3, hp, F, e5, e6, hst, hj, hx, ha => by
    have f4 : I 7 0 4 = (n : Int) := by rw [F 7 0 4 rfl, e4]
    have fb : I 34 0 = b := by rw [F.ri (r := 34) (i := 0) (fun _ => rfl), eb]
    have ei : I 34 0 (I 7 0 5).toNat = b p := by rw [fb, e5, Int.toNat_natCast]
    have h1 : (x : Int) < 400 := by omega
    have h2 : I 7 0 5 < I 7 0 4 := by omega
    have g1 : 0 ≤ I 7 0 5 ∧ I 7 0 5 < 400 := by omega
    have ex := lem_w32k (k := x) (by omega)
    have ep := lem_w32k (k := p) (by omega)
    by_cases q : spB (b p) = true
    · rw [rn_t (by omega) q] at hst
      obtain ⟨J, N, r, rest⟩ := l39 h400 e4 eb ef m (p + 1) j (up3 I 7 0 5 ((p + 1 : Nat) : Int)) (x + 1) (vi (I 7 0 5)) (vi (I 34 0 (I 7 0 5).toNat)) (by omega) (F.up rfl) up_e (by rw [up_s (by decide)]; exact e6) hst (by omega) (by omega) (fun i hi => by
        rw [up_r (by decide), up_r (by decide), up_r (by decide)]
        exact ha i hi)
      refine ⟨J, N, Eq.trans ?_ r, rest⟩
      unfold spB at q
      rw [decide_eq_true_eq] at q
      by_cases z : b p = 32
      · have r1 := P39_12_5 (d := d + 7) (L := L) (t := t) (u2 := u2) (u3 := u3) (I := I) (h1 := h1) (h2 := h2) (g1 := g1) (h3 := by rw [ei]; exact z)
        rw [ex] at r1
        rw [r1, e5, ep]
      · have r1 := P39_12_0 (d := d + 7) (L := L) (t := t) (u2 := u2) (u3 := u3) (I := I) (h1 := h1) (h2 := h2) (g1 := g1) (h3 := by rw [ei]; exact z) (h4 := by rw [ei]; exact q.resolve_left z)
        rw [ex] at r1
        rw [r1, e5, ep]
    · rw [rn_f (by omega) q] at hst
      have q' : ¬ b p = 32 ∧ ¬ b p = 10 := by
        unfold spB at q
        rw [decide_eq_true_eq] at q
        exact ⟨fun z => q (Or.inl z), fun z => q (Or.inr z)⟩
      have h3 : ¬ I 34 0 (I 7 0 5).toNat = 32 := by rw [ei]; exact q'.1
      have h4 : ¬ I 34 0 (I 7 0 5).toNat = 10 := by rw [ei]; exact q'.2
      have te := te_in (b := b) (n := n) (q := p) (by omega)
      have ste : rn spB b n (teN b n p) = stN b n (j + 1) := by
        show _ = rn spB b n (teN b n (stN b n j))
        rw [← hst]
      -- with the token kept, on
      have go : ∀ (A J2 : H3) (tk : Int), Fr sTok I A → A 7 0 6 = (j : Int) → (∀ i, i < j → A 35 0 i = I 35 0 i ∧ A 36 0 i = I 36 0 i ∧ A 37 0 i = I 37 0 i) → A 7 0 5 = (teN b n p : Int) → Fr sTok A J2 → J2 7 0 6 = ((j + 1 : Nat) : Int) → J2 7 0 5 = A 7 0 5 → (J2 35 0 j = tkC b n p ∧ J2 36 0 j = (p : Int) ∧ J2 37 0 j = vlN b n p) → (∀ i, i < j → J2 35 0 i = A 35 0 i ∧ J2 36 0 i = A 36 0 i ∧ J2 37 0 i = A 37 0 i) → ∃ J N, Res (d + 9) 39 12 [vr 7 0, vi (w32 ((x : Int) + 1)), vi (I 7 0 5), vi (I 34 0 (I 7 0 5).toNat)] [] (mk J2 L t) = some (vx, mk J L t) ∧ Fr sTok I0 J ∧ Cur b n N J 0 ∧ stN b n N = n ∧ (∀ i, i < N → stN b n i < n) ∧ N ≤ n := fun A J2 tk FA a6 ao a5 F2 v6 v5 w wo => by
        rw [ex]
        exact l39 h400 e4 eb ef (n - teN b n p) (teN b n p) (j + 1) J2 (x + 1) _ _ (by omega) (F.tr (FA.tr F2)) (by rw [v5, a5]) v6 ste (by omega) (by omega) (fun i hi => by
          by_cases z : i = j
          · subst z
            rw [w.1, w.2.1, w.2.2, ← hst]
            exact ⟨⟨rfl, rfl, rfl⟩, by omega⟩
          · obtain ⟨q1, q2, q3⟩ := wo i (by omega)
            obtain ⟨y1, y2, y3⟩ := ao i (by omega)
            rw [q1, q2, q3, y1, y2, y3]
            exact ha i (by omega))
      by_cases a : leB (b p) = true
      · obtain ⟨A, c1, FA, vA⟩ := sp42 (d := d) (L := L) (t := t) (I := I) (s := p) h400 (by omega) e5 f4 fb
        have eA : teN b n p = rn leB b n p := by unfold teN; rw [if_neg (by omega), if_pos a]
        have eT : tkC b n p = (wd b p (rn leB b n p) : Int) := by unfold tkC; rw [if_neg (by omega), if_pos a]
        have eV : vlN b n p = 0 := by unfold vlN; rw [if_neg (by omega), if_pos a]
        obtain ⟨J2, c2, F2, v6, v5, w, wo⟩ := sp40 (d := d + 8) (L := L) (t := t) (I := A) (x1 := (wd b p (rn leB b n p) : Int)) (x2 := (p : Int)) (x3 := 0) (j := j) (by omega) (by rw [FA 7 0 6 rfl, e6])
        obtain ⟨J, N, r, rest⟩ := go A J2 0 (s75c_t FA) (by rw [FA 7 0 6 rfl, e6]) (fun i hi => ⟨FA 35 0 i rfl, FA 36 0 i rfl, FA 37 0 i rfl⟩) (by rw [vA, eA]) F2 v6 v5 (by rw [eT, eV]; exact w) wo
        exact ⟨J, N, Eq.trans (P39_12_4 (d := d + 7) (h1 := h1) (h2 := h2) (g1 := g1) (h3 := h3) (h4 := h4) (h5 := by rw [ei]; exact isLet_iff.mpr a) (c1 := by rw [e5]; exact c1) (c2 := by rw [e5]; exact c2)) r, rest⟩
      · have h5 : ¬ isLet (I 34 0 (I 7 0 5).toNat) := by rw [ei]; exact fun z => a (isLet_iff.mp z)
        by_cases c : dgB (b p) = true
        · obtain ⟨A, c1, FA, vA, nA⟩ := sp41 (d := d + 6) (L := L) (t := t) (I := I) (s := p) h400 (by omega) e5 f4 fb
          have eA : teN b n p = rn dgB b n p := by unfold teN; rw [if_neg (by omega), if_neg a, if_pos c]
          have eT : tkC b n p = (if rn dgB b n p - p ≤ 4 then 23 else 25) := by unfold tkC; rw [if_neg (by omega), if_neg a, if_pos c]
          have eV : vlN b n p = nv b p (rn dgB b n p) := by unfold vlN; rw [if_neg (by omega), if_neg a, if_pos c]
          obtain ⟨J2, c2, F2, v6, v5, w, wo⟩ := sp40 (d := d + 8) (L := L) (t := t) (I := A) (x1 := (if rn dgB b n p - p ≤ 4 then 23 else 25)) (x2 := (p : Int)) (x3 := nv b p (rn dgB b n p)) (j := j) (by omega) (by rw [FA 7 0 6 rfl, e6])
          obtain ⟨J, N, r, rest⟩ := go A J2 0 (s75d_t FA) (by rw [FA 7 0 6 rfl, e6]) (fun i hi => ⟨FA 35 0 i rfl, FA 36 0 i rfl, FA 37 0 i rfl⟩) (by rw [vA, eA]) F2 v6 v5 (by rw [eT, eV]; exact w) wo
          exact ⟨J, N, Eq.trans (P39_12_3 (d := d + 7) (h1 := h1) (h2 := h2) (g1 := g1) (h3 := h3) (h4 := h4) (h5 := h5) (h6 := by rw [ei]; exact dg_iff.mpr c) (c1 := by rw [e5]; exact c1) (c2 := by rw [e5, nA]; exact c2)) r, rest⟩
        · have h6 : ¬ (48 ≤ I 34 0 (I 7 0 5).toNat ∧ I 34 0 (I 7 0 5).toNat ≤ 57) := by rw [ei]; exact fun z => c (dg_iff.mp z)
          have eA : teN b n p = p + 1 := by unfold teN; rw [if_neg (by omega), if_neg a, if_neg c]
          have eV : vlN b n p = 0 := by unfold vlN; rw [if_neg (by omega), if_neg a, if_neg c]
          have c1 := sp46 (d := d + 8) (L := L) (t := t) (I := up3 I 7 0 5 ((p + 1 : Nat) : Int)) (b p)
          have FA : Fr sTok I (up3 I 7 0 5 ((p + 1 : Nat) : Int)) := Fr.rfl'.up rfl
          by_cases g : sgB (b p) = true
          · rw [if_pos g] at c1
            have eT : tkC b n p = b p := by unfold tkC; rw [if_neg (by omega), if_neg a, if_neg c, if_pos g]
            obtain ⟨J2, c2, F2, v6, v5, w, wo⟩ := sp40 (d := d + 8) (L := L) (t := t) (I := up3 I 7 0 5 ((p + 1 : Nat) : Int)) (x1 := b p) (x2 := (p : Int)) (x3 := 0) (j := j) (by omega) (by rw [up_s (by decide), e6])
            obtain ⟨J, N, r, rest⟩ := go _ J2 0 FA (by rw [up_s (by decide), e6]) (fun i hi => by rw [up_r (by decide), up_r (by decide), up_r (by decide)]; exact ⟨rfl, rfl, rfl⟩) (by rw [up_e, eA]) F2 v6 v5 (by rw [eT, eV]; exact w) wo
            exact ⟨J, N, Eq.trans (P39_12_1 (d := d + 7) (h1 := h1) (h2 := h2) (g1 := g1) (h3 := h3) (h4 := h4) (h5 := h5) (h6 := h6) (c1 := by rw [ei, e5, ep]; exact c1) (c2 := by rw [ei, e5]; exact c2)) r, rest⟩
          · rw [if_neg g] at c1
            have eT : tkC b n p = 25 := by unfold tkC; rw [if_neg (by omega), if_neg a, if_neg c, if_neg g]
            obtain ⟨J2, c2, F2, v6, v5, w, wo⟩ := sp40 (d := d + 8) (L := L) (t := t) (I := up3 I 7 0 5 ((p + 1 : Nat) : Int)) (x1 := 25) (x2 := (p : Int)) (x3 := 0) (j := j) (by omega) (by rw [up_s (by decide), e6])
            obtain ⟨J, N, r, rest⟩ := go _ J2 0 FA (by rw [up_s (by decide), e6]) (fun i hi => by rw [up_r (by decide), up_r (by decide), up_r (by decide)]; exact ⟨rfl, rfl, rfl⟩) (by rw [up_e, eA]) F2 v6 v5 (by rw [eT, eV]; exact w) wo
            exact ⟨J, N, Eq.trans (P39_12_2 (d := d + 7) (h1 := h1) (h2 := h2) (g1 := g1) (h3 := h3) (h4 := h4) (h5 := h5) (h6 := h6) (c1 := by rw [ei, e5, ep]; exact c1) (c2 := by rw [e5]; exact c2)) r, rest⟩
theorem sp39 {I : H3} (h400 : n ≤ 400) (e4 : I 7 0 4 = (n : Int)) (eb : I 34 0 = b) (ef : I 7 0 11 = 0 ∧ I 7 0 12 = -1) : ∃ J N, Cal (d + 9) 39 [vr 7 0] (mk I L t) = some (vx, mk J L t) ∧ Fr sTok I J ∧ Cur b n N J 0 ∧ stN b n N = n ∧ (∀ i, i < N → stN b n i < n) ∧ N ≤ n := by
  obtain ⟨J, N, r, rest⟩ := l39 (d := d) (L := L) (t := t) h400 e4 eb ef n 0 0 (up3 (up3 I 7 0 5 0) 7 0 6 0) 0 vx vx (by omega) ((Fr.rfl'.up rfl).up rfl) (by rw [up_s (by decide), up_e]; rfl) up_e rfl (Nat.le_refl _) (Nat.le_refl _) (fun i hi => absurd hi (Nat.not_lt_zero i))
  exact ⟨J, N, Eq.trans (P39_0_0 (d := d + 7)) r, rest⟩
end CTOK
