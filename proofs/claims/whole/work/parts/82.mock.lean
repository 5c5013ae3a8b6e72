/-! odds of one who wasn't there -/
def mkS (sc : Nat → Int) (rv : Int → Int) (k : Nat) (s : Int × Int) : Int × Int :=
  if rv k = -1 then s else if s.1 < sc (rv k).toNat then (sc (rv k).toNat, 1) else if sc (rv k).toNat = s.1 then (s.1, s.2 + 1) else s
def mkP (sc : Nat → Int) (rv : Int → Int) (p : Nat) : Int := if sc (rv p).toNat = (fo (mkS sc rv) 0 9 (-1, 0)).1 then vIdiv 1000000 (fo (mkS sc rv) 0 9 (-1, 0)).2 else 0
def mkI (k : Nat) (s : Int × Int) : Prop := -1 ≤ s.1 ∧ (0 ≤ s.2 ∧ s.2 ≤ k) ∧ (s.2 = 0 → s.1 = -1)
theorem mkS_1 {sc : Nat → Int} {rv : Int → Int} (h0 : ∀ f, 0 ≤ sc f) {k : Nat} {s : Int × Int} (h : mkI k s) : mkI (k + 1) (mkS sc rv k s) ∧ (0 < s.2 ∨ rv k ≠ -1 → 0 < (mkS sc rv k s).2) := by
  obtain ⟨a, b, c⟩ := h
  have f0 := h0 (rv k).toNat
  unfold mkS
  by_cases q : rv k = -1
  · rw [if_pos q]
    exact ⟨⟨a, by omega, c⟩, fun z => z.resolve_right (fun y => y q)⟩
  · rw [if_neg q]
    by_cases r : s.1 < sc (rv k).toNat
    · rw [if_pos r]
      refine ⟨⟨?_, ?_, ?_⟩, fun _ => ?_⟩
      · show -1 ≤ sc (rv k).toNat
        omega
      · show (0 : Int) ≤ 1 ∧ (1 : Int) ≤ ((k + 1 : Nat) : Int)
        omega
      · intro z
        have z' : (1 : Int) = 0 := z
        omega
      · show (0 : Int) < 1
        decide
    · rw [if_neg r]
      by_cases r2 : sc (rv k).toNat = s.1
      · rw [if_pos r2]
        refine ⟨⟨a, ?_, ?_⟩, fun _ => ?_⟩
        · show 0 ≤ s.2 + 1 ∧ s.2 + 1 ≤ ((k + 1 : Nat) : Int)
          omega
        · intro z
          have z' : s.2 + 1 = 0 := z
          omega
        · show 0 < s.2 + 1
          omega
      · rw [if_neg r2]
        have hp : s.2 ≠ 0 := fun z => by
          have := c z
          omega
        exact ⟨⟨a, by omega, c⟩, fun _ => by omega⟩
theorem mkS_in {sc : Nat → Int} {rv : Int → Int} (h0 : ∀ f, 0 ≤ sc f) : ∀ (n k : Nat) (s : Int × Int), mkI k s → mkI (k + n) (fo (mkS sc rv) k n s) ∧ ((0 < s.2 ∨ ∃ j : Nat, k ≤ j ∧ j < k + n ∧ rv j ≠ -1) → 0 < (fo (mkS sc rv) k n s).2)
  | 0, k, s, h => ⟨h, fun z => by
      rcases z with z | ⟨j, h1, h2, h3⟩
      · exact z
      · omega⟩
  | n + 1, k, s, h => by
    rw [fo_s]
    obtain ⟨a, b⟩ := mkS_1 (rv := rv) h0 h
    obtain ⟨c, e⟩ := mkS_in (rv := rv) h0 n (k + 1) _ a
    rw [show k + 1 + n = k + (n + 1) by omega] at c
    refine ⟨c, fun z => e ?_⟩
    rcases z with z | ⟨j, h1, h2, h3⟩
    · exact Or.inl (b (Or.inl z))
    · by_cases y : j = k
      · subst y
        exact Or.inl (b (Or.inr h3))
      · exact Or.inr ⟨j, by omega, by omega, h3⟩
theorem mkI_0 : mkI 0 (-1, 0) := ⟨Int.le_refl _, ⟨Int.le_refl _, Int.le_refl _⟩, fun _ => rfl⟩
theorem mkP_pos {sc : Nat → Int} {rv : Int → Int} (h0 : ∀ f, 0 ≤ sc f) {p : Nat} (hp : p < 9) (h : rv p ≠ -1) : 0 < (fo (mkS sc rv) 0 9 (-1, 0)).2 := (mkS_in h0 9 0 _ mkI_0).2 (Or.inr ⟨p, by omega, by omega, h⟩)
theorem million_div {x : Int} (h : 0 < x) (h9 : x ≤ 100) : 0 ≤ vIdiv 1000000 x ∧ vIdiv 1000000 x ≤ 1000000 := by
  rw [vIdiv_pos (by decide) (by omega)]
  have h1 := Int.ediv_nonneg (a := 1000000) (b := x) (by decide) (by omega)
  have h2 := Int.ediv_le_self (a := 1000000) x (by decide)
  omega
theorem mkP_in {sc : Nat → Int} {rv : Int → Int} (h0 : ∀ f, 0 ≤ sc f) {p : Nat} (hp : p < 9) (h : rv p ≠ -1) : 0 ≤ mkP sc rv p ∧ mkP sc rv p ≤ 1000000 := by
  unfold mkP
  split
  · have := (mkS_in (rv := rv) h0 9 0 _ mkI_0).1.2.1.2
    exact million_div (mkP_pos h0 hp h) (by omega)
  · decide
section MOCK
variable {d r : Nat} {I L : H3} {t : Nat → Nat}
theorem scW_0 (h : sdOk I (t 10)) (f : Nat) : 0 ≤ scW I t f := (soN_in h.1).1
theorem l129 (h : sdOk I (t 10)) (hr : rwOk I r) {p : Nat} (hp : rv I r p ≠ -1) : ∀ (n k : Nat) (own : Int) (s : Int × Int) (u7 u8 : MV), k + n = 9 → mkI k s → (0 < s.2 ∨ k ≤ p ∧ p < 9) → (p < k → own = scW I t (rv I r p).toNat) →
    Res (d + 3) 129 11 [vr 11 0, vr 4 r, vi (p : Int), vi own, vi s.1, vi s.2, vi (k : Int), u7, u8] [] (mk I L t) = some (vi (if (if p < 9 then scW I t (rv I r p).toNat else own) = (fo (mkS (scW I t) (rv I r)) k n s).1 then vIdiv 1000000 (fo (mkS (scW I t) (rv I r)) k n s).2 else 0), mk I L t)
  | 0, k, own, s, u7, u8, hk, hi, hpos, ho => by
    have hp9 : p < k := by
      by_cases z : p < k
      · exact z
      · have h9 := hr.1
        exact absurd (rvP_neg (n := I 4 r 1) (p := (p : Int)) (f := I 30 r) (by omega)) hp
    have hpos' : 0 < s.2 := by omega
    rw [if_pos (show p < 9 by omega), ← ho hp9]
    show _ = some (vi (if own = s.1 then vIdiv 1000000 s.2 else 0), _)
    by_cases q : own = s.1
    · rw [if_pos q]
      exact P129_11_9 (h1 := by omega) (h2 := q) (h3 := hpos') (g1 := by omega)
    · rw [if_neg q]
      exact P129_11_11 (h1 := by omega) (h2 := q)
  | n + 1, k, own, s, u7, u8, hk, hi, hpos, ho => by
    have hb := hr.2 (k : Int)
    obtain ⟨i1, i2⟩ := mkS_1 (sc := scW I t) (rv := rv I r) (scW_0 h) hi
    rw [fo_s]
    have nx : ∀ (own' : Int) (u7 u8 : MV), (0 < (mkS (scW I t) (rv I r) k s).2 ∨ k + 1 ≤ p ∧ p < 9) → (p < k + 1 → own' = scW I t (rv I r p).toNat) → Res (d + 3) 129 11 [vr 11 0, vr 4 r, vi (p : Int), vi own', vi (mkS (scW I t) (rv I r) k s).1, vi (mkS (scW I t) (rv I r) k s).2, vi (w32 ((k : Int) + 1)), u7, u8] [] (mk I L t) = some (vi (if (if p < 9 then scW I t (rv I r p).toNat else own) = (fo (mkS (scW I t) (rv I r)) (k + 1) n (mkS (scW I t) (rv I r) k s)).1 then vIdiv 1000000 (fo (mkS (scW I t) (rv I r)) (k + 1) n (mkS (scW I t) (rv I r) k s)).2 else 0), mk I L t) := fun own' u7 u8 hp1 ho1 => by
      rw [lem_w32k (by omega)]
      have := l129 h hr hp n (k + 1) own' (mkS (scW I t) (rv I r) k s) u7 u8 (by omega) i1 hp1 ho1
      rw [this]
      by_cases z : p < 9
      · rw [if_pos z, if_pos z]
      · have h9 := hr.1
        exact absurd (rvP_neg (n := I 4 r 1) (p := (p : Int)) (f := I 30 r) (by omega)) hp
    by_cases c : rv I r (k : Int) = -1
    · have e : mkS (scW I t) (rv I r) k s = s := if_pos c
      have hkp : k ≠ p := fun q => hp (by rw [← q]; exact c)
      refine Eq.trans (P129_11_0 (h1 := by omega) (g1 := hr.1) (h2 := c)) ?_
      have := nx own (vi (rv I r (k : Int))) u8 (by rw [e]; omega) (fun z => ho (by omega))
      rw [e] at this ⊢
      exact this
    · have hg := hb.resolve_left c
      have c1 := sp31 (d := d) (k := t 10) (f := (rv I r (k : Int)).toNat) (L := L) (t := t) h
      have npos := i2 (Or.inr c)
      by_cases a : s.1 < scW I t (rv I r (k : Int)).toNat
      · have e : mkS (scW I t) (rv I r) k s = (scW I t (rv I r (k : Int)).toNat, 1) := by
          unfold mkS
          rw [if_neg c, if_pos a]
        have e01 : w32 (0 + 1) = 1 := rfl
        by_cases b : k = p
        · refine Eq.trans (P129_11_1 (h1 := by omega) (g1 := hr.1) (h2 := c) (g2 := hg) (c1 := c1) (h3 := by rw [b]) (h4 := a) (h5 := rfl)) ?_
          have := nx (scW I t (rv I r (k : Int)).toNat) (vi (rv I r (k : Int))) (vi (scW I t (rv I r (k : Int)).toNat)) (Or.inl npos) (fun _ => by rw [b])
          rw [e] at this ⊢
          exact this
        · refine Eq.trans (P129_11_5 (h1 := by omega) (g1 := hr.1) (h2 := c) (g2 := hg) (c1 := c1) (h3 := by omega) (h4 := a) (h5 := rfl)) ?_
          have := nx own (vi (rv I r (k : Int))) (vi (scW I t (rv I r (k : Int)).toNat)) (Or.inl npos) (fun z => ho (by omega))
          rw [e] at this ⊢
          exact this
      · have h12 := hi.2.1
        by_cases a2 : scW I t (rv I r (k : Int)).toNat = s.1
        · have e : mkS (scW I t) (rv I r) k s = (s.1, s.2 + 1) := by
            unfold mkS
            rw [if_neg c, if_neg a, if_pos a2]
          have ew : w32 (s.2 + 1) = s.2 + 1 := w32_s (by omega)
          by_cases b : k = p
          · refine Eq.trans (P129_11_3 (h1 := by omega) (g1 := hr.1) (h2 := c) (g2 := hg) (c1 := c1) (h3 := by rw [b]) (h4 := Int.not_lt.mp a) (h5 := a2)) ?_
            have := nx (scW I t (rv I r (k : Int)).toNat) (vi (rv I r (k : Int))) (vi (scW I t (rv I r (k : Int)).toNat)) (Or.inl npos) (fun _ => by rw [b])
            rw [e] at this ⊢
            rw [ew]
            exact this
          · refine Eq.trans (P129_11_7 (h1 := by omega) (g1 := hr.1) (h2 := c) (g2 := hg) (c1 := c1) (h3 := by omega) (h4 := Int.not_lt.mp a) (h5 := a2)) ?_
            have := nx own (vi (rv I r (k : Int))) (vi (scW I t (rv I r (k : Int)).toNat)) (Or.inl npos) (fun z => ho (by omega))
            rw [e] at this ⊢
            rw [ew]
            exact this
        · have e : mkS (scW I t) (rv I r) k s = s := by
            unfold mkS
            rw [if_neg c, if_neg a, if_neg a2]
          have ew : w32 (s.2 + 0) = s.2 := by rw [Int.add_zero, w32_s (by omega)]
          by_cases b : k = p
          · refine Eq.trans (P129_11_4 (h1 := by omega) (g1 := hr.1) (h2 := c) (g2 := hg) (c1 := c1) (h3 := by rw [b]) (h4 := Int.not_lt.mp a) (h5 := a2)) ?_
            have := nx (scW I t (rv I r (k : Int)).toNat) (vi (rv I r (k : Int))) (vi (scW I t (rv I r (k : Int)).toNat)) (Or.inl npos) (fun _ => by rw [b])
            rw [e] at this ⊢
            rw [ew]
            exact this
          · refine Eq.trans (P129_11_8 (h1 := by omega) (g1 := hr.1) (h2 := c) (g2 := hg) (c1 := c1) (h3 := by omega) (h4 := Int.not_lt.mp a) (h5 := a2)) ?_
            have := nx own (vi (rv I r (k : Int))) (vi (scW I t (rv I r (k : Int)).toNat)) (Or.inl npos) (fun z => ho (by omega))
            rw [e] at this ⊢
            rw [ew]
            exact this
theorem sp129 (h : sdOk I (t 10)) (hr : rwOk I r) {p : Nat} (hp9 : p < 9) (hp : rv I r p ≠ -1) : Cal (d + 3) 129 [vr 11 0, vr 4 r, vi (p : Int)] (mk I L t) = some (vi (mkP (scW I t) (rv I r) p), mk I L t) := by
  refine Eq.trans P129_0_0 (Eq.trans (l129 h hr hp 9 0 (-1) (-1, 0) vx vx rfl mkI_0 (Or.inr ⟨by omega, hp9⟩) (fun z => by omega)) ?_)
  rw [if_pos hp9]
  rfl
/-! the model -/
theorem mscW_0 (h : mdOk I) (f : Nat) : 0 ≤ mscW I f := (soN_in h.1).1
theorem l222 (h : mdOk I) (hl : lnOk I) {p : Nat} (hp : mrv I p ≠ -1) : ∀ (n k : Nat) (s : Int × Int) (u5 : MV), (k : Int) + n = I 12 0 12 → mkI k s → (0 < s.2 ∨ k ≤ p) →
    Res (d + 2) 222 7 [vr 12 0, vi (p : Int), vi s.1, vi s.2, vi (k : Int), u5] [] (mk I L t) = some (vi (if mscW I (mrv I p).toNat = (fo (mkS (mscW I) (mrv I)) k n s).1 then vIdiv 1000000 (fo (mkS (mscW I) (mrv I)) k n s).2 else 0), mk I L t)
  | 0, k, s, u5, hk, hi, hpos => by
    have hpk : (p : Int) < I 12 0 12 := by
      by_cases z : (p : Int) < I 12 0 12
      · exact z
      · exact absurd (mrv_ge (by omega)) hp
    have hl9 := hl.1
    have ev : mrv I (p : Int) = I 54 0 p := mrv_at hpk
    have hb := (hl.2 (p : Int)).resolve_left hp
    have hpos' : 0 < s.2 := by omega
    have e1 : (((mrv I (p : Int)).toNat : Nat) : Int) = I 54 0 p := by omega
    have c1 := sp220 (d := d) (f := (mrv I (p : Int)).toNat) (L := L) (t := t) h (by omega)
    rw [e1] at c1
    show _ = some (vi (if mscW I (mrv I p).toNat = s.1 then vIdiv 1000000 s.2 else 0), _)
    by_cases q : mscW I (mrv I p).toNat = s.1
    · rw [if_pos q]
      exact P222_7_4 (h1 := by omega) (g1 := by omega) (c1 := c1) (h2 := q) (g2 := by omega)
    · rw [if_neg q]
      exact P222_7_5 (h1 := by omega) (g1 := by omega) (c1 := c1) (h2 := q)
  | n + 1, k, s, u5, hk, hi, hpos => by
    have hl9 := hl.1
    have ev : mrv I (k : Int) = I 54 0 k := mrv_at (by omega)
    have hb := hl.2 (k : Int)
    obtain ⟨i1, i2⟩ := mkS_1 (sc := mscW I) (rv := mrv I) (mscW_0 h) hi
    rw [fo_s]
    by_cases c : mrv I (k : Int) = -1
    · have e : mkS (mscW I) (mrv I) k s = s := if_pos c
      have hkp : k ≠ p := fun q => hp (by rw [← q]; exact c)
      rw [e] at i1 ⊢
      refine Eq.trans (P222_7_0 (h1 := by omega) (g1 := by omega) (h2 := by rw [Int.toNat_natCast, ← ev]; exact c)) ?_
      rw [lem_w32k (by omega)]
      exact l222 h hl hp n (k + 1) s u5 (by omega) i1 (by omega)
    · have hg := hb.resolve_left c
      have e1 : (((mrv I (k : Int)).toNat : Nat) : Int) = I 54 0 k := by omega
      have c1 := sp220 (d := d) (f := (mrv I (k : Int)).toNat) (L := L) (t := t) h (by omega)
      rw [e1] at c1
      have npos := i2 (Or.inr c)
      have h2 : ¬ I 54 0 ((k : Int).toNat) = -1 := by
        rw [Int.toNat_natCast, ← ev]
        exact c
      by_cases a : s.1 < mscW I (mrv I (k : Int)).toNat
      · have e : mkS (mscW I) (mrv I) k s = (mscW I (mrv I (k : Int)).toNat, 1) := by
          unfold mkS
          rw [if_neg c, if_pos a]
        rw [e] at i1 npos ⊢
        refine Eq.trans (P222_7_1 (h1 := by omega) (g1 := by omega) (h2 := h2) (c1 := c1) (h3 := a)) ?_
        rw [lem_w32k (by omega)]
        exact l222 h hl hp n (k + 1) (mscW I (mrv I (k : Int)).toNat, 1) _ (by omega) i1 (Or.inl npos)
      · have h12 := hi.2.1
        by_cases a2 : mscW I (mrv I (k : Int)).toNat = s.1
        · have e : mkS (mscW I) (mrv I) k s = (s.1, s.2 + 1) := by
            unfold mkS
            rw [if_neg c, if_neg a, if_pos a2]
          rw [e] at i1 npos ⊢
          refine Eq.trans (P222_7_2 (h1 := by omega) (g1 := by omega) (h2 := h2) (c1 := c1) (h3 := Int.not_lt.mp a) (h4 := a2)) ?_
          rw [lem_w32k (by omega), w32_s (by omega)]
          exact l222 h hl hp n (k + 1) (s.1, s.2 + 1) _ (by omega) i1 (Or.inl npos)
        · have e : mkS (mscW I) (mrv I) k s = s := by
            unfold mkS
            rw [if_neg c, if_neg a, if_neg a2]
          rw [e] at i1 npos ⊢
          refine Eq.trans (P222_7_3 (h1 := by omega) (g1 := by omega) (h2 := h2) (c1 := c1) (h3 := Int.not_lt.mp a) (h4 := a2)) ?_
          rw [lem_w32k (by omega)]
          exact l222 h hl hp n (k + 1) s _ (by omega) i1 (Or.inl npos)
theorem sp222 (h : mdOk I) (hl : lnOk I) {p : Nat} (hp : mrv I p ≠ -1) : Cal (d + 2) 222 [vr 12 0, vi (p : Int)] (mk I L t) = some (vi (mkP (mscW I) (mrv I) p), mk I L t) := by
  have hl9 := hl.1
  refine Eq.trans P222_0_0 (Eq.trans (l222 h hl hp (I 12 0 12).toNat 0 (-1, 0) vx (by omega) mkI_0 (Or.inr (by omega))) ?_)
  have e : fo (mkS (mscW I) (mrv I)) 0 9 (-1, 0) = fo (mkS (mscW I) (mrv I)) 0 (I 12 0 12).toNat (-1, 0) := by
    have := fo_add (mkS (mscW I) (mrv I)) (I 12 0 12).toNat (9 - (I 12 0 12).toNat) 0 (-1, 0)
    rw [show (I 12 0 12).toNat + (9 - (I 12 0 12).toNat) = 9 by omega] at this
    rw [this]
    exact fo_id _ _ _ (fun j b h1 h2 => if_pos (mrv_ge (by omega)))
  unfold mkP
  rw [e]
end MOCK
theorem mkP_cg {sc sc' : Nat → Int} {rv : Int → Int} {p : Nat} (hr : rvB rv) (h : ∀ f, f < 120 → sc f = sc' f) (hp : rv p ≠ -1) : mkP sc rv p = mkP sc' rv p := by
  have e : fo (mkS sc rv) 0 9 (-1, 0) = fo (mkS sc' rv) 0 9 (-1, 0) := fo_cg 9 0 _ (fun j b _ _ => by
    unfold mkS
    by_cases q : rv j = -1
    · rw [if_pos q, if_pos q]
    · have := (hr j).resolve_left q
      rw [h (rv j).toNat (by omega)])
  have := (hr p).resolve_left hp
  unfold mkP
  rw [e, h (rv p).toNat (by omega)]
theorem both_mock (r p what : Int) : Both 93 223 [vi r, vi p, vi what] := fun d I L t h => by
  by_cases a : 0 ≤ r ∧ r < 6
  · obtain ⟨g, rfl⟩ : ∃ g : Nat, r = (g : Int) := ⟨r.toNat, by omega⟩
    have hr := h.rw' (r := g) (by omega)
    obtain ⟨J1, c1, F1, e12, em, ln⟩ := sp156 (d := d + 49) (L := L) (t := t) (r := g) (I := I) (by omega) hr.2.1
    have G1 : Fr sMs I J1 := sLn_s F1
    have hl9 := hr.2.1.1
    rw [hr.2.2] at em
    have hdon : ∀ (x : Int), Cal (d + 50) 93 [vr 11 0, vi (g : Int), vi p, vi what] (mk I L t) = some (vi x, mk I L t) → ∀ J, Fr sMs I J → Cal (d + 50) 223 [vr 12 0, vi (g : Int), vi p, vi what] (mk I L t) = some (vi x, mk J L t) → ∃ (x : Int) (J L1 K L2 : H3) (t1 : Nat → Nat), Cal (d + 50) 93 (vr 11 0 :: [vi (g : Int), vi p, vi what]) (mk I L t) = some (vi x, mk J L1 t1) ∧ Cal (d + 50) 223 (vr 12 0 :: [vi (g : Int), vi p, vi what]) (mk J L1 t1) = some (vi x, mk K L2 t1) ∧ Rel K t1 := fun x q1 J F q2 => ⟨x, I, L, J, L, t, q1, q2, q_rel (sMs_q F) h⟩
    by_cases c : rv I g p = -1
    · have hc := P93_0_5 (d := d + 48) (L := L) (t := t) (x2 := p) (x3 := what) (h1 := a) (g1 := hr.1.1) (h2 := c)
      by_cases b : 0 ≤ what ∧ what ≤ 1
      · by_cases e : 0 ≤ p ∧ p < J1 12 0 12
        · have ev := mrv_at (I := J1) (k := p.toNat) (by omega)
          rw [show ((p.toNat : Nat) : Int) = p by omega, em, c] at ev
          exact hdon _ hc J1 G1 (P223_0_3 (d := d + 48) (h1 := a) (h2 := b) (c1 := c1) (g1 := by omega) (h3 := e) (g2 := by omega) (h4 := ev.symm))
        · exact hdon _ hc J1 G1 (P223_0_2 (d := d + 48) (h1 := a) (h2 := b) (c1 := c1) (g1 := by omega) (h3 := e))
      · exact hdon _ hc I Fr.rfl' (P223_0_1 (d := d + 48) (h1 := a) (h2 := b))
    · have hp9 : 0 ≤ p ∧ p < J1 12 0 12 := by
        by_cases z : 0 ≤ p ∧ p < J1 12 0 12
        · exact z
        · exfalso
          refine c (rvP_neg ?_)
          have := (h.pR g (by omega)).1
          omega
      have ev := mrv_at (I := J1) (k := p.toNat) (by omega)
      rw [show ((p.toNat : Nat) : Int) = p by omega, em] at ev
      by_cases b : what = 0 ∨ what = 1
      · have eN : nM J1 = nM I := s_nM G1
        have eS : mscW J1 = mscW I := by
          funext f
          unfold mscW
          rw [eN, G1 12 0 33 rfl, G1.ri (r := 64) (i := 0) (fun _ => rfl), G1.ri (r := 65) (i := 0) (fun _ => rfl), G1.ri (r := 66) (i := 0) (fun _ => rfl)]
        have hmd : mdOk J1 := by
          unfold mdOk
          rw [G1 12 0 33 rfl, G1.ri (r := 64) (i := 0) (fun _ => rfl)]
          exact h.md
        have k1 := sp129 (d := d + 46) (L := L) (t := t) h.sd hr.1 (p := p.toNat) (by omega) (by rw [show ((p.toNat : Nat) : Int) = p by omega]; exact c)
        have k2 := sp222 (d := d + 47) (L := L) (t := t) hmd ln (p := p.toNat) (by rw [em, show ((p.toNat : Nat) : Int) = p by omega]; exact c)
        have ek : mkP (mscW J1) (mrv J1) p.toNat = mkP (scW I t) (rv I g) p.toNat := by
          rw [eS, em]
          exact mkP_cg hr.1.2 (fun f hf => h.esc hf) (by rw [show ((p.toNat : Nat) : Int) = p by omega]; exact c)
        have hin := mkP_in (rv := rv I g) (scW_0 h.sd) (p := p.toNat) (by omega) (by rw [show ((p.toNat : Nat) : Int) = p by omega]; exact c)
        rw [ek] at k2
        rw [show ((p.toNat : Nat) : Int) = p by omega] at k1 k2
        have k3 := sp27 (d := d + 49) (L := L) (t := t) hr.1
        have k4 := sp158 (d := d + 49) (I := J1) (L := L) (t := t) (by omega)
        rw [em] at k4
        have hcn : 0 < cntP (rv I g) := cntP_pos.mpr ⟨p.toNat, by omega, by rw [show ((p.toNat : Nat) : Int) = p by omega]; exact c⟩
        have hmd := million_div hcn (by have := (cntP_in (rv := rv I g)).2; omega)
        rcases b with b | b
        · exact hdon _ (P93_0_4 (d := d + 48) (h1 := a) (g1 := hr.1.1) (h2 := c) (h3 := b) (c1 := k1)) J1 G1 (P223_0_4 (d := d + 48) (h1 := a) (h2 := by omega) (c1 := c1) (g1 := by omega) (h3 := hp9) (g2 := by omega) (h4 := fun z => c (ev.trans z)) (c2 := k2) (c3 := k4) (g3 := by omega) (h5 := b))
        · have q1 := P93_0_3 (d := d + 48) (h1 := a) (g1 := hr.1.1) (h2 := c) (h3 := show ¬ what = 0 by omega) (h4 := b) (c1 := k1) (c2 := k3) (h5 := by omega) (g2 := by omega)
          have ew : w32 (mkP (scW I t) (rv I g) p.toNat - vIdiv 1000000 (cntP (rv I g))) = mkP (scW I t) (rv I g) p.toNat - vIdiv 1000000 (cntP (rv I g)) := w32_s (by omega)
          by_cases e : mkP (scW I t) (rv I g) p.toNat < vIdiv 1000000 (cntP (rv I g))
          · rw [if_neg (by rw [ew]; omega)] at q1
            exact hdon _ q1 J1 G1 (P223_0_5 (d := d + 48) (h1 := a) (h2 := by omega) (c1 := c1) (g1 := by omega) (h3 := hp9) (g2 := by omega) (h4 := fun z => c (ev.trans z)) (c2 := k2) (c3 := k4) (g3 := by omega) (h5 := by omega) (h6 := e))
          · have q2 := P223_0_6 (d := d + 48) (h1 := a) (h2 := show 0 ≤ what ∧ what ≤ 1 by omega) (c1 := c1) (g1 := by omega) (h3 := hp9) (g2 := by omega) (h4 := fun z => c (ev.trans z)) (c2 := k2) (c3 := k4) (g3 := by omega) (h5 := by omega) (h6 := Int.not_lt.mp e)
            have e2 : (if 0 < w32 (mkP (scW I t) (rv I g) p.toNat - vIdiv 1000000 (cntP (rv I g))) then w32 (mkP (scW I t) (rv I g) p.toNat - vIdiv 1000000 (cntP (rv I g))) else 0) = w32 (mkP (scW I t) (rv I g) p.toNat - vIdiv 1000000 (cntP (rv I g))) := by
              rw [ew]
              split <;> omega
            rw [e2] at q1
            exact hdon _ q1 J1 G1 q2
      · exact hdon _ (P93_0_1 (d := d + 48) (h1 := a) (g1 := hr.1.1) (h2 := c) (h3 := fun z => b (Or.inl z)) (h4 := fun z => b (Or.inr z))) I Fr.rfl' (P223_0_1 (d := d + 48) (h1 := a) (h2 := by omega))
  · exact ⟨-1, I, L, I, L, t, P93_0_0 (d := d + 48) (h1 := a), P223_0_0 (d := d + 48) (h1 := a), h⟩
