/-! fillers: the model -/
def mkV (v : Int) (s : Int × Int) : Int × Int := if s.1 < v then (v, 1) else if v = s.1 then (s.1, s.2 + 1) else s
def mkB (pt : Nat → Int) (s k : Nat) (st : Int × Int) : Int × Int := if s.testBit k then mkV (pt k) st else st
theorem mkB_ge {pt : Nat → Int} {s : Nat} : ∀ (n k : Nat) (st : Int × Int), st.1 ≤ (fo (mkB pt s) k n st).1
  | 0, _, _ => Int.le_refl _
  | n + 1, k, st => by
    rw [fo_s]
    have h := mkB_ge (pt := pt) (s := s) n (k + 1) (mkB pt s k st)
    have h2 : st.1 ≤ (mkB pt s k st).1 := by
      unfold mkB mkV
      split
      · split
        · next q =>
          show st.1 ≤ pt k
          omega
        · split <;> exact Int.le_refl _
      · exact Int.le_refl _
    omega
theorem mo_eq {pt : Nat → Int} {own : Int} {s : Nat} : ∀ (n k : Nat) (a : Int), 0 < a → (if own = (fo (mkB pt s) k n (own, a)).1 then vIdiv 1000000 (fo (mkB pt s) k n (own, a)).2 else 0) = moL pt own s k n a
  | 0, k, a, ha => by
    show (if own = own then vIdiv 1000000 a else 0) = if a ≤ 0 then 0 else vIdiv 1000000 a
    rw [if_pos rfl, if_neg (by omega)]
  | n + 1, k, a, ha => by
    rw [fo_s]
    show _ = if s.testBit k then (if own < pt k then 0 else moL pt own s (k + 1) n (if pt k = own then a + 1 else a)) else moL pt own s (k + 1) n a
    by_cases q : s.testBit k = true
    · rw [if_pos q]
      have e0 : mkB pt s k (own, a) = mkV (pt k) (own, a) := if_pos q
      by_cases q1 : own < pt k
      · rw [if_pos q1]
        have e : mkB pt s k (own, a) = (pt k, 1) := by
          rw [e0]
          exact if_pos q1
        rw [e]
        have h := mkB_ge (pt := pt) (s := s) n (k + 1) (pt k, 1)
        have h' : pt k ≤ (fo (mkB pt s) (k + 1) n (pt k, 1)).1 := h
        rw [if_neg (by omega)]
      · rw [if_neg q1]
        by_cases q2 : pt k = own
        · have e : mkB pt s k (own, a) = (own, a + 1) := by
            rw [e0]
            unfold mkV
            rw [if_neg q1, if_pos q2]
          rw [e, if_pos q2]
          exact mo_eq n (k + 1) (a + 1) (by omega)
        · have e : mkB pt s k (own, a) = (own, a) := by
            rw [e0]
            unfold mkV
            rw [if_neg q1, if_neg q2]
          rw [e, if_neg q2]
          exact mo_eq n (k + 1) a ha
    · rw [if_neg q]
      have e0 : mkB pt s k (own, a) = (own, a) := if_neg q
      rw [e0]
      exact mo_eq n (k + 1) a ha
def cB (s p : Nat) : Int := fo (fun k (a : Int) => if s.testBit k then a + 1 else a) 0 p 0
theorem cB_s {s p : Nat} : cB s (p + 1) = if s.testBit p then cB s p + 1 else cB s p := by
  show fo _ 0 (p + 1) 0 = _
  rw [fo_e, Nat.zero_add]
  rfl
theorem cB_m {s p : Nat} : ∀ m, cB s p ≤ cB s (p + m)
  | 0 => Int.le_refl _
  | m + 1 => by
    have := cB_m (s := s) (p := p) m
    rw [show p + (m + 1) = (p + m) + 1 by omega, cB_s]
    split <;> omega
theorem cB_0 {s : Nat} : ∀ p, 0 ≤ cB s p ∧ cB s p ≤ p
  | 0 => ⟨Int.le_refl _, Int.le_refl _⟩
  | p + 1 => by
    have := cB_0 (s := s) p
    rw [cB_s]
    split <;> omega
section FILLM
variable {d r : Nat} {I0 I L : H3} {t : Nat → Nat}
theorem l224 {s : Nat} (hs : s < 512) : ∀ (n k : Nat), k + n = 9 → Res d 224 4 [vi (s : Int), vi (cB s k), vi (k : Int)] [] (mk I L t) = some (vi (bcP s), mk I L t)
  | 0, k, hk => by
    have h9 : k = 9 := by omega
    subst h9
    exact P224_4_1 (by decide)
  | n + 1, k, hk => by
    have eb := bt_e (s := s) (k := k) hs (by omega)
    have hc := cB_0 (s := s) k
    refine Eq.trans (P224_4_0 (by omega)) ?_
    rw [lem_w32k (by omega), eb]
    have e : w32 (cB s k + if s.testBit k = true then 1 else 0) = cB s (k + 1) := by
      rw [cB_s]
      by_cases q : s.testBit k = true
      · rw [if_pos q, if_pos q, w32_s (by omega)]
      · rw [if_neg q, if_neg q, Int.add_zero, w32_s (by omega)]
    rw [e]
    exact l224 hs n (k + 1) (by omega)
theorem sp224 {s : Nat} (hs : s < 512) : Cal d 224 [vi (s : Int)] (mk I L t) = some (vi (bcP s), mk I L t) := Eq.trans P224_0_0 (l224 hs 9 0 rfl)
theorem difP_sym {f g : Nat → Int} : ∀ (n k : Nat) (s : Int), difP f g k n s = difP g f k n s := fun n k s => fo_cg n k s (fun j b _ _ => by
  have e : aptP (f j) (g j) = aptP (g j) (f j) := by
    unfold aptP
    by_cases h1 : g j < f j
    · rw [if_pos h1, if_neg (show ¬ f j < g j by omega)]
    · rw [if_neg h1]
      by_cases h2 : f j < g j
      · rw [if_pos h2]
      · rw [if_neg h2, show f j = g j by omega]
  rw [e])
/-- what stands in the line: f, then the members of s before p -/
def lnF (I0 J : H3) (r f s p : Nat) : Prop := Fr sLn I0 J ∧ (∃ c : Nat, J 12 0 12 = c ∧ 1 ≤ c ∧ (c : Int) ≤ 1 + cB s p ∧ c ≤ 9 ∧ fo (mkS (mscW I0) (mrv J)) 0 c (-1, 0) = fo (mkB (fun k => mscW I0 (mrw I0 r k).toNat) s) 0 p (mscW I0 f, 1)) ∧ rvB (mrv J) ∧ mrv J 0 = f
theorem lnF_0 (h : mdOk I0) {f s : Nat} (hf : f < 120) (F : Fr sLn I0 I) : lnF I0 (up3 (up3 I 54 0 0 (f : Int)) 12 0 12 1) r f s 0 := by
  have hv : ∀ p : Int, mrv (up3 (up3 I 54 0 0 (f : Int)) 12 0 12 1) p = if p = 0 then (f : Int) else -1 := fun p => by
    unfold mrv rvP
    rw [up_e, up_r (show (54 : Nat) ≠ 12 by decide)]
    by_cases q : p = 0
    · subst q
      rw [if_pos (by decide), if_pos rfl]
      exact up_e
    · rw [if_neg (by omega), if_neg q]
  have h0 := mscW_0 h f
  refine ⟨(F.up rfl).up rfl, ⟨1, up_e, by decide, ?_, by decide, ?_⟩, fun p => ?_, ?_⟩
  · exact Int.le_refl _
  · show mkS (mscW I0) (mrv (up3 (up3 I 54 0 0 (f : Int)) 12 0 12 1)) 0 (-1, 0) = (mscW I0 f, 1)
    unfold mkS
    rw [show (((0 : Nat)) : Int) = 0 from rfl, hv 0, if_pos rfl, if_neg (by omega), Int.toNat_natCast]
    exact if_pos (by show -1 < _; omega)
  · rw [hv p]
    split
    · exact Or.inr (by omega)
    · exact Or.inl rfl
  · exact (hv 0).trans (if_pos rfl)
theorem lnF_n {J : H3} {f s p : Nat} (h : lnF I0 J r f s p) (hb : s.testBit p = false) : lnF I0 J r f s (p + 1) := by
  obtain ⟨F, ⟨c, c1, c2, c3, c4, c5⟩, B, z⟩ := h
  have e : s.testBit p = true ↔ False := by rw [hb]; exact ⟨fun q => (by cases q), fun q => q.elim⟩
  refine ⟨F, ⟨c, c1, c2, ?_, c4, ?_⟩, B, z⟩
  · rw [cB_s, if_neg (fun q => e.mp q)]
    exact c3
  · rw [c5, fo_e, Nat.zero_add]
    exact (if_neg (fun q => e.mp q)).symm
theorem lnF_y {J : H3} {f s p : Nat} (h : lnF I0 J r f s p) (hb : s.testBit p = true) (hc : cB s p ≤ 7) (hg : mrw I0 r p ≠ -1) (hr : rvB (mrw I0 r)) : (0 ≤ J 12 0 12 ∧ J 12 0 12 < 9) ∧ lnF I0 (up3 (up3 J 54 0 (J 12 0 12).toNat (mrw I0 r p)) 12 0 12 (w32 (J 12 0 12 + 1))) r f s (p + 1) := by
  obtain ⟨F, ⟨c, c1, c2, c3, c4, c5⟩, B, z⟩ := h
  have hc8 : c ≤ 8 := by omega
  refine ⟨by omega, ?_⟩
  rw [c1, Int.toNat_natCast, lem_w32k (by omega)]
  have hin := hr (p : Int)
  have hv : ∀ x : Int, mrv (up3 (up3 J 54 0 c (mrw I0 r p)) 12 0 12 ((c + 1 : Nat) : Int)) x = if x = (c : Int) then mrw I0 r p else mrv J x := fun x => by
    unfold mrv rvP
    rw [up_e, up_r (show (54 : Nat) ≠ 12 by decide), c1]
    by_cases q : x = (c : Int)
    · subst q
      rw [if_pos (by omega), if_pos rfl, Int.toNat_natCast]
      exact up_e
    · rw [if_neg q]
      by_cases q2 : 0 ≤ x ∧ x < (c : Int)
      · rw [if_pos (by omega), if_pos q2]
        exact up_s (by omega)
      · rw [if_neg (by omega), if_neg q2]
  refine ⟨(F.up rfl).up rfl, ⟨c + 1, up_e, by omega, ?_, by omega, ?_⟩, fun x => ?_, ?_⟩
  · rw [cB_s, if_pos hb]
    omega
  · have e1 : fo (mkS (mscW I0) (mrv (up3 (up3 J 54 0 c (mrw I0 r p)) 12 0 12 ((c + 1 : Nat) : Int)))) 0 c (-1, 0) = fo (mkS (mscW I0) (mrv J)) 0 c (-1, 0) := fo_cg c 0 _ (fun j b _ hj => by
      have ev : mrv (up3 (up3 J 54 0 c (mrw I0 r p)) 12 0 12 ((c + 1 : Nat) : Int)) (j : Int) = mrv J (j : Int) := by rw [hv, if_neg (by omega)]
      unfold mkS
      rw [ev])
    rw [fo_e, Nat.zero_add, e1, c5, fo_e, Nat.zero_add]
    have e2 : mrv (up3 (up3 J 54 0 c (mrw I0 r p)) 12 0 12 ((c + 1 : Nat) : Int)) (c : Int) = mrw I0 r p := by
      rw [hv, if_pos rfl]
    show mkS _ _ _ _ = mkB _ _ _ _
    unfold mkS mkB
    rw [e2, if_neg hg, if_pos hb]
    rfl
  · rw [hv]
    split
    · exact hin
    · exact B x
  · rw [hv, if_neg (by omega)]
    exact z
theorem lnF_m (hm : mdOk I0) {J : H3} {f s : Nat} (h : lnF I0 J r f s 9) (hf : f < 120) : Cal (d + 2) 222 [vr 12 0, vi 0] (mk J L t) = some (vi (moL (fun k => mscW I0 (mrw I0 r k).toNat) (mscW I0 f) s 0 9 1), mk J L t) := by
  obtain ⟨F, ⟨c, c1, c2, c3, c4, c5⟩, B, z⟩ := h
  have eN : nM J = nM I0 := nM_fr F (fun _ => rfl)
  have eS : mscW J = mscW I0 := by
    funext x
    unfold mscW
    rw [eN, F 12 0 33 rfl, F.ri (r := 64) (i := 0) (fun _ => rfl), F.ri (r := 65) (i := 0) (fun _ => rfl), F.ri (r := 66) (i := 0) (fun _ => rfl)]
  have hmd : mdOk J := by
    unfold mdOk
    rw [F 12 0 33 rfl, F.ri (r := 64) (i := 0) (fun _ => rfl)]
    exact hm
  have z' : mrv J ((0 : Nat) : Int) = f := z
  have r0 := sp222 (d := d) (L := L) (t := t) hmd (I := J) ⟨by omega, B⟩ (p := 0) (by rw [z']; omega)
  refine Eq.trans r0 ?_
  have e : fo (mkS (mscW I0) (mrv J)) 0 9 (-1, 0) = fo (mkS (mscW I0) (mrv J)) 0 c (-1, 0) := by
    have := fo_add (mkS (mscW I0) (mrv J)) c (9 - c) 0 (-1, 0)
    rw [show c + (9 - c) = 9 by omega] at this
    rw [this]
    exact fo_id _ _ _ (fun j b h1 h2 => if_pos (mrv_ge (by omega)))
  unfold mkP
  rw [eS, e, c5, z', Int.toNat_natCast, mo_eq 9 0 1 (by decide)]
theorem l225b (hr6 : r < 6) (h9 : 0 ≤ I 53 0 r ∧ I 53 0 r ≤ 9) {s : Nat} (hs : s < 512) {x2 x3 x4 x5 x6 x9 : Int} : ∀ (n p : Nat) (u11 : MV), (p : Int) + n = I 53 0 r →
    ∃ u8 u9 u10 u11', Res (d + 4) 225 85 [vr 12 0, vi (r : Int), vi x2, vi x3, vi x4, vi x5, vi x6, vi (s : Int), vi 0, vi x9, vi (p : Int), u11] [] (mk I L t) = Res (d + 4) 225 39 [vr 12 0, vi (r : Int), vi x2, vi x3, vi x4, vi x5, vi x6, vi ((s + 1 : Nat) : Int), u8, u9, u10, u11'] [] (mk I L t)
  | 0, p, u11, hp => by
    have r0 := P225_85_5 (d := d + 2) (x2 := x2) (x3 := x3) (x4 := x4) (x5 := x5) (x6 := x6) (x7 := (s : Int)) (x8 := 0) (x9 := x9) (u11 := u11) (L := L) (t := t) (g1 := show 0 ≤ (r : Int) ∧ (r : Int) < 6 by omega) (h1 := show I 53 0 ((r : Int).toNat) ≤ (p : Int) by rw [Int.toNat_natCast]; omega) (h2 := rfl)
    rw [lem_w32k (by omega)] at r0
    exact ⟨_, _, _, _, r0⟩
  | n + 1, p, u11, hp => by
    have eb := bt_e (s := s) (k := p) hs (by omega)
    have e1 : w32 (9 * (r : Int)) = 9 * (r : Int) := w32_s (by omega)
    have e2 : w32 (9 * (r : Int) + (p : Int)) = ((9 * r + p : Nat) : Int) := by
      rw [w32_s (by omega)]
      omega
    by_cases q : s.testBit p = true
    · rw [if_pos q] at eb
      obtain ⟨a, b, c, e, h⟩ := l225b hr6 h9 hs (x2 := x2) (x3 := x3) (x4 := x4) (x5 := x5) (x6 := x6) (x9 := x9) n (p + 1) (vi (I 52 0 (w32 (w32 (9 * (r : Int)) + (p : Int))).toNat)) (by omega)
      refine ⟨a, b, c, e, Eq.trans (P225_85_4 (g1 := by omega) (h1 := by rw [Int.toNat_natCast]; omega) (h2 := by rw [eb]; decide) (g2 := by rw [e1, e2]; omega) (h3 := rfl)) ?_⟩
      rw [lem_w32k (k := p) (by omega)]
      exact h
    · rw [if_neg q] at eb
      obtain ⟨a, b, c, e, h⟩ := l225b hr6 h9 hs (x2 := x2) (x3 := x3) (x4 := x4) (x5 := x5) (x6 := x6) (x9 := x9) n (p + 1) u11 (by omega)
      refine ⟨a, b, c, e, Eq.trans (P225_85_0 (g1 := by omega) (h1 := by rw [Int.toNat_natCast]; omega) (h2 := eb)) ?_⟩
      rw [lem_w32k (k := p) (by omega)]
      exact h
theorem l225a (hm : mdOk I0) (hr6 : r < 6) (hr : mrOk I0 r) {f : Nat} (hf : f < 120) {s : Nat} (hs : s < 512) {kk : Int} (hk8 : kk ≤ 8) (hc : bcP s = kk) {st : Int × Int × Int} : ∀ (n p : Nat) (J : H3) (x9 : Int) (u11 : MV), (p : Int) + n = I0 53 0 r → lnF I0 J r f s p → (∀ k, k < p → s.testBit k = true → gdP (mrw I0 r) f k) → x9 = apP (fun k => difP (nM I0 (mrw I0 r k).toNat) (nM I0 f) 0 16 0) s 0 p 0 → (∀ k : Nat, I0 53 0 r ≤ k → s.testBit k = false) →
    ∃ J' u8 u9 u10 u11', Res (d + 4) 225 85 [vr 12 0, vi (r : Int), vi (f : Int), vi kk, vi st.1, vi st.2.1, vi st.2.2, vi (s : Int), vi 1, vi x9, vi (p : Int), u11] [] (mk J L t) = Res (d + 4) 225 39 [vr 12 0, vi (r : Int), vi (f : Int), vi kk, vi (flS kk (gdP (mrw I0 r) f) (fun s => moL (fun k => mscW I0 (mrw I0 r k).toNat) (mscW I0 f) s 0 9 1) (fun s => apP (fun k => difP (nM I0 (mrw I0 r k).toNat) (nM I0 f) 0 16 0) s 0 9 0) s st).1, vi (flS kk (gdP (mrw I0 r) f) (fun s => moL (fun k => mscW I0 (mrw I0 r k).toNat) (mscW I0 f) s 0 9 1) (fun s => apP (fun k => difP (nM I0 (mrw I0 r k).toNat) (nM I0 f) 0 16 0) s 0 9 0) s st).2.1, vi (flS kk (gdP (mrw I0 r) f) (fun s => moL (fun k => mscW I0 (mrw I0 r k).toNat) (mscW I0 f) s 0 9 1) (fun s => apP (fun k => difP (nM I0 (mrw I0 r k).toNat) (nM I0 f) 0 16 0) s 0 9 0) s st).2.2, vi ((s + 1 : Nat) : Int), u8, u9, u10, u11'] [] (mk J' L t) ∧ Fr sLn I0 J'
  | 0, p, J, x9, u11, hp, hl, hg, hx, hz => by
    have h9 := hr.1
    have h53 : J 53 0 ((r : Int).toNat) = I0 53 0 r := hl.1 53 0 r rfl
    -- the rest of the bits are none
    have e9 : ∀ (k : Nat), p ≤ k → s.testBit k = false := fun k hk => hz k (by omega)
    have hl9 : lnF I0 J r f s 9 := by
      have : ∀ m, p + m ≤ 9 → lnF I0 J r f s (p + m) := fun m => by
        induction m with
        | zero => exact fun _ => hl
        | succ m ih => exact fun h => lnF_n (ih (by omega)) (e9 (p + m) (by omega))
      have := this (9 - p) (by omega)
      rw [show p + (9 - p) = 9 by omega] at this
      exact this
    have ex : x9 = apP (fun k => difP (nM I0 (mrw I0 r k).toNat) (nM I0 f) 0 16 0) s 0 9 0 := by
      have := fo_add (fun k a => if s.testBit k then w32 (a + (fun k : Nat => difP (nM I0 (mrw I0 r k).toNat) (nM I0 f) 0 16 0) k) else a) p (9 - p) 0 0
      rw [show p + (9 - p) = 9 by omega] at this
      rw [hx]
      unfold apP
      rw [this]
      exact (fo_id _ _ _ (fun j b h1 h2 => if_neg (by rw [e9 j (by omega)]; decide))).symm
    have q2 : ∀ k, k < 9 → s.testBit k = true → gdP (mrw I0 r) f k := fun k hk hb => by
      by_cases z : k < p
      · exact hg k z hb
      · rw [e9 k (by omega)] at hb
        cases hb
    have c1 := lnF_m (d := d + 1) (L := L) (t := t) hm hl9 hf
    by_cases a1 : st.1 = -1
    · rw [flS_y hc q2 (Or.inl a1), ← ex]
      have r0 := P225_85_10 (d := d + 2) (x2 := (f : Int)) (x3 := kk) (x4 := st.1) (x5 := st.2.1) (x6 := st.2.2) (x7 := (s : Int)) (x8 := 1) (x9 := x9) (u11 := u11) (g1 := show 0 ≤ (r : Int) ∧ (r : Int) < 6 by omega) (h1 := show J 53 0 ((r : Int).toNat) ≤ (p : Int) by rw [h53]; omega) (h2 := by decide) (c1 := c1) (h3 := a1)
      rw [lem_w32k (k := s) (by omega)] at r0
      exact ⟨_, _, _, _, _, r0, hl.1⟩
    · by_cases a2 : moL (fun k => mscW I0 (mrw I0 r k).toNat) (mscW I0 f) s 0 9 1 < st.2.1
      · rw [flS_y hc q2 (Or.inr (Or.inl a2)), ← ex]
        have r0 := P225_85_8 (d := d + 2) (x2 := (f : Int)) (x3 := kk) (x4 := st.1) (x5 := st.2.1) (x6 := st.2.2) (x7 := (s : Int)) (x8 := 1) (x9 := x9) (u11 := u11) (g1 := show 0 ≤ (r : Int) ∧ (r : Int) < 6 by omega) (h1 := show J 53 0 ((r : Int).toNat) ≤ (p : Int) by rw [h53]; omega) (h2 := by decide) (c1 := c1) (h3 := a1) (h4 := by omega) (h5 := by omega)
        rw [lem_w32k (k := s) (by omega)] at r0
        exact ⟨_, _, _, _, _, r0, hl.1⟩
      · by_cases a3 : moL (fun k => mscW I0 (mrw I0 r k).toNat) (mscW I0 f) s 0 9 1 = st.2.1
        · by_cases a4 : x9 < st.2.2
          · rw [flS_y hc q2 (Or.inr (Or.inr ⟨a3, by rw [← ex]; exact a4⟩)), ← ex]
            have r0 := P225_85_7 (d := d + 2) (x2 := (f : Int)) (x3 := kk) (x4 := st.1) (x5 := st.2.1) (x6 := st.2.2) (x7 := (s : Int)) (x8 := 1) (x9 := x9) (u11 := u11) (g1 := show 0 ≤ (r : Int) ∧ (r : Int) < 6 by omega) (h1 := show J 53 0 ((r : Int).toNat) ≤ (p : Int) by rw [h53]; omega) (h2 := by decide) (c1 := c1) (h3 := a1) (h4 := by omega) (h5 := a3) (h6 := a4)
            rw [lem_w32k (k := s) (by omega)] at r0
            exact ⟨_, _, _, _, _, r0, hl.1⟩
          · rw [flS_n (fun z => z.elim a1 (fun z => z.elim a2 (fun z => a4 (by rw [ex]; exact z.2))))]
            have r0 := P225_85_6 (d := d + 2) (x2 := (f : Int)) (x3 := kk) (x4 := st.1) (x5 := st.2.1) (x6 := st.2.2) (x7 := (s : Int)) (x8 := 1) (x9 := x9) (u11 := u11) (g1 := show 0 ≤ (r : Int) ∧ (r : Int) < 6 by omega) (h1 := show J 53 0 ((r : Int).toNat) ≤ (p : Int) by rw [h53]; omega) (h2 := by decide) (c1 := c1) (h3 := a1) (h4 := by omega) (h5 := a3) (h6 := by omega)
            rw [lem_w32k (k := s) (by omega)] at r0
            exact ⟨_, _, _, _, _, r0, hl.1⟩
        · rw [flS_n (fun z => z.elim a1 (fun z => z.elim a2 (fun z => a3 z.1)))]
          have r0 := P225_85_9 (d := d + 2) (x2 := (f : Int)) (x3 := kk) (x4 := st.1) (x5 := st.2.1) (x6 := st.2.2) (x7 := (s : Int)) (x8 := 1) (x9 := x9) (u11 := u11) (g1 := show 0 ≤ (r : Int) ∧ (r : Int) < 6 by omega) (h1 := show J 53 0 ((r : Int).toNat) ≤ (p : Int) by rw [h53]; omega) (h2 := by decide) (c1 := c1) (h3 := a1) (h4 := by omega)
          rw [lem_w32k (k := s) (by omega)] at r0
          exact ⟨_, _, _, _, _, r0, hl.1⟩
  | n + 1, p, J, x9, u11, hp, hl, hg, hx, hz => by
    have h9 := hr.1
    have h53 : J 53 0 ((r : Int).toNat) = I0 53 0 r := hl.1 53 0 r rfl
    have eb := bt_e (s := s) (k := p) hs (by omega)
    have e1 : w32 (9 * (r : Int)) = 9 * (r : Int) := w32_s (by omega)
    have e2 : w32 (9 * (r : Int) + (p : Int)) = ((9 * r + p : Nat) : Int) := by
      rw [w32_s (by omega)]
      omega
    have e52 : J 52 0 (w32 (w32 (9 * (r : Int)) + (p : Int))).toNat = mrw I0 r p := by
      rw [e1, e2, Int.toNat_natCast, hl.1 52 0 _ rfl]
      unfold mrw rvP
      rw [if_pos (by omega), Int.toNat_natCast]
    have g2 : 0 ≤ w32 (w32 (9 * (r : Int)) + (p : Int)) ∧ w32 (w32 (9 * (r : Int)) + (p : Int)) < 54 := by
      rw [e1, e2]
      omega
    by_cases q : s.testBit p = true
    · rw [if_pos q] at eb
      have bad : ¬ gdP (mrw I0 r) f p → flS kk (gdP (mrw I0 r) f) (fun s => moL (fun k => mscW I0 (mrw I0 r k).toNat) (mscW I0 f) s 0 9 1) (fun s => apP (fun k => difP (nM I0 (mrw I0 r k).toNat) (nM I0 f) 0 16 0) s 0 9 0) s st = st := fun ng => flS_x (fun z => ng (z.2 p (by omega) q))
      by_cases c : mrw I0 r p = -1
      · rw [bad (fun z => z.1 c)]
        obtain ⟨a, b, c', e, h⟩ := l225b (d := d) (I := J) (L := L) (t := t) hr6 (by rw [h53] at *; have := hl.1 53 0 r rfl; rw [this]; exact h9) hs (x2 := (f : Int)) (x3 := kk) (x4 := st.1) (x5 := st.2.1) (x6 := st.2.2) (x9 := x9) n (p + 1) (vi (J 52 0 (w32 (w32 (9 * (r : Int)) + (p : Int))).toNat)) (by have := hl.1 53 0 r rfl; omega)
        refine ⟨J, a, b, c', e, Eq.trans (P225_85_3 (g1 := by omega) (h1 := by rw [h53]; omega) (h2 := by rw [eb]; decide) (g2 := g2) (h3 := by decide) (h4 := e52.trans c)) ?_, hl.1⟩
        rw [lem_w32k (k := p) (by omega)]
        exact h
      · by_cases c2 : mrw I0 r p = (f : Int)
        · rw [bad (fun z => z.2 c2)]
          obtain ⟨a, b, c', e, h⟩ := l225b (d := d) (I := J) (L := L) (t := t) hr6 (by have := hl.1 53 0 r rfl; rw [this]; exact h9) hs (x2 := (f : Int)) (x3 := kk) (x4 := st.1) (x5 := st.2.1) (x6 := st.2.2) (x9 := x9) n (p + 1) (vi (J 52 0 (w32 (w32 (9 * (r : Int)) + (p : Int))).toNat)) (by have := hl.1 53 0 r rfl; omega)
          refine ⟨J, a, b, c', e, Eq.trans (P225_85_2 (g1 := by omega) (h1 := by rw [h53]; omega) (h2 := by rw [eb]; decide) (g2 := g2) (h3 := by decide) (h4 := fun z => c (e52.symm.trans z)) (h5 := e52.trans c2)) ?_, hl.1⟩
          rw [lem_w32k (k := p) (by omega)]
          exact h
        · have cb := cB_m (s := s) (p := p + 1) (9 - (p + 1))
          rw [show p + 1 + (9 - (p + 1)) = 9 by omega, cB_s, if_pos q, show cB s 9 = bcP s from rfl, hc] at cb
          obtain ⟨g3, hl'⟩ := lnF_y hl q (by omega) c hr.2
          have hmr := (hr.2 (p : Int)).resolve_left c
          have eN : nM (up3 (up3 J 54 0 (J 12 0 12).toNat (mrw I0 r p)) 12 0 12 (w32 (J 12 0 12 + 1))) = nM I0 := nM_fr hl'.1 (fun _ => rfl)
          have c1 := sp215 (d := d + 2) (f := f) (g := (mrw I0 r p).toNat) (I := up3 (up3 J 54 0 (J 12 0 12).toNat (mrw I0 r p)) 12 0 12 (w32 (J 12 0 12 + 1))) (L := L) (t := t) (by omega) (by omega)
          rw [eN, difP_sym, show (((mrw I0 r p).toNat : Nat) : Int) = mrw I0 r p by omega] at c1
          obtain ⟨J', a, b, c', e, h⟩ := l225a hm hr6 hr hf hs hk8 hc (st := st) n (p + 1) (up3 (up3 J 54 0 (J 12 0 12).toNat (mrw I0 r p)) 12 0 12 (w32 (J 12 0 12 + 1))) (w32 (x9 + difP (nM I0 (mrw I0 r p).toNat) (nM I0 f) 0 16 0)) (vi (J 52 0 (w32 (w32 (9 * (r : Int)) + (p : Int))).toNat)) (by omega) hl' (fun k hk hb => by
            by_cases z : k = p
            · subst z
              exact ⟨c, c2⟩
            · exact hg k (by omega) hb) (by
            rw [hx]
            unfold apP
            rw [fo_e, Nat.zero_add, if_pos q]) hz
          refine ⟨J', a, b, c', e, Eq.trans (P225_85_1 (g1 := by omega) (h1 := by rw [h53]; omega) (h2 := by rw [eb]; decide) (g2 := g2) (h3 := by decide) (h4 := fun z => c (e52.symm.trans z)) (h5 := fun z => c2 (e52.symm.trans z)) (g3 := g3) (c1 := by rw [e52]; exact c1)) ?_, h.2⟩
          rw [lem_w32k (k := p) (by omega)]
          exact h.1
    · rw [if_neg q] at eb
      have qf : s.testBit p = false := Bool.eq_false_iff.mpr q
      obtain ⟨J', a, b, c', e, h⟩ := l225a hm hr6 hr hf hs hk8 hc (st := st) n (p + 1) J x9 u11 (by omega) (lnF_n hl qf) (fun k hk hb => by
        by_cases z : k = p
        · subst z
          exact absurd hb q
        · exact hg k (by omega) hb) (by
        rw [hx]
        unfold apP
        rw [fo_e, Nat.zero_add, if_neg q]) hz
      refine ⟨J', a, b, c', e, Eq.trans (P225_85_0 (g1 := by omega) (h1 := by rw [h53]; omega) (h2 := eb)) ?_, h.2⟩
      rw [lem_w32k (k := p) (by omega)]
      exact h.1
theorem l225 (hm : mdOk I0) (hr6 : r < 6) (hr : mrOk I0 r) {f : Nat} (hf : f < 120) {kk : Int} (hk8 : kk ≤ 8) : ∀ (n s : Nat) (st : Int × Int × Int) (J : H3) (u8 u9 u10 u11 : MV), s + n = 2 ^ (I0 53 0 r).toNat → Fr sLn I0 J →
    ∃ J', Res (d + 4) 225 39 [vr 12 0, vi (r : Int), vi (f : Int), vi kk, vi st.1, vi st.2.1, vi st.2.2, vi (s : Int), u8, u9, u10, u11] [] (mk J L t) = some (vi (fo (flS kk (gdP (mrw I0 r) f) (fun s => moL (fun k => mscW I0 (mrw I0 r k).toNat) (mscW I0 f) s 0 9 1) (fun s => apP (fun k => difP (nM I0 (mrw I0 r k).toNat) (nM I0 f) 0 16 0) s 0 9 0)) s n st).1, mk J' L t) ∧ Fr sLn I0 J'
  | 0, s, st, J, u8, u9, u10, u11, hs, F => by
    have h9 := hr.1
    have h53 : J 53 0 ((r : Int).toNat) = I0 53 0 r := F 53 0 r rfl
    have esh := sh_e (k := (I0 53 0 r).toNat) (by omega)
    rw [show (((I0 53 0 r).toNat : Nat) : Int) = I0 53 0 r by omega] at esh
    exact ⟨J, P225_39_2 (g1 := by omega) (h1 := by rw [h53, esh]; omega), F⟩
  | n + 1, s, st, J, u8, u9, u10, u11, hs, F => by
    have h9 := hr.1
    have h53 : J 53 0 ((r : Int).toNat) = I0 53 0 r := F 53 0 r rfl
    have esh := sh_e (k := (I0 53 0 r).toNat) (by omega)
    rw [show (((I0 53 0 r).toNat : Nat) : Int) = I0 53 0 r by omega] at esh
    have h512 : 2 ^ (I0 53 0 r).toNat ≤ 512 := Nat.pow_le_pow_right (n := 2) (j := 9) (by decide) (by omega)
    have h1 : (s : Int) < vIshl 1 (J 53 0 ((r : Int).toNat)) := by
      rw [h53, esh]
      omega
    have c1 := sp224 (d := d + 3) (s := s) (I := J) (L := L) (t := t) (by omega)
    rw [fo_s]
    by_cases q : bcP s = kk
    · have hl0 := lnF_0 (r := r) (s := s) hm hf F
      obtain ⟨J2, a, b, c, e, h, F2⟩ := l225a (d := d) (L := L) (t := t) hm hr6 hr hf (s := s) (by omega) hk8 q (st := st) (I0 53 0 r).toNat 0 _ 0 u11 (by omega) hl0 (fun k hk => by omega) rfl (fun k hk => Nat.testBit_lt_two_pow (Nat.lt_of_lt_of_le (show s < 2 ^ (I0 53 0 r).toNat by omega) (Nat.pow_le_pow_right (by decide) (by omega))))
      obtain ⟨J3, h3, F3⟩ := l225 hm hr6 hr hf hk8 n (s + 1) (flS kk (gdP (mrw I0 r) f) (fun s => moL (fun k => mscW I0 (mrw I0 r k).toNat) (mscW I0 f) s 0 9 1) (fun s => apP (fun k => difP (nM I0 (mrw I0 r k).toNat) (nM I0 f) 0 16 0) s 0 9 0) s st) J2 a b c e (by omega) F2
      exact ⟨J3, Eq.trans (P225_39_1 (g1 := by omega) (h1 := h1) (c1 := c1) (h2 := q)) (Eq.trans h h3), F3⟩
    · rw [flS_x (fun z => q z.1)]
      obtain ⟨J3, h3, F3⟩ := l225 hm hr6 hr hf hk8 n (s + 1) st J u8 u9 u10 u11 (by omega) F
      refine ⟨J3, Eq.trans (P225_39_0 (g1 := by omega) (h1 := h1) (c1 := c1) (h2 := q)) ?_, F3⟩
      rw [lem_w32k (k := s) (by omega)]
      exact h3
theorem fl_all {rv : Int → Int} {f kk n : Int} {mo ap : Nat → Int} (h9 : 0 ≤ n ∧ n ≤ 9) (hk : 1 ≤ kk) (hv : ∀ k : Nat, n ≤ k → rv k = -1) (st : Int × Int × Int) : fo (flS kk (gdP rv f) mo ap) 0 (2 ^ n.toNat) st = fo (flS kk (gdP rv f) mo ap) 1 511 st := by
  have h512 : 2 ^ n.toNat ≤ 512 := Nat.pow_le_pow_right (n := 2) (j := 9) (by decide) (by omega)
  have a1 : fo (flS kk (gdP rv f) mo ap) 0 512 st = fo (flS kk (gdP rv f) mo ap) 1 511 st := by
    rw [fo_s, flS_x (fun z => by
      have z1 : (0 : Int) = kk := z.1
      omega)]
  have a2 := fo_add (flS kk (gdP rv f) mo ap) (2 ^ n.toNat) (512 - 2 ^ n.toNat) 0 st
  rw [show 2 ^ n.toNat + (512 - 2 ^ n.toNat) = 512 by omega] at a2
  rw [← a1, a2]
  refine (fo_id _ _ _ (fun s b h1 h2 => flS_x (fun z => ?_))).symm
  obtain ⟨i, hi, hb⟩ := Nat.exists_ge_and_testBit_of_ge_two_pow (x := s) (n := n.toNat) (by omega)
  have hi9 : i < 9 := by
    by_cases z : i < 9
    · exact z
    · have := Nat.testBit_lt_two_pow (x := s) (i := i) (Nat.lt_of_lt_of_le (show s < 512 by omega) (Nat.pow_le_pow_right (n := 2) (by decide) (show 9 ≤ i by omega)))
      rw [this] at hb
      cases hb
  exact (z.2 i hi9 hb).1 (hv i (by omega))
theorem sp225 (h : Rel I t) (x f kk : Int) : ∃ J, Cal (d + 50) 225 [vr 12 0, vi x, vi f, vi kk] (mk I L t) = some (vi (flV (I 12 0 1) (mrw I) (mscW I) (fun a b => difP (nM I a) (nM I b) 0 16 0) x f kk), mk J L t) ∧ Fr sLn I J := by
  have hf := h.pF.1
  have ef := h.pF.2.1
  unfold flV
  by_cases a : 0 ≤ x ∧ x < 6
  · by_cases b : 0 ≤ f ∧ f < I 12 0 1
    · by_cases c : 1 ≤ kk ∧ kk ≤ 8
      · rw [if_pos ⟨a, b, c⟩]
        obtain ⟨g, rfl⟩ : ∃ g : Nat, f = (g : Int) := ⟨f.toNat, by omega⟩
        obtain ⟨y, rfl⟩ : ∃ y : Nat, x = (y : Int) := ⟨x.toNat, by omega⟩
        rw [Int.toNat_natCast, Int.toNat_natCast]
        have hr := (h.rw' (r := y) (by omega)).2.1
        obtain ⟨J, hl, F⟩ := l225 (d := d + 46) (L := L) (t := t) h.md (r := y) (by omega) hr (f := g) (by omega) c.2 (2 ^ (I 53 0 y).toNat) 0 (-1, 0, 0) I vx vx vx vx (by omega) Fr.rfl'
        refine ⟨J, Eq.trans (P225_0_3 (d := d + 48) (h1 := a) (g1 := by omega) (h2 := b) (h3 := c)) (Eq.trans hl ?_), F⟩
        rw [fl_all hr.1 c.1 (fun k hk => by
          unfold mrw
          exact rvP_neg (by omega))]
      · rw [if_neg (fun q => c q.2.2)]
        exact ⟨I, P225_0_2 (d := d + 48) (h1 := a) (g1 := by omega) (h2 := b) (h3 := c), Fr.rfl'⟩
    · rw [if_neg (fun q => b q.2.1)]
      exact ⟨I, P225_0_1 (d := d + 48) (h1 := a) (g1 := by omega) (h2 := b), Fr.rfl'⟩
  · rw [if_neg (fun q => a q.1)]
    exact ⟨I, P225_0_0 (d := d + 48) (h1 := a), Fr.rfl'⟩
end FILLM
theorem flS_cg {kk : Int} {gd : Nat → Prop} {mo mo' ap ap' : Nat → Int} {s : Nat} {st : Int × Int × Int} (h : (∀ k, k < 9 → s.testBit k = true → gd k) → mo s = mo' s ∧ ap s = ap' s) : flS kk gd mo ap s st = flS kk gd mo' ap' s st := by
  by_cases q : bcP s = kk ∧ ∀ k, k < 9 → s.testBit k = true → gd k
  · obtain ⟨h1, h2⟩ := h q.2
    unfold flS
    rw [if_pos q, if_pos q, h1, h2]
  · rw [flS_x q, flS_x q]
theorem both_fillers (x f kk : Int) : Both 94 225 [vi x, vi f, vi kk] := by
  refine both_q (fun I t => flV (I 11 0 10) (rv I) (scW I t) (fun a b => difP (I 22 a) (I 22 b) 0 16 0) x f kk) (fun I => flV (I 12 0 1) (mrw I) (mscW I) (fun a b => difP (nM I a) (nM I b) 0 16 0) x f kk) (fun d I L t h => ?_) (fun d I L t h => ?_) (fun I t h => ?_) (fun I J => rfl)
  · obtain ⟨J, c, F⟩ := sp94 (d := d) (L := L) h x f kk
    exact ⟨J, L, c, sT_q F, sT_K F⟩
  · obtain ⟨J, c, F⟩ := sp225 (d := d) (L := L) h x f kk
    exact ⟨J, c, sMs_q (sLn_s F)⟩
  · have hf := h.pF.1
    show flV (I 11 0 10) (rv I) (scW I t) (fun a b => difP (I 22 a) (I 22 b) 0 16 0) x f kk = flV (I 12 0 1) (mrw I) (mscW I) (fun a b => difP (nM I a) (nM I b) 0 16 0) x f kk
    rw [h.pF.2.1]
    unfold flV
    by_cases a : (0 ≤ x ∧ x < 6) ∧ (0 ≤ f ∧ f < I 11 0 10) ∧ 1 ≤ kk ∧ kk ≤ 8
    · have hr := h.rw' (r := x.toNat) (by omega)
      rw [if_pos a, if_pos a, hr.2.2]
      refine congrArg Prod.fst (fo_cg _ _ _ (fun s b _ _ => flS_cg (fun hg => ?_)))
      have hk : ∀ k, k < 9 → s.testBit k = true → (rv I x.toNat k).toNat < 120 := fun k hk hb => by
        have := (hr.1.2 (k : Int)).resolve_left (hg k hk hb).1
        have e : rv I x.toNat k = rvP (I 4 x.toNat 1) (I 30 x.toNat) k := rfl
        omega
      refine ⟨?_, ?_⟩
      · rw [h.esc (show f.toNat < 120 by omega)]
        exact moL_cg 9 0 1 (fun j _ hj hb => (h.esc (hk j (by omega) hb)).symm)
      · refine apP_cg (fun j _ hj hb => ?_)
        exact (difP_cg (h.pF.2.2.1 _ (hk j (by omega) hb)).2.1 (h.pF.2.2.1 f.toNat (by omega)).2.1 (by decide)).symm
    · rw [if_neg a, if_neg a]
