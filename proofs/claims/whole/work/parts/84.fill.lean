/-! fillers: pure -/
def gdP (rv : Int → Int) (f : Int) (k : Nat) : Prop := rv k ≠ -1 ∧ rv k ≠ f
def apP (ap : Nat → Int) (s : Nat) : Nat → Nat → Int → Int := fo (fun k a => if s.testBit k then w32 (a + ap k) else a)
def moL (pt : Nat → Int) (own : Int) (s : Nat) : Nat → Nat → Int → Int
  | _, 0, a => if a ≤ 0 then 0 else vIdiv 1000000 a
  | k, n + 1, a => if s.testBit k then (if own < pt k then 0 else moL pt own s (k + 1) n (if pt k = own then a + 1 else a)) else moL pt own s (k + 1) n a
theorem apP_cg {ap ap' : Nat → Int} {s : Nat} {n k : Nat} {a : Int} (h : ∀ j, k ≤ j → j < k + n → s.testBit j = true → ap j = ap' j) : apP ap s k n a = apP ap' s k n a := fo_cg n k a (fun j b h1 h2 => by
  by_cases q : s.testBit j = true
  · rw [if_pos q, if_pos q, h j h1 h2 q]
  · rw [if_neg q, if_neg q])
theorem moL_cg {pt pt' : Nat → Int} {own : Int} {s : Nat} : ∀ (n k : Nat) (a : Int), (∀ j, k ≤ j → j < k + n → s.testBit j = true → pt j = pt' j) → moL pt own s k n a = moL pt' own s k n a
  | 0, _, _, _ => rfl
  | n + 1, k, a, h => by
    have ih := fun a => moL_cg (own := own) n (k + 1) a (fun j h1 h2 q => h j (by omega) (by omega) q)
    show (if s.testBit k then (if own < pt k then 0 else moL pt own s (k + 1) n (if pt k = own then a + 1 else a)) else moL pt own s (k + 1) n a) = if s.testBit k then (if own < pt' k then 0 else moL pt' own s (k + 1) n (if pt' k = own then a + 1 else a)) else moL pt' own s (k + 1) n a
    by_cases q : s.testBit k = true
    · rw [if_pos q, if_pos q, h k (Nat.le_refl _) (by omega) q, ih]
    · rw [if_neg q, if_neg q, ih]
/-- the set that is best yet -/
noncomputable def flS (kk : Int) (gd : Nat → Prop) (mo ap : Nat → Int) (s : Nat) (st : Int × Int × Int) : Int × Int × Int :=
  @ite _ (bcP s = kk ∧ ∀ k, k < 9 → s.testBit k = true → gd k) (Classical.propDecidable _) (if st.1 = -1 ∨ mo s < st.2.1 ∨ (mo s = st.2.1 ∧ ap s < st.2.2) then ((s : Int), mo s, ap s) else st) st
theorem flS_y {kk : Int} {gd : Nat → Prop} {mo ap : Nat → Int} {s : Nat} {st : Int × Int × Int} (h1 : bcP s = kk) (h2 : ∀ k, k < 9 → s.testBit k = true → gd k) (h : st.1 = -1 ∨ mo s < st.2.1 ∨ (mo s = st.2.1 ∧ ap s < st.2.2)) : flS kk gd mo ap s st = ((s : Int), mo s, ap s) := by
  unfold flS
  rw [if_pos ⟨h1, h2⟩, if_pos h]
theorem flS_n {kk : Int} {gd : Nat → Prop} {mo ap : Nat → Int} {s : Nat} {st : Int × Int × Int} (h : ¬ (st.1 = -1 ∨ mo s < st.2.1 ∨ (mo s = st.2.1 ∧ ap s < st.2.2))) : flS kk gd mo ap s st = st := by
  unfold flS
  by_cases q : bcP s = kk ∧ ∀ k, k < 9 → s.testBit k = true → gd k
  · rw [if_pos q, if_neg h]
  · rw [if_neg q]
theorem flS_x {kk : Int} {gd : Nat → Prop} {mo ap : Nat → Int} {s : Nat} {st : Int × Int × Int} (h : ¬ (bcP s = kk ∧ ∀ k, k < 9 → s.testBit k = true → gd k)) : flS kk gd mo ap s st = st := by
  unfold flS
  rw [if_neg h]
/-- what fillers answers -/
noncomputable def flV (nf : Int) (rvs : Nat → Int → Int) (sc : Nat → Int) (D : Nat → Nat → Int) (r f kk : Int) : Int :=
  if (0 ≤ r ∧ r < 6) ∧ (0 ≤ f ∧ f < nf) ∧ (1 ≤ kk ∧ kk ≤ 8) then (fo (flS kk (gdP (rvs r.toNat) f) (fun s => moL (fun k => sc (rvs r.toNat k).toNat) (sc f.toNat) s 0 9 1) (fun s => apP (fun k => D (rvs r.toNat k).toNat f.toNat) s 0 9 0)) 1 511 (-1, 0, 0)).1 else -1
section FILLC
variable {d r : Nat} {I0 I L : H3} {t : Nat → Nat}
def sFl (r _ _ : Nat) : Bool := r == 17 || r == 18
theorem sFl_T {I J : H3} (h : Fr sFl I J) : Fr sT I J := h.mo (fun r i c k => by
  unfold sT at k
  unfold sFl
  simp only [Bool.or_eq_false_iff] at k ⊢
  exact ⟨k.1.1.1.1.1.2, k.1.1.1.1.2⟩)
theorem l130 (h : sdOk I0 (t 10)) (hr : rwOk I0 r) (hF : fcOk I0) {f : Nat} (hf : f < 120) : ∀ (n k o : Nat) (I : H3) (u5 : MV), k + n = 9 → Fr sFl I0 I → o < 512 → (∀ j, o.testBit j = true ↔ j < k ∧ gdP (rv I0 r) f j) → (∀ j, j < k → gdP (rv I0 r) f j → I 17 0 j = scW I0 t (rv I0 r j).toNat ∧ I 18 0 j = difP (I0 22 (rv I0 r j).toNat) (I0 22 f) 0 16 0) →
    ∃ J o', Res (d + 3) 130 5 [vr 11 0, vr 4 r, vi (f : Int), vi (o : Int), vi (k : Int), u5] [] (mk I L t) = some (vi ((o' : Nat) : Int), mk J L t) ∧ Fr sFl I0 J ∧ o' < 512 ∧ (∀ j, o'.testBit j = true ↔ j < 9 ∧ gdP (rv I0 r) f j) ∧ ∀ j, j < 9 → gdP (rv I0 r) f j → J 17 0 j = scW I0 t (rv I0 r j).toNat ∧ J 18 0 j = difP (I0 22 (rv I0 r j).toNat) (I0 22 f) 0 16 0
  | 0, k, o, I, u5, hk, F, ho, hb, hv => by
    have h9 : k = 9 := by omega
    subst h9
    exact ⟨I, o, P130_5_3 (by decide), F, ho, hb, hv⟩
  | n + 1, k, o, I, u5, hk, F, ho, hb, hv => by
    have e4 : I 4 = I0 4 := F.rg (fun _ _ => rfl)
    have e30 : I 30 = I0 30 := F.rg (fun _ _ => rfl)
    have e22 : I 22 = I0 22 := F.rg (fun _ _ => rfl)
    have erv : rvP (I 4 r 1) (I 30 r) (k : Int) = rv I0 r (k : Int) := by
      rw [e4, e30]
      rfl
    have g1 : I 4 r 1 ≤ 9 := by rw [e4]; exact hr.1
    have hbd := hr.2 (k : Int)
    have skip : ¬ gdP (rv I0 r) f k → ∀ u5, ∃ J o', Res (d + 3) 130 5 [vr 11 0, vr 4 r, vi (f : Int), vi (o : Int), vi (w32 ((k : Int) + 1)), u5] [] (mk I L t) = some (vi ((o' : Nat) : Int), mk J L t) ∧ Fr sFl I0 J ∧ o' < 512 ∧ (∀ j, o'.testBit j = true ↔ j < 9 ∧ gdP (rv I0 r) f j) ∧ ∀ j, j < 9 → gdP (rv I0 r) f j → J 17 0 j = scW I0 t (rv I0 r j).toNat ∧ J 18 0 j = difP (I0 22 (rv I0 r j).toNat) (I0 22 f) 0 16 0 := fun ng u5 => by
      rw [lem_w32k (by omega)]
      refine l130 h hr hF hf n (k + 1) o I u5 (by omega) F ho (fun j => ?_) (fun j hj hg => ?_)
      · rw [hb j]
        constructor
        · rintro ⟨a, b⟩
          exact ⟨by omega, b⟩
        · rintro ⟨a, b⟩
          refine ⟨?_, b⟩
          by_cases q : j = k
          · subst q
            exact absurd b ng
          · omega
      · by_cases q : j = k
        · subst q
          exact absurd hg ng
        · exact hv j (by omega) hg
    by_cases c : rv I0 r (k : Int) = -1
    · obtain ⟨J, o', hr', hJ⟩ := skip (fun z => z.1 c) (vi (rvP (I 4 r 1) (I 30 r) (k : Int)))
      exact ⟨J, o', Eq.trans (P130_5_2 (h1 := by omega) (g1 := g1) (h2 := erv.trans c)) hr', hJ⟩
    · by_cases c2 : rv I0 r (k : Int) = (f : Int)
      · obtain ⟨J, o', hr', hJ⟩ := skip (fun z => z.2 c2) (vi (rvP (I 4 r 1) (I 30 r) (k : Int)))
        exact ⟨J, o', Eq.trans (P130_5_1 (h1 := by omega) (g1 := g1) (h2 := fun z => c (erv.symm.trans z)) (h3 := erv.trans c2)) hr', hJ⟩
      · have hg : 0 ≤ rv I0 r (k : Int) ∧ rv I0 r (k : Int) < 120 := hbd.resolve_left c
        have hsd : sdOk I (t 10) := by
          unfold sdOk
          rw [F.rg (r := 5) (fun _ _ => rfl), F.rg (r := 31) (fun _ _ => rfl)]
          exact h
        have c1 := sp31 (d := d) (k := t 10) (f := (rv I0 r (k : Int)).toNat) (L := L) (t := t) hsd
        have esc : soN (I 5 (t 10) 3) (I 31 (t 10)) (I 32 (t 10)) (I 33 (t 10)) (I 22 (rv I0 r (k : Int)).toNat) = scW I0 t (rv I0 r (k : Int)).toNat := by
          unfold scW
          rw [F.rg (r := 5) (fun _ _ => rfl), F.rg (r := 31) (fun _ _ => rfl), F.rg (r := 32) (fun _ _ => rfl), F.rg (r := 33) (fun _ _ => rfl), e22]
        rw [esc] at c1
        have F1 : Fr sFl I0 (up3 I 17 0 k (scW I0 t (rv I0 r (k : Int)).toNat)) := F.up rfl
        have e22' : up3 I 17 0 k (scW I0 t (rv I0 r (k : Int)).toNat) 22 = I0 22 := F1.rg (fun _ _ => rfl)
        have c2' := sp11 (d := d + 1) (f := (rv I0 r (k : Int)).toNat) (g := f) (I := up3 I 17 0 k (scW I0 t (rv I0 r (k : Int)).toNat)) (L := L) (t := t) (by rw [e22']; exact hF _ (by omega)) (by rw [e22']; exact hF f hf)
        rw [e22'] at c2'
        have F2 : Fr sFl I0 (up3 (up3 I 17 0 k (scW I0 t (rv I0 r (k : Int)).toNat)) 18 0 k (difP (I0 22 (rv I0 r (k : Int)).toNat) (I0 22 f) 0 16 0)) := F1.up rfl
        obtain ⟨J, o', hr', hJ⟩ := l130 h hr hF hf n (k + 1) (o ||| 2 ^ k) _ (vi (rvP (I 4 r 1) (I 30 r) (k : Int))) (by omega) F2 (or_lt ho (by omega)) (fun j => by
          rw [or_t, Bool.or_eq_true, hb j, decide_eq_true_eq]
          constructor
          · rintro (⟨a, b⟩ | a)
            · exact ⟨by omega, b⟩
            · subst a
              exact ⟨by omega, c, c2⟩
          · rintro ⟨a, b⟩
            by_cases q : k = j
            · exact Or.inr q
            · exact Or.inl ⟨by omega, b⟩) (fun j hj hgd => by
          by_cases q : j = k
          · subst q
            rw [up_r (show (17 : Nat) ≠ 18 by decide), up_e, up_e]
            exact ⟨rfl, rfl⟩
          · rw [up_r (show (17 : Nat) ≠ 18 by decide), up_s q, up_s q, up_r (show (18 : Nat) ≠ 17 by decide)]
            exact hv j (by omega) hgd)
        refine ⟨J, o', Eq.trans (P130_5_0 (h1 := by omega) (g1 := g1) (h2 := fun z => c (erv.symm.trans z)) (h3 := fun z => c2 (erv.symm.trans z)) (g2 := by rw [erv]; exact hg) (c1 := by rw [erv]; exact c1) (g3 := by omega) (g4 := by omega) (c2 := by rw [erv]; exact c2')) ?_, hJ⟩
        rw [lem_w32k (by omega), or_e ho (by omega)]
        exact hr'
theorem sp130 (h : sdOk I (t 10)) (hr : rwOk I r) (hF : fcOk I) {f : Nat} (hf : f < 120) : ∃ J o', Cal (d + 3) 130 [vr 11 0, vr 4 r, vi (f : Int)] (mk I L t) = some (vi ((o' : Nat) : Int), mk J L t) ∧ Fr sFl I J ∧ o' < 512 ∧ (∀ j, o'.testBit j = true ↔ j < 9 ∧ gdP (rv I r) f j) ∧ ∀ j, j < 9 → gdP (rv I r) f j → J 17 0 j = scW I t (rv I r j).toNat ∧ J 18 0 j = difP (I 22 (rv I r j).toNat) (I 22 f) 0 16 0 := by
  obtain ⟨J, o', hr', hJ⟩ := l130 (d := d) (L := L) h hr hF hf 9 0 0 I vx rfl Fr.rfl' (by decide) (fun j => by
    rw [Nat.zero_testBit]
    constructor
    · intro z
      cases z
    · rintro ⟨a, b⟩
      omega) (fun j hj => by omega)
  exact ⟨J, o', Eq.trans P130_0_0 hr', hJ⟩
theorem l4 {s : Nat} (hs : s < 512) {own : Int} : ∀ (n k : Nat) (a : Int), k + n = 9 → 0 ≤ a → a ≤ 100 + k → Res d 4 5 [vr 0 0, vi (s : Int), vi own, vi a, vi (k : Int)] [] (mk I L t) = some (vi (moL (I 17 0) own s k n a), mk I L t)
  | 0, k, a, hk, h0, h1 => by
    show _ = some (vi (if a ≤ 0 then 0 else vIdiv 1000000 a), _)
    by_cases q : a ≤ 0
    · rw [if_pos q]
      exact P4_5_4 (h1 := by omega) (h2 := q)
    · rw [if_neg q]
      exact P4_5_5 (h1 := by omega) (h2 := by omega) (g1 := by omega)
  | n + 1, k, a, hk, h0, h1 => by
    have eb := bt_e (s := s) (k := k) hs (by omega)
    show _ = some (vi (if s.testBit k then (if own < I 17 0 k then 0 else moL (I 17 0) own s (k + 1) n (if I 17 0 k = own then a + 1 else a)) else moL (I 17 0) own s (k + 1) n a), _)
    by_cases q : s.testBit k = true
    · rw [if_pos q] at eb ⊢
      by_cases q1 : own < I 17 0 k
      · rw [if_pos q1]
        exact P4_5_0 (h1 := by omega) (h2 := eb) (g1 := by omega) (h3 := q1)
      · rw [if_neg q1]
        by_cases q2 : I 17 0 k = own
        · rw [if_pos q2]
          refine Eq.trans (P4_5_1 (h1 := by omega) (h2 := eb) (g1 := by omega) (h3 := Int.not_lt.mp q1) (h4 := q2)) ?_
          rw [lem_w32k (by omega), w32_s (by omega)]
          exact l4 hs n (k + 1) (a + 1) (by omega) (by omega) (by omega)
        · rw [if_neg q2]
          refine Eq.trans (P4_5_2 (h1 := by omega) (h2 := eb) (g1 := by omega) (h3 := Int.not_lt.mp q1) (h4 := q2)) ?_
          rw [lem_w32k (by omega), Int.add_zero, w32_s (by omega)]
          exact l4 hs n (k + 1) a (by omega) (by omega) (by omega)
    · rw [if_neg q] at eb ⊢
      refine Eq.trans (P4_5_3 (h1 := by omega) (h2 := by rw [eb]; decide)) ?_
      rw [lem_w32k (by omega)]
      exact l4 hs n (k + 1) a (by omega) (by omega) (by omega)
theorem sp4 {s : Nat} (hs : s < 512) {own : Int} : Cal d 4 [vr 0 0, vi (s : Int), vi own] (mk I L t) = some (vi (moL (I 17 0) own s 0 9 1), mk I L t) := Eq.trans P4_0_0 (l4 hs 9 0 1 rfl (by decide) (by decide))
theorem l5 {s : Nat} (hs : s < 512) : ∀ (n k : Nat) (a : Int), k + n = 9 → w32 a = a → Res d 5 4 [vr 0 0, vi (s : Int), vi a, vi (k : Int)] [] (mk I L t) = some (vi (apP (I 18 0) s k n a), mk I L t)
  | 0, k, a, hk, h0 => P5_4_2 (by omega)
  | n + 1, k, a, hk, h0 => by
    have eb := bt_e (s := s) (k := k) hs (by omega)
    unfold apP
    rw [fo_s]
    by_cases q : s.testBit k = true
    · rw [if_pos q] at eb ⊢
      refine Eq.trans (P5_4_0 (h1 := by omega) (h2 := eb) (g1 := by omega)) ?_
      rw [lem_w32k (by omega)]
      exact l5 hs n (k + 1) _ (by omega) (by unfold w32; rw [Int32.ofInt_toInt])
    · rw [if_neg q] at eb ⊢
      refine Eq.trans (P5_4_1 (h1 := by omega) (h2 := by rw [eb]; decide)) ?_
      rw [lem_w32k (by omega), Int.add_zero, h0]
      exact l5 hs n (k + 1) a (by omega) h0
theorem sp5 {s : Nat} (hs : s < 512) : Cal d 5 [vr 0 0, vi (s : Int)] (mk I L t) = some (vi (apP (I 18 0) s 0 9 0), mk I L t) := Eq.trans P5_0_0 (l5 hs 9 0 0 rfl rfl)
theorem l94 {o : Nat} (ho : o < 512) {gd : Nat → Prop} (hgd : ∀ j, o.testBit j = true ↔ j < 9 ∧ gd j) {own kk : Int} {mo ap : Nat → Int} (hm : ∀ s, (∀ k, k < 9 → s.testBit k = true → gd k) → moL (I 17 0) own s 0 9 1 = mo s ∧ apP (I 18 0) s 0 9 0 = ap s) {x1 x2 : Int} : ∀ (n s : Nat) (st : Int × Int × Int) (u10 u11 : MV), s + n = 512 →
    Res (d + 2) 94 74 [vr 11 0, vi x1, vi x2, vi kk, vi (o : Int), vi own, vi st.1, vi st.2.1, vi st.2.2, vi (s : Int), u10, u11] [] (mk I L t) = some (vi (fo (flS kk gd mo ap) s n st).1, mk I L t)
  | 0, s, st, u10, u11, hs => P94_74_7 (by omega)
  | n + 1, s, st, u10, u11, hs => by
    have c1 := sp244 (d := d + 1) (s := s) (I := I) (L := L) (t := t) (by omega)
    have ea := and_e (s := s) (o := o) (by omega) ho
    rw [fo_s]
    by_cases q : bcP s = kk
    · by_cases q2 : ∀ k, k < 9 → s.testBit k = true → gd k
      · have h0 : vIand (s : Int) (vIxor (o : Int) (-1)) = 0 := ea.mpr (fun k hk hb => (hgd k).mpr ⟨hk, q2 k hk hb⟩)
        obtain ⟨m1, m2⟩ := hm s q2
        have c2 := sp4 (d := d + 1) (I := I) (L := L) (t := t) (s := s) (by omega) (own := own)
        have c3 := sp5 (d := d + 1) (I := I) (L := L) (t := t) (s := s) (by omega)
        rw [m1] at c2
        rw [m2] at c3
        by_cases a1 : st.1 = -1
        · rw [flS_y q q2 (Or.inl a1)]
          refine Eq.trans (P94_74_5 (h1 := by omega) (c1 := c1) (h2 := q) (h3 := h0) (c2 := c2) (c3 := c3) (h4 := a1)) ?_
          rw [lem_w32k (by omega)]
          exact l94 ho hgd hm n (s + 1) ((s : Int), mo s, ap s) _ _ (by omega)
        · by_cases a2 : mo s < st.2.1
          · rw [flS_y q q2 (Or.inr (Or.inl a2))]
            refine Eq.trans (P94_74_4 (h1 := by omega) (c1 := c1) (h2 := q) (h3 := h0) (c2 := c2) (c3 := c3) (h4 := a1) (h5 := a2)) ?_
            rw [lem_w32k (by omega)]
            exact l94 ho hgd hm n (s + 1) ((s : Int), mo s, ap s) _ _ (by omega)
          · by_cases a3 : mo s = st.2.1
            · by_cases a4 : ap s < st.2.2
              · rw [flS_y q q2 (Or.inr (Or.inr ⟨a3, a4⟩))]
                refine Eq.trans (P94_74_1 (h1 := by omega) (c1 := c1) (h2 := q) (h3 := h0) (c2 := c2) (c3 := c3) (h4 := a1) (h5 := Int.not_lt.mp a2) (h6 := a3) (h7 := a4)) ?_
                rw [lem_w32k (by omega)]
                exact l94 ho hgd hm n (s + 1) ((s : Int), mo s, ap s) _ _ (by omega)
              · rw [flS_n (fun z => z.elim a1 (fun z => z.elim a2 (fun z => a4 z.2)))]
                refine Eq.trans (P94_74_2 (h1 := by omega) (c1 := c1) (h2 := q) (h3 := h0) (c2 := c2) (c3 := c3) (h4 := a1) (h5 := Int.not_lt.mp a2) (h6 := a3) (h7 := Int.not_lt.mp a4)) ?_
                rw [lem_w32k (by omega)]
                exact l94 ho hgd hm n (s + 1) st _ _ (by omega)
            · rw [flS_n (fun z => z.elim a1 (fun z => z.elim a2 (fun z => a3 z.1)))]
              refine Eq.trans (P94_74_3 (h1 := by omega) (c1 := c1) (h2 := q) (h3 := h0) (c2 := c2) (c3 := c3) (h4 := a1) (h5 := Int.not_lt.mp a2) (h6 := a3)) ?_
              rw [lem_w32k (by omega)]
              exact l94 ho hgd hm n (s + 1) st _ _ (by omega)
      · have h0 : ¬ vIand (s : Int) (vIxor (o : Int) (-1)) = 0 := fun z => q2 (fun k hk hb => ((hgd k).mp (ea.mp z k hk hb)).2)
        rw [flS_x (fun z => q2 z.2)]
        refine Eq.trans (P94_74_0 (h1 := by omega) (c1 := c1) (h2 := q) (h3 := h0)) ?_
        rw [lem_w32k (by omega)]
        exact l94 ho hgd hm n (s + 1) st _ _ (by omega)
    · rw [flS_x (fun z => q z.1)]
      refine Eq.trans (P94_74_6 (h1 := by omega) (c1 := c1) (h2 := q)) ?_
      rw [lem_w32k (by omega)]
      exact l94 ho hgd hm n (s + 1) st _ _ (by omega)
theorem sp94 (h : Rel I t) (x f kk : Int) : ∃ J, Cal (d + 50) 94 [vr 11 0, vi x, vi f, vi kk] (mk I L t) = some (vi (flV (I 11 0 10) (rv I) (scW I t) (fun a b => difP (I 22 a) (I 22 b) 0 16 0) x f kk), mk J L t) ∧ Fr sT I J := by
  have hf := h.pF.1
  unfold flV
  by_cases a : 0 ≤ x ∧ x < 6
  · by_cases b : 0 ≤ f ∧ f < I 11 0 10
    · by_cases c : 1 ≤ kk ∧ kk ≤ 8
      · rw [if_pos ⟨a, b, c⟩]
        obtain ⟨g, rfl⟩ : ∃ g : Nat, f = (g : Int) := ⟨f.toNat, by omega⟩
        have hr := (h.rw' (r := x.toNat) (by omega)).1
        obtain ⟨J, o, c1, F, ho, hb, hv⟩ := sp130 (d := d + 46) (L := L) (t := t) h.sd hr h.fc (f := g) (by omega)
        have hsd : sdOk J (t 10) := by
          unfold sdOk
          rw [F.rg (r := 5) (fun _ _ => rfl), F.rg (r := 31) (fun _ _ => rfl)]
          exact h.sd
        have c2 := sp31 (d := d + 47) (k := t 10) (f := g) (L := L) (t := t) hsd
        have esc : soN (J 5 (t 10) 3) (J 31 (t 10)) (J 32 (t 10)) (J 33 (t 10)) (J 22 g) = scW I t g := by
          unfold scW
          rw [F.rg (r := 5) (fun _ _ => rfl), F.rg (r := 31) (fun _ _ => rfl), F.rg (r := 32) (fun _ _ => rfl), F.rg (r := 33) (fun _ _ => rfl), F.rg (r := 22) (fun _ _ => rfl)]
        rw [esc] at c2
        have hl := l94 (d := d + 48) (I := J) (L := L) (t := t) ho hb (own := scW I t g) (kk := kk) (mo := fun s => moL (fun k => scW I t (rv I x.toNat k).toNat) (scW I t g) s 0 9 1) (ap := fun s => apP (fun k => difP (I 22 (rv I x.toNat k).toNat) (I 22 g) 0 16 0) s 0 9 0) (fun s hs => ⟨moL_cg 9 0 1 (fun j _ h2 q => (hv j (by omega) (hs j (by omega) q)).1), apP_cg (fun j _ h2 q => (hv j (by omega) (hs j (by omega) q)).2)⟩) (x1 := x) (x2 := (g : Int)) 511 1 (-1, 0, 0) vx vx rfl
        refine ⟨J, Eq.trans (P94_0_3 (d := d + 48) (h1 := a) (g1 := by omega) (h2 := b) (h3 := c) (c1 := c1) (g2 := by omega) (c2 := c2)) hl, sFl_T F⟩
      · rw [if_neg (fun q => c q.2.2)]
        exact ⟨I, P94_0_2 (d := d + 48) (h1 := a) (g1 := by omega) (h2 := b) (h3 := c), Fr.rfl'⟩
    · rw [if_neg (fun q => b q.2.1)]
      exact ⟨I, P94_0_1 (d := d + 48) (h1 := a) (g1 := by omega) (h2 := b), Fr.rfl'⟩
  · rw [if_neg (fun q => a q.1)]
    exact ⟨I, P94_0_0 (d := d + 48) (h1 := a), Fr.rfl'⟩
end FILLC
