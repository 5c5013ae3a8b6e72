/-! the class: replays, two witnesses -/
theorem waP_2 {A : Nat → (Nat → Int) → Int} {G : Int → Nat → Int} {ty : Nat → Int} : ∀ (n : Nat) (s : (Nat → Int) × Int), 0 ≤ s.2 → s.2 + n ≤ 1000000 → (waP (dayP A G ty) n s).2 = s.2 + n
  | 0, s, _, _ => by
    show s.2 = s.2 + ((0 : Nat) : Int)
    omega
  | n + 1, s, h0, h1 => by
    have e : (dayP A G ty s).2 = s.2 + 1 := w32_s (by omega)
    show (waP (dayP A G ty) n (dayP A G ty s)).2 = _
    rw [waP_2 n (dayP A G ty s) (by rw [e]; omega) (by rw [e]; omega), e]
    omega
abbrev SS : Type := (Nat → Int) × Int
/-- deeds done again, until deed i -/
def rpF (own : Nat → Prop) (dec : ∀ k, Decidable (own k)) (x dy : Nat → Int) (wt : Int → SS → SS) (rep : Int → SS → SS) (i : Int) : Nat → Nat → SS → SS
  | _, 0, s => s
  | k, n + 1, s => @ite _ (own k) (dec k) (if x k = i then wt (dy k) s else rpF own dec x dy wt rep i (k + 1) n (rep (x k) (wt (dy k) s))) (rpF own dec x dy wt rep i (k + 1) n s)
/-- whose a deed is -/
def whD (I : H3) (x : Int) : Int := if 0 ≤ x ∧ x < I 11 0 13 then I 6 x.toNat 1 else if 0 ≤ -1 - x ∧ -1 - x < I 11 0 10 then I 1 (-1 - x).toNat 2 else -1
/-- days go by until a day -/
def wtD (A : Nat → (Nat → Int) → Int) (G : Int → Nat → Int) (ty : Nat → Int) (sight : Int) (day : Int) (s : SS) : SS := waP (dayP A G ty) (day - sight - s.2).toNat s
/-- a deed done again -/
def rpD (I : H3) (t : Nat → Nat) (w : Nat) (without : Int) (x : Int) (s : SS) : SS :=
  if 0 ≤ -1 - x ∧ -1 - x < I 11 0 10 then (pulP (aW I t w 3 (gvS I w (I 3 w 8) s.2)) (I 22 (-1 - x).toNat) s.1, s.2)
  else if (0 ≤ x ∧ x < I 11 0 13) ∧ x ≠ without then (shwP (I 22) (rv I (6 + x.toNat)) (aW I t w 3 (gvS I w (I 3 w 8) s.2)) (I 6 x.toNat 6) s.1, s.2)
  else s
/-- the memory just before showing i, without another one -/
def rpS (I : H3) (t : Nat → Nat) (i w : Nat) (without : Int) : SS :=
  rpF (fun k => whD I (I 46 0 k) = I 6 i 1) (fun _ => inferInstance) (I 46 0) (I 47 0) (wtD (aW I t w) (gvS I w (I 3 w 8)) (c16 (I 29 w)) (I 3 w 9)) (rpD I t w without) i 0 (I 11 0 15).toNat (seeP (aW I t w) (gvS I w (I 3 w 8)) (I 22 (I 3 w 4).toNat), 0)
/-- the odds of a showing's pick, of a memory -/
def opS (I : H3) (t : Nat → Nat) (i w : Nat) (s : SS) : Int :=
  oP (odQ (aW I t w) (gvS I w (I 3 w 8) s.2) (faP (aW I t w) (gvS I w (I 3 w 8) s.2) (I 3 w 3) s.1 (I 22) (fun f => I 1 f 1)) (rv I (6 + i)) (decide (I 6 i 2 = 1)) (I 6 i 4) (I 6 i 5)) (I 6 i 6)
def rpW (I : H3) (t : Nat → Nat) (i : Nat) (without : Int) : Int := opS I t i (I 6 i 1).toNat (rpS I t i (I 6 i 1).toNat without)
/-- counts, minds, showings, deeds in bounds -/
def fnOk (I : H3) : Prop := 0 ≤ I 11 0 10 ∧ I 11 0 10 ≤ 120
def mnOk (I : H3) (t : Nat → Nat) : Prop := (0 ≤ I 11 0 12 ∧ I 11 0 12 ≤ 20) ∧ ∀ w : Nat, (w : Int) < I 11 0 12 → mOk I t w ∧ R31 (I 28 w) ∧ R31 (I 29 w) ∧ snOk I w ∧ 0 ≤ I 3 w 9 ∧ I 3 w 9 ≤ 999
def svOk (I : H3) : Prop := (0 ≤ I 11 0 13 ∧ I 11 0 13 ≤ 100) ∧ ∀ i : Nat, (i : Int) < I 11 0 13 → (0 ≤ I 6 i 1 ∧ I 6 i 1 < I 11 0 12) ∧ rwOk I (6 + i) ∧ 0 ≤ I 6 i 5 ∧ I 6 i 5 ≤ 99
def dsOk (I : H3) : Prop := (0 ≤ I 11 0 15 ∧ I 11 0 15 ≤ 220) ∧ ∀ k : Nat, (k : Int) < I 11 0 15 → (-120 ≤ I 46 0 k ∧ I 46 0 k < 100) ∧ 0 ≤ I 47 0 k ∧ I 47 0 k ≤ 999
/-- what replays want -/
def rpOk (I : H3) (t : Nat → Nat) : Prop := fcOk I ∧ fnOk I ∧ mnOk I t ∧ svOk I ∧ dsOk I
section REP
variable {d i w : Nat} {I0 L : H3} {t : Nat → Nat} {without : Int}
theorem sp140 {I : H3} (h1 : 0 ≤ I 11 0 13 ∧ I 11 0 13 ≤ 100) (h2 : fnOk I) {x : Int} (hx : -120 ≤ x ∧ x < 100) : Cal (d + 2) 140 [vr 11 0, vi x] (mk I L t) = some (vi (whD I x), mk I L t) := by
  have e : w32 (-1 - x) = -1 - x := w32_s (by omega)
  have hb := h2.1
  have hb' := h2.2
  unfold whD
  by_cases a : 0 ≤ x ∧ x < I 11 0 13
  · rw [if_pos a]
    exact P140_0_2 (by omega) a (by omega)
  · rw [if_neg a]
    by_cases b : 0 ≤ -1 - x ∧ -1 - x < I 11 0 10
    · rw [if_pos b]
      refine Eq.trans (P140_0_1 (by omega) a (by omega) (by rw [e]; exact b) (by rw [e]; omega)) ?_
      rw [e]
    · rw [if_neg b]
      exact P140_0_0 (by omega) a (by omega) (by rw [e]; exact b)
theorem fr_wh {I J : H3} (k : Fr sT I J) : whD J = whD I := by
  funext x
  unfold whD
  rw [k 11 0 13 rfl, k 11 0 10 rfl, k.rg (r := 6) (fun _ _ => rfl), k.rg (r := 1) (fun _ _ => rfl)]
theorem shwP_in {F : Nat → Nat → Int} {rv : Int → Int} {pull pick : Int} {m : Nat → Int} (hF : ∀ f, f < 120 → R31 (F f)) (hr : rvB rv) (hp : 0 ≤ pull ∧ pull ≤ 100) (hm : R31 m) : R31 (shwP F rv pull pick m) := by
  have h1 : R31 (fo (shwS F rv (vIdiv pull 2)) 0 9 m) := fo_in R31 9 0 m hm (fun j b _ _ hb => by
    unfold shwS
    split
    · exact hb
    · next h => exact pul_in (half_in hp) (hF _ (by have := (hr j).resolve_left h; omega)) hb)
  unfold shwP
  dsimp only
  split
  · exact h1
  · next h => exact pul_in hp (hF _ (by have := (hr pick).resolve_left h; omega)) h1
theorem sp142 {I : H3} {s : SS} {ty : Nat → Int} (hk : rpOk I0 t) (hw : (w : Int) < I0 11 0 12) {x : Int} (hx : -120 ≤ x ∧ x < 100) (hA : At60 I0 I w (I0 3 w 8) s.1 ty s.2) :
    ∃ J, Cal (d + 4) 142 [vr 11 0, vr 3 60, vi x, vi without] (mk I L t) = some (vx, mk J L t) ∧ At60 I0 J w (I0 3 w 8) (rpD I0 t w without x s).1 ty (rpD I0 t w without x s).2 := by
  obtain ⟨hF0, hfn, hmn, hsv, hds⟩ := hk
  have hb := hfn.1
  have hb' := hfn.2
  have hs1 := hsv.1
  have e : w32 (-1 - x) = -1 - x := w32_s (by omega)
  have hF := hA.1
  have e10 : I 11 0 10 = I0 11 0 10 := hF 11 0 10 rfl
  have e13 : I 11 0 13 = I0 11 0 13 := hF 11 0 13 rfl
  have hm := (hmn.2 w hw).1
  unfold rpD
  by_cases a : 0 ≤ -1 - x ∧ -1 - x < I0 11 0 10
  · rw [if_pos a]
    obtain ⟨J1, J2, c1, c2, A2⟩ := pull60 (d := d + 1) (L := L) (r1 := 22) (i1 := (-1 - x).toNat) (o := I0 22 (-1 - x).toNat) hA hm (hF0 _ (by omega)) rfl (by decide) rfl (fun I' c _ h => h) (fun c _ => by rw [hF.rg (r := 22) (fun _ _ => rfl)])
    exact ⟨J2, P142_0_3 (g1 := by rw [e10]; omega) (h1 := by rw [e, e10]; exact a) (g2 := by rw [e]; omega) (c1 := c1) (c2 := by rw [e]; exact c2), A2⟩
  · rw [if_neg a]
    by_cases b : 0 ≤ x ∧ x < I0 11 0 13
    · by_cases c : x = without
      · rw [if_neg (fun q => q.2 c)]
        exact ⟨I, P142_0_2 (g1 := by rw [e10]; omega) (h1 := by rw [e, e10]; exact a) (g2 := by rw [e13]; omega) (h2 := by rw [e13]; exact b) (h3 := c), hA⟩
      · rw [if_pos ⟨b, c⟩]
        obtain ⟨J, c1, A1⟩ := shown60 (d := d) (L := L) (i := x.toNat) hA hm hF0 (hsv.2 x.toNat (by omega)).2.1
        exact ⟨J, P142_0_1 (g1 := by rw [e10]; omega) (h1 := by rw [e, e10]; exact a) (g2 := by rw [e13]; omega) (h2 := by rw [e13]; exact b) (h3 := c) (g3 := by omega) (c1 := c1), A1⟩
    · rw [if_neg (fun q => b q.1)]
      exact ⟨I, P142_0_0 (g1 := by rw [e10]; omega) (h1 := by rw [e, e10]; exact a) (g2 := by rw [e13]; omega) (h2 := by rw [e13]; exact b), hA⟩
theorem op60 {I : H3} {s : SS} {ty : Nat → Int} (hk : rpOk I0 t) (hi : (i : Int) < I0 11 0 13) (hw : (w : Int) < I0 11 0 12) (hA : At60 I0 I w (I0 3 w 8) s.1 ty s.2) :
    ∃ J, Cal (d + 5) 128 [vr 11 0, vr 3 60, vr 6 i] (mk I L t) = some (vi (opS I0 t i w s), mk J L t) ∧ Fr sT I0 J := by
  obtain ⟨hF0, hfn, hmn, hsv, hds⟩ := hk
  have hm := (hmn.2 w hw).1
  have hv := hsv.2 i hi
  have hF := hA.1
  have e6 : I 6 = I0 6 := hF.rg (fun _ _ => rfl)
  obtain ⟨J, c, A, f, o⟩ := odds60 (d := d) (L := L) (kind := I0 6 i 2) (led := I0 6 i 4) (push := I0 6 i 5) hA hm hF0 hv.2.1 hv.2.2
  have e6' : J 6 = I0 6 := A.1.rg (fun _ _ => rfl)
  refine ⟨J, Eq.trans (P128_0_0 (c1 := by rw [e6]; exact c) (c2 := s1)) ?_, A.1⟩
  rw [e6', oP_cg o]
  rfl
theorem l141 (hk : rpOk I0 t) (hi : (i : Int) < I0 11 0 13) (hw : (w : Int) = I0 6 i 1) : ∀ (n k : Nat) (s : SS) (I : H3) (u : MV), k + n = (I0 11 0 15).toNat → At60 I0 I w (I0 3 w 8) s.1 (c16 (I0 29 w)) s.2 → 0 ≤ s.2 ∧ s.2 ≤ 999 →
    ∃ J, Res (d + 6) 141 58 [vr 11 0, vi (i : Int), vi without, vr 6 i, vr 3 60, vr 3 w, vi (k : Int), u] [] (mk I L t) = some (vi (opS I0 t i w (rpF (fun k => whD I0 (I0 46 0 k) = I0 6 i 1) (fun _ => inferInstance) (I0 46 0) (I0 47 0) (wtD (aW I0 t w) (gvS I0 w (I0 3 w 8)) (c16 (I0 29 w)) (I0 3 w 9)) (rpD I0 t w without) i k n s)), mk J L t) ∧ Fr sT I0 J
  | 0, k, s, I, u, hk', hA, hs => by
    have hds := hk.2.2.2.2
    have h15 := hds.1
    have e15 : I 11 0 15 = I0 11 0 15 := hA.1 11 0 15 rfl
    have hv := hk.2.2.2.1.2 i hi
    obtain ⟨J, c, F⟩ := op60 (d := d) (L := L) hk hi (by rw [hw]; exact hv.1.2) hA
    exact ⟨J, P141_58_3 (h1 := by rw [e15]; omega) (c1 := c), F⟩
  | n + 1, k, s, I, u, hk', hA, hs => by
    have hds := hk.2.2.2.2
    have h15 := hds.1
    have hfn := hk.2.1
    have hsv := hk.2.2.2.1
    have hv := hsv.2 i hi
    have hw12 : (w : Int) < I0 11 0 12 := by rw [hw]; exact hv.1.2
    have hmn := hk.2.2.1
    have hw60 : w < 60 := by have := hmn.1.2; omega
    have hmw := hmn.2 w hw12
    have hF := hA.1
    have e15 : I 11 0 15 = I0 11 0 15 := hF 11 0 15 rfl
    have e46 : I 46 0 = I0 46 0 := hF.ri (fun _ => rfl)
    have e47 : I 47 0 = I0 47 0 := hF.ri (fun _ => rfl)
    have e6 : I 6 = I0 6 := hF.rg (fun _ _ => rfl)
    have e3 : I 3 w = I0 3 w := fr_3 hF hw60
    have hdk := hds.2 k (by omega)
    have c1 : Cal (d + 5) 140 [vr 11 0, vi (I 46 0 ((k : Int).toNat))] (mk I L t) = some (vi (whD I0 (I0 46 0 k)), mk I L t) := by
      have := sp140 (d := d + 3) (L := L) (t := t) (I := I) (by rw [hF 11 0 13 rfl]; exact hsv.1) (by unfold fnOk; rw [hF 11 0 10 rfl]; exact hfn) hdk.1
      rw [fr_wh hF] at this
      rw [e46]
      exact this
    by_cases h1 : whD I0 (I0 46 0 k) = I0 6 i 1
    · have e10 : I 3 60 10 = s.2 := hA.2.1.2.2.2.2.2.2.2
      have eN : w32 (w32 (I0 47 0 k - I0 3 w 9) - s.2) = I0 47 0 k - I0 3 w 9 - s.2 := by
        have h9 := hmw.2.2.2.2
        rw [w32_s (x := I0 47 0 k - I0 3 w 9) (by omega), w32_s (by omega)]
      obtain ⟨J2, c2, A2⟩ := wait60 (d := d + 2) (L := L) (N := I0 47 0 k - I0 3 w 9 - s.2) hA hmw.1 hmw.2.2.1.d (by have h9 := hmw.2.2.2.2; omega)
      have hs2 : 0 ≤ (wtD (aW I0 t w) (gvS I0 w (I0 3 w 8)) (c16 (I0 29 w)) (I0 3 w 9) (I0 47 0 k) s).2 ∧ (wtD (aW I0 t w) (gvS I0 w (I0 3 w 8)) (c16 (I0 29 w)) (I0 3 w 9) (I0 47 0 k) s).2 ≤ 999 := by
        have h9 := hmw.2.2.2.2
        unfold wtD
        rw [waP_2 _ _ hs.1 (by omega)]
        omega
      by_cases h2 : I0 46 0 k = i
      · obtain ⟨J3, c3, F3⟩ := op60 (d := d) (L := L) (i := i) (s := wtD (aW I0 t w) (gvS I0 w (I0 3 w 8)) (c16 (I0 29 w)) (I0 3 w 9) (I0 47 0 k) s) hk hi hw12 A2
        have er : rpF (fun k => whD I0 (I0 46 0 k) = I0 6 i 1) (fun _ => inferInstance) (I0 46 0) (I0 47 0) (wtD (aW I0 t w) (gvS I0 w (I0 3 w 8)) (c16 (I0 29 w)) (I0 3 w 9)) (rpD I0 t w without) i k (n + 1) s = wtD (aW I0 t w) (gvS I0 w (I0 3 w 8)) (c16 (I0 29 w)) (I0 3 w 9) (I0 47 0 k) s := by
          show (if whD I0 (I0 46 0 k) = I0 6 i 1 then (if I0 46 0 k = i then _ else _) else _) = _
          rw [if_pos h1, if_pos h2]
        rw [er]
        exact ⟨J3, P141_58_0 (h1 := by rw [e15]; omega) (g1 := by omega) (c1 := c1) (h2 := by rw [e6]; exact h1) (c2 := by rw [e47, e3, e10, Int.toNat_natCast, eN]; exact c2) (h3 := by rw [e46]; exact h2) (c3 := c3), F3⟩
      · obtain ⟨J3, c3, A3⟩ := sp142 (d := d + 1) (L := L) (without := without) (x := I0 46 0 k) (s := wtD (aW I0 t w) (gvS I0 w (I0 3 w 8)) (c16 (I0 29 w)) (I0 3 w 9) (I0 47 0 k) s) hk hw12 hdk.1 A2
        have er : rpF (fun k => whD I0 (I0 46 0 k) = I0 6 i 1) (fun _ => inferInstance) (I0 46 0) (I0 47 0) (wtD (aW I0 t w) (gvS I0 w (I0 3 w 8)) (c16 (I0 29 w)) (I0 3 w 9)) (rpD I0 t w without) i k (n + 1) s = rpF (fun k => whD I0 (I0 46 0 k) = I0 6 i 1) (fun _ => inferInstance) (I0 46 0) (I0 47 0) (wtD (aW I0 t w) (gvS I0 w (I0 3 w 8)) (c16 (I0 29 w)) (I0 3 w 9)) (rpD I0 t w without) i (k + 1) n (rpD I0 t w without (I0 46 0 k) (wtD (aW I0 t w) (gvS I0 w (I0 3 w 8)) (c16 (I0 29 w)) (I0 3 w 9) (I0 47 0 k) s)) := by
          show (if whD I0 (I0 46 0 k) = I0 6 i 1 then (if I0 46 0 k = i then _ else _) else _) = _
          rw [if_pos h1, if_neg h2]
        rw [er]
        have hs3 : 0 ≤ (rpD I0 t w without (I0 46 0 k) (wtD (aW I0 t w) (gvS I0 w (I0 3 w 8)) (c16 (I0 29 w)) (I0 3 w 9) (I0 47 0 k) s)).2 ∧ (rpD I0 t w without (I0 46 0 k) (wtD (aW I0 t w) (gvS I0 w (I0 3 w 8)) (c16 (I0 29 w)) (I0 3 w 9) (I0 47 0 k) s)).2 ≤ 999 := by
          unfold rpD
          split
          · exact hs2
          · split
            · exact hs2
            · exact hs2
        obtain ⟨J, hr, F⟩ := l141 hk hi hw n (k + 1) _ J3 (vi (I0 46 0 k)) (by omega) A3 hs3
        refine ⟨J, Eq.trans (P141_58_1 (h1 := by rw [e15]; omega) (g1 := by omega) (c1 := c1) (h2 := by rw [e6]; exact h1) (c2 := by rw [e47, e3, e10, Int.toNat_natCast, eN]; exact c2) (h3 := by rw [e46]; exact h2) (c3 := by rw [e46]; exact c3)) ?_, F⟩
        rw [lem_w32k (by omega), e46]
        exact hr
    · have er : rpF (fun k => whD I0 (I0 46 0 k) = I0 6 i 1) (fun _ => inferInstance) (I0 46 0) (I0 47 0) (wtD (aW I0 t w) (gvS I0 w (I0 3 w 8)) (c16 (I0 29 w)) (I0 3 w 9)) (rpD I0 t w without) i k (n + 1) s = rpF (fun k => whD I0 (I0 46 0 k) = I0 6 i 1) (fun _ => inferInstance) (I0 46 0) (I0 47 0) (wtD (aW I0 t w) (gvS I0 w (I0 3 w 8)) (c16 (I0 29 w)) (I0 3 w 9)) (rpD I0 t w without) i (k + 1) n s := by
        show (if whD I0 (I0 46 0 k) = I0 6 i 1 then (if I0 46 0 k = i then _ else _) else _) = _
        rw [if_neg h1]
      rw [er]
      obtain ⟨J, hr, F⟩ := l141 hk hi hw n (k + 1) s I (vi (I0 46 0 k)) (by omega) hA hs
      refine ⟨J, Eq.trans (P141_58_2 (h1 := by rw [e15]; omega) (g1 := by omega) (c1 := c1) (h2 := by rw [e6]; exact h1)) ?_, F⟩
      rw [lem_w32k (by omega), e46]
      exact hr
theorem sp141 (hk : rpOk I0 t) (hi : (i : Int) < I0 11 0 13) : ∃ J, Cal (d + 6) 141 [vr 11 0, vi (i : Int), vi without] (mk I0 L t) = some (vi (rpW I0 t i without), mk J L t) ∧ Fr sT I0 J := by
  have hsv := hk.2.2.2.1
  have hv := hsv.2 i hi
  have hmn := hk.2.2.1
  have hw12 : (((I0 6 i 1).toNat : Nat) : Int) < I0 11 0 12 := by omega
  have hmw := hmn.2 _ hw12
  have hw60 : (I0 6 i 1).toNat ≠ 60 := by have := hmn.1.2; omega
  obtain ⟨I2, F2, e2, m2, a2, g2, fc2, sn2, e24, e222, fin⟩ := start60 (t := t) hmw.1 hk.1 hmw.2.2.2.1 (I0 3 (I0 6 i 1).toNat 8)
  obtain ⟨J3, c3, f3, m3, t3, d3⟩ := s119b (d := d + 2) (k := (I0 6 i 1).toNat) (L := L) m2 fc2 sn2
  have e29 : I2 29 (I0 6 i 1).toNat = I0 29 (I0 6 i 1).toNat := F2.ri (fun c => by
    have : ((I0 6 i 1).toNat == 60) = false := by rw [beq_eq_false_iff_ne]; exact hw60
    simp [sT, this])
  rw [a2, g2, e222, e24] at m3
  rw [e29] at t3
  have A3 := fin J3 f3 m3 d3 _ t3
  obtain ⟨J, hr, F⟩ := l141 (d := d) (L := L) (without := without) (w := (I0 6 i 1).toNat) hk hi (by omega) (I0 11 0 15).toNat 0 (seeP (aW I0 t (I0 6 i 1).toNat) (gvS I0 (I0 6 i 1).toNat (I0 3 (I0 6 i 1).toNat 8)) (I0 22 (I0 3 (I0 6 i 1).toNat 4).toNat), 0) J3 vx (by omega) A3 ⟨Int.le_refl _, (by show (0 : Int) ≤ 999; decide)⟩
  refine ⟨J, Eq.trans (P141_0_0 (g1 := by have := hsv.1; omega) (g2 := by have := hmn.1; have h1 := hv.1; show 0 ≤ I0 6 i 1 ∧ I0 6 i 1 < 20; omega) (c1 := copy60) (c2 := ?_)) hr, F⟩
  have e8 : up3 (up3 (up3 (up3 (up3 (up3 I0 3 60 2 (I0 3 (I0 6 i 1).toNat 2)) 3 60 3 (I0 3 (I0 6 i 1).toNat 3)) 3 60 4 (I0 3 (I0 6 i 1).toNat 4)) 3 60 5 (I0 3 (I0 6 i 1).toNat 5)) 3 60 6 (I0 3 (I0 6 i 1).toNat 6)) 3 60 7 (I0 3 (I0 6 i 1).toNat 7) 3 (I0 6 i 1).toNat 8 = I0 3 (I0 6 i 1).toNat 8 := by
    rw [up_i hw60, up_i hw60, up_i hw60, up_i hw60, up_i hw60, up_i hw60]
  rw [Int.toNat_natCast, e8, ← e2]
  exact c3
end REP
/-! a showing is an earlier one of the same witness -/
def erD (I : H3) (j i : Int) : Prop := (0 ≤ j ∧ j < I 11 0 13) ∧ (0 ≤ i ∧ i < I 11 0 13) ∧ j < i ∧ I 6 j.toNat 1 = I 6 i.toNat 1
section ER
variable {d : Nat} {I0 L : H3} {t : Nat → Nat}
theorem sp108t {I : H3} {j i : Int} (h1 : 0 ≤ I 11 0 13 ∧ I 11 0 13 ≤ 100) (h : erD I j i) : Cal (d + 2) 108 [vr 11 0, vi j, vi i] (mk I L t) = some (vi 1, mk I L t) := P108_0_2 (by omega) h.1 h.2.1 h.2.2.1 (by have := h.1; omega) (by have := h.2.1; omega) h.2.2.2
theorem sp108f {I : H3} {j i : Int} (h1 : 0 ≤ I 11 0 13 ∧ I 11 0 13 ≤ 100) (h : ¬ erD I j i) : Cal (d + 2) 108 [vr 11 0, vi j, vi i] (mk I L t) = some (vi 0, mk I L t) := by
  by_cases a : 0 ≤ j ∧ j < I 11 0 13
  · by_cases b : 0 ≤ i ∧ i < I 11 0 13
    · by_cases c : j < i
      · exact P108_0_3 (by omega) a b c (by omega) (by omega) (fun q => h ⟨a, b, c, q⟩)
      · exact P108_0_4 (by omega) a b (by omega)
    · exact P108_0_1 (by omega) a b
  · exact P108_0_0 (by omega) a
theorem fr_er {I J : H3} (k : Fr sT I J) {j i : Int} : erD J j i ↔ erD I j i := by
  unfold erD
  rw [k 11 0 13 rfl, k.rg (r := 6) (fun _ _ => rfl)]
theorem fr_fn {I J : H3} (k : Fr sT I J) (h : fnOk I) : fnOk J := by
  unfold fnOk
  rw [k 11 0 10 rfl]
  exact h
theorem fr_mn {I J : H3} (k : Fr sT I J) (h : mnOk I t) : mnOk J t := by
  have h12 := h.1
  unfold mnOk
  rw [k 11 0 12 rfl]
  refine ⟨h12, fun w hw => ?_⟩
  have hw60 : w < 60 := by omega
  have hb : (w == 60) = false := by rw [beq_eq_false_iff_ne]; omega
  obtain ⟨a, b, c, e, f⟩ := h.2 w hw
  have e28 : J 28 w = I 28 w := k.ri (fun _ => by simp [sT, hb])
  have e29 : J 29 w = I 29 w := k.ri (fun _ => by simp [sT, hb])
  unfold snOk
  rw [e28, e29, fr_3 k hw60]
  exact ⟨(fr_mOk k hw60 a).1, b, c, e, f⟩
theorem fr_sv {I J : H3} (k : Fr sT I J) (h : svOk I) : svOk J := by
  unfold svOk
  rw [k 11 0 13 rfl, k 11 0 12 rfl, k.rg (r := 6) (fun _ _ => rfl)]
  exact ⟨h.1, fun i hi => ⟨(h.2 i hi).1, (fr_rw k (h.2 i hi).2.1).1, (h.2 i hi).2.2⟩⟩
theorem fr_ds {I J : H3} (k : Fr sT I J) (h : dsOk I) : dsOk J := by
  unfold dsOk
  rw [k 11 0 15 rfl, k.rg (r := 46) (fun _ _ => rfl), k.rg (r := 47) (fun _ _ => rfl)]
  exact h
theorem fr_rp {I J : H3} (k : Fr sT I J) (h : rpOk I t) : rpOk J t := ⟨fr_fc k h.1, fr_fn k h.2.1, fr_mn k h.2.2.1, fr_sv k h.2.2.2.1, fr_ds k h.2.2.2.2⟩
theorem fr_rpW {I J : H3} (k : Fr sT I J) (hk : rpOk I t) {i : Nat} {without : Int} (hi : (i : Int) < I 11 0 13) : rpW J t i without = rpW I t i without := by
  have hv := hk.2.2.2.1.2 i hi
  have hmn := hk.2.2.1
  have hw60 : (I 6 i 1).toNat < 60 := by have := hmn.1.2; omega
  have hb : ((I 6 i 1).toNat == 60) = false := by rw [beq_eq_false_iff_ne]; omega
  have e6 : J 6 = I 6 := k.rg (fun _ _ => rfl)
  have e29 : J 29 (I 6 i 1).toNat = I 29 (I 6 i 1).toNat := k.ri (fun _ => by simp [sT, hb])
  have er : rpD J t (I 6 i 1).toNat without = rpD I t (I 6 i 1).toNat without := by
    funext x s
    unfold rpD gvS
    rw [k 11 0 10 rfl, k 11 0 13 rfl, fr_aW k hw60, fr_3 k hw60, fr_rv k, k.rg (r := 22) (fun _ _ => rfl), e6]
  unfold rpW opS rpS
  rw [e6, er, fr_aW k hw60, e29]
  unfold gvS
  rw [fr_3 k hw60, fr_rv k, fr_wh k, k.rg (r := 22) (fun _ _ => rfl), k.rg (r := 1) (fun _ _ => rfl), k.ri (r := 46) (i := 0) (fun _ => rfl), k.ri (r := 47) (i := 0) (fun _ => rfl), k 11 0 15 rfl]
/-- what replayed answers -/
def rpV (er : Int → Int → Prop) (dec : ∀ j i, Decidable (er j i)) (rp : Nat → Int → Int) (n : Int) (kind : Nat → Int) (i j : Int) : Int :=
  if ¬ (0 ≤ i ∧ i < n) ∨ kind i.toNat = 2 then -1 else if j = -1 then rp i.toNat (-1) else @ite _ (er j i) (dec j i) (rp i.toNat j) (-1)
theorem sp98 (hk : rpOk I0 t) (dec : ∀ j i, Decidable (erD I0 j i)) (i j : Int) : ∃ J, Cal (d + 7) 98 [vr 11 0, vi i, vi j] (mk I0 L t) = some (vi (rpV (erD I0) dec (rpW I0 t) (I0 11 0 13) (fun i => I0 6 i 2) i j), mk J L t) ∧ Fr sT I0 J := by
  have h13 := hk.2.2.2.1.1
  unfold rpV
  by_cases a : 0 ≤ i ∧ i < I0 11 0 13
  · by_cases b : I0 6 i.toNat 2 = 2
    · rw [if_pos (Or.inr b)]
      exact ⟨I0, P98_0_4 (by omega) a (by omega) b, Fr.rfl'⟩
    · rw [if_neg (fun q => q.elim (fun q => q a) b)]
      have ei : ((i.toNat : Nat) : Int) = i := by omega
      by_cases c : j = -1
      · rw [if_pos c]
        obtain ⟨J, h, F⟩ := sp141 (d := d) (L := L) (i := i.toNat) (without := -1) hk (by omega)
        rw [ei] at h
        exact ⟨J, P98_0_3 (by omega) a (by omega) b c (by rw [c]; exact h), F⟩
      · rw [if_neg c]
        by_cases e : erD I0 j i
        · rw [if_pos e]
          obtain ⟨J, h, F⟩ := sp141 (d := d) (L := L) (i := i.toNat) (without := j) hk (by omega)
          rw [ei] at h
          exact ⟨J, P98_0_2 (by omega) a (by omega) b c (sp108t h13 e) h, F⟩
        · rw [if_neg e]
          exact ⟨I0, P98_0_1 (by omega) a (by omega) b c (sp108f h13 e), Fr.rfl'⟩
  · rw [if_pos (Or.inl a)]
    exact ⟨I0, P98_0_0 (by omega) a, Fr.rfl'⟩
def abP (a : Int) : Int := if 0 ≤ w32 a then w32 a else w32 (-(w32 a))
/-- the earlier showing that spoilt most -/
def spS (er : Nat → Prop) (dec : ∀ j, Decidable (er j)) (rp : Nat → Int) (all : Int) (j : Nat) (s : Int × Int) : Int × Int :=
  @ite _ (er j) (dec j) (if s.2 < abP (rp j - all) then ((j : Int), abP (rp j - all)) else s) s
def spV (er : Int → Int → Prop) (dec : ∀ j i, Decidable (er j i)) (rp : Nat → Int → Int) (n : Int) (kind : Nat → Int) (i : Int) : Int :=
  if ¬ (0 ≤ i ∧ i < n) ∨ kind i.toNat = 2 then -1 else (fo (spS (fun j => er j i) (fun j => dec j i) (fun j => rp i.toNat j) (rp i.toNat (-1))) 0 i.toNat (-1, 0)).1
theorem l99 (hk : rpOk I0 t) (dec : ∀ j i, Decidable (erD I0 j i)) {i : Nat} (hi : (i : Int) < I0 11 0 13) {all : Int} : ∀ (n k : Nat) (s : Int × Int) (I : H3) (u : MV), k + n = i → Fr sT I0 I →
    ∃ J, Res (d + 7) 99 38 [vr 11 0, vi (i : Int), vi all, vi s.1, vi s.2, vi (k : Int), u] [] (mk I L t) = some (vi (fo (spS (fun j => erD I0 j i) (fun j => dec j i) (fun j => rpW I0 t i j) all) k n s).1, mk J L t) ∧ Fr sT I0 J
  | 0, k, s, I, u, hk', hF => ⟨I, P99_38_3 (by omega), hF⟩
  | n + 1, k, s, I, u, hk', hF => by
    have h13 := hk.2.2.2.1.1
    have e13 : I 11 0 13 = I0 11 0 13 := hF 11 0 13 rfl
    rw [fo_s]
    by_cases a : erD I0 (k : Int) (i : Int)
    · have a' := (fr_er hF).mpr a
      obtain ⟨J1, c1, F1⟩ := sp141 (d := d) (L := L) (i := i) (without := (k : Int)) (fr_rp hF hk) (by rw [e13]; exact hi)
      rw [fr_rpW hF hk hi] at c1
      by_cases b : s.2 < abP (rpW I0 t i (k : Int) - all)
      · have es : spS (fun j => erD I0 j i) (fun j => dec j i) (fun j => rpW I0 t i j) all k s = ((k : Int), abP (rpW I0 t i (k : Int) - all)) := by
          unfold spS
          rw [if_pos a, if_pos b]
        rw [es]
        obtain ⟨J, hr, F⟩ := l99 hk dec hi (all := all) n (k + 1) ((k : Int), abP (rpW I0 t i (k : Int) - all)) J1 (vi (abP (rpW I0 t i (k : Int) - all))) (by omega) (hF.tr F1)
        refine ⟨J, Eq.trans (P99_38_0 (h1 := by omega) (c1 := sp108t (by rw [e13]; exact h13) a') (c2 := c1) (h2 := b)) ?_, F⟩
        rw [lem_w32k (by omega)]
        exact hr
      · have es : spS (fun j => erD I0 j i) (fun j => dec j i) (fun j => rpW I0 t i j) all k s = s := by
          unfold spS
          rw [if_pos a, if_neg b]
        rw [es]
        obtain ⟨J, hr, F⟩ := l99 hk dec hi (all := all) n (k + 1) s J1 (vi (abP (rpW I0 t i (k : Int) - all))) (by omega) (hF.tr F1)
        refine ⟨J, Eq.trans (P99_38_1 (h1 := by omega) (c1 := sp108t (by rw [e13]; exact h13) a') (c2 := c1) (h2 := Int.not_lt.mp b)) ?_, F⟩
        rw [lem_w32k (by omega)]
        exact hr
    · have a' : ¬ erD I (k : Int) (i : Int) := fun q => a ((fr_er hF).mp q)
      have es : spS (fun j => erD I0 j i) (fun j => dec j i) (fun j => rpW I0 t i j) all k s = s := by
        unfold spS
        rw [if_neg a]
      rw [es]
      obtain ⟨J, hr, F⟩ := l99 hk dec hi (all := all) n (k + 1) s I u (by omega) hF
      refine ⟨J, Eq.trans (P99_38_2 (h1 := by omega) (c1 := sp108f (by rw [e13]; exact h13) a')) ?_, F⟩
      rw [lem_w32k (by omega)]
      exact hr
theorem sp99 (hk : rpOk I0 t) (dec : ∀ j i, Decidable (erD I0 j i)) (i : Int) : ∃ J, Cal (d + 7) 99 [vr 11 0, vi i] (mk I0 L t) = some (vi (spV (erD I0) dec (rpW I0 t) (I0 11 0 13) (fun i => I0 6 i 2) i), mk J L t) ∧ Fr sT I0 J := by
  have h13 := hk.2.2.2.1.1
  unfold spV
  by_cases a : 0 ≤ i ∧ i < I0 11 0 13
  · by_cases b : I0 6 i.toNat 2 = 2
    · rw [if_pos (Or.inr b)]
      exact ⟨I0, P99_0_1 (by omega) a (by omega) b, Fr.rfl'⟩
    · rw [if_neg (fun q => q.elim (fun q => q a) b)]
      obtain ⟨x, rfl⟩ : ∃ x : Nat, i = (x : Int) := ⟨i.toNat, by omega⟩
      rw [Int.toNat_natCast]
      obtain ⟨J1, c1, F1⟩ := sp141 (d := d) (L := L) (i := x) (without := -1) hk (by omega)
      obtain ⟨J, hr, F⟩ := l99 (d := d) (L := L) (i := x) (all := rpW I0 t x (-1)) hk dec (by omega) x 0 (-1, 0) J1 vx (by omega) F1
      exact ⟨J, Eq.trans (P99_0_2 (by omega) a (by omega) b c1) hr, F⟩
  · rw [if_pos (Or.inl a)]
    exact ⟨I0, P99_0_0 (by omega) a, Fr.rfl'⟩
end ER
