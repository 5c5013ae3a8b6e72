/-! the class: ask, far, sure -/
theorem hC_cg {I J : H3} (e3 : J 23 = I 23) (e4 : J 24 = I 24) (e5 : J 25 = I 25) (e6 : J 26 = I 26) : hC J = hC I := by
  unfold hC
  rw [e3, e4, e5, e6]
theorem hOk_cg {I J : H3} {i : Nat} (e5 : J 25 = I 25) (e6 : J 26 = I 26) (h : hOk I i) : hOk J i := by
  unfold hOk
  rw [e5, e6]
  exact h
theorem gvW_cg {I J : H3} {w : Nat} (e : J 3 = I 3) : gvW J w = gvW I w := by
  unfold gvW
  rw [e]
/-- the mind w can be asked -/
def mOk (I : H3) (t : Nat → Nat) (w : Nat) : Prop := (0 ≤ I 3 w 2 ∧ I 3 w 2 < 4) ∧ hOk I (t (I 3 w 2).toNat) ∧ okH (hC I (t (I 3 w 2).toNat))
theorem mOk_cg {I J : H3} {t : Nat → Nat} {w : Nat} (e : J 3 = I 3) (e3 : J 23 = I 23) (e4 : J 24 = I 24) (e5 : J 25 = I 25) (e6 : J 26 = I 26) (h : mOk I t w) : mOk J t w := by
  unfold mOk
  rw [e, hC_cg e3 e4 e5 e6]
  exact ⟨h.1, hOk_cg e5 e6 h.2.1, h.2.2⟩
def aW (I : H3) (t : Nat → Nat) (w : Nat) : Nat → (Nat → Int) → Int := ans (hC I (t (I 3 w 2).toNat))
section ASK
variable {d w : Nat} {I L : H3} {t : Nat → Nat}
theorem s114 {k : Nat} (hk : k < 8) (hm : mOk I t w) : ∃ J, Cal (d + 2) 114 [vr 11 0, vr 3 w, vi (k : Int)] (mk I L t) = some (vi (aW I t w k (gvW I w)), mk J L t) ∧ Fr sAsk I J := by
  obtain ⟨J1, c1, f1, e1⟩ := s112 (d := d) (w := w) (I := I) (L := L) (t := t)
  have r3 : J1 3 = I 3 := f1.rg (fun _ _ => rfl)
  have eh : hC J1 = hC I := hC_cg (f1.rg (fun _ _ => rfl)) (f1.rg (fun _ _ => rfl)) (f1.rg (fun _ _ => rfl)) (f1.rg (fun _ _ => rfl))
  obtain ⟨J2, c2, f2⟩ := s18 (d := d) (i := t (J1 3 w 2).toNat) (I := J1) (L := L) (t := t) hk (by rw [r3]; exact hOk_cg (f1.rg (fun _ _ => rfl)) (f1.rg (fun _ _ => rfl)) hm.2.1) (by rw [r3, eh]; exact hm.2.2)
  refine ⟨J2, Eq.trans (P114_0_0 (c1 := c1) (g1 := by rw [r3]; exact hm.1) (c2 := c2)) ?_, (f1.mo ?_).tr (f2.mo ?_)⟩
  · unfold aW
    rw [eh, r3, e1]
  · intro r i c h
    simp only [sAsk, Bool.or_eq_false_iff] at h
    exact h.1
  · intro r i c h
    simp only [sAsk, Bool.or_eq_false_iff] at h
    exact h.2
theorem s115 {f : Nat} (hm : mOk I t w) (hf : R31 (I 22 f)) (hw : R31 (I 28 w)) : ∃ J, Cal (d + 3) 115 [vr 11 0, vr 3 w, vr 1 f] (mk I L t) = some (vi (farP (aW I t w) (gvW I w) (I 3 w 3) (I 28 w) (I 22 f) (I 1 f 1)), mk J L t) ∧ Fr sAsk I J := by
  obtain ⟨J1, c1, f1, e1⟩ := s112 (d := d + 1) (w := w) (I := I) (L := L) (t := t)
  have e22 : J1 22 = I 22 := f1.rg (fun _ _ => rfl)
  have e28 : J1 28 = I 28 := f1.rg (fun _ _ => rfl)
  have e01 : J1 1 = I 1 := f1.rg (fun _ _ => rfl)
  have e03 : J1 3 = I 3 := f1.rg (fun _ _ => rfl)
  obtain ⟨J2, c2, f2, e2⟩ := s113 (d := d + 1) (w := w) (f := f) (I := J1) (L := L) (t := t) (by rw [e22]; exact hf) (by rw [e28]; exact hw)
  have f3 : Fr s13 I J2 := f1.tr f2
  have r3 : J2 3 = I 3 := f3.rg (fun _ _ => rfl)
  have eh : hC J2 = hC I := hC_cg (f3.rg (fun _ _ => rfl)) (f3.rg (fun _ _ => rfl)) (f3.rg (fun _ _ => rfl)) (f3.rg (fun _ _ => rfl))
  obtain ⟨J3, c3, f4⟩ := s18 (d := d + 1) (i := t (J2 3 w 2).toNat) (w := 0) (I := J2) (L := L) (t := t) (by decide) (by rw [r3]; exact hOk_cg (f3.rg (fun _ _ => rfl)) (f3.rg (fun _ _ => rfl)) hm.2.1) (by rw [r3, eh]; exact hm.2.2)
  refine ⟨J3, Eq.trans (P115_0_0 (c1 := c1) (c2 := c2) (g1 := by rw [r3]; exact hm.1) (c3 := c3)) ?_, (f3.mo ?_).tr (f4.mo ?_)⟩
  · unfold aW farP
    rw [eh, r3, e2, e1, e22, e28, e01, e03]
  · intro r i c h
    simp only [sAsk, Bool.or_eq_false_iff] at h
    exact h.1
  · intro r i c h
    simp only [sAsk, Bool.or_eq_false_iff] at h
    exact h.2
end ASK
/-- what a look at odds may write -/
def sX (r _ _ : Nat) : Bool := r == 13 || r == 14 || r == 15 || r == 16 || r == 17 || r == 18 || r == 27
theorem sAsk_X {I J : H3} (h : Fr sAsk I J) : Fr sX I J := h.mo (fun r i c k => by
  simp only [sX, Bool.or_eq_false_iff] at k
  simp only [sAsk, Bool.or_eq_false_iff]
  exact ⟨k.1.1.1.1.1.1, k.2⟩)
theorem up14_X {I J : H3} {s : Nat} {x : Int} (h : Fr sX I J) : Fr sX I (up3 J 14 0 s x) := h.up rfl
/-- how far each face is, for a mind -/
def faP (A : Nat → (Nat → Int) → Int) (G : Nat → Int) (k : Int) (m : Nat → Int) (F : Nat → Nat → Int) (K : Nat → Int) (f : Int) : Int := if 0 ≤ f ∧ f < 120 then farP A G k m (F f.toNat) (K f.toNat) else 0
def fW (I : H3) (t : Nat → Nat) (w : Nat) : Int → Int := faP (aW I t w) (gvW I w) (I 3 w 3) (I 28 w) (I 22) (fun f => I 1 f 1)
theorem faP_in (A : Nat → (Nat → Int) → Int) (G : Nat → Int) (k : Int) (m : Nat → Int) (F : Nat → Nat → Int) (K : Nat → Int) (hA : ∀ g, 0 ≤ A 0 g ∧ A 0 g ≤ 9999) (f : Int) : 0 ≤ faP A G k m F K f ∧ faP A G k m F K f ≤ 9999 := by
  unfold faP
  split
  · exact hA _
  · decide
theorem aW_in {I : H3} {t : Nat → Nat} {w k : Nat} {g : Nat → Int} (hk : k < 8) : rom 0 k ≤ aW I t w k g ∧ aW I t w k g ≤ rom 1 k := ans_in _ g hk
theorem fW_in {I : H3} {t : Nat → Nat} {w : Nat} (f : Int) : 0 ≤ fW I t w f ∧ fW I t w f ≤ 9999 := faP_in _ _ _ _ _ _ (fun _ => aW_in (k := 0) (by decide)) f
/-- in any heap like I0 the distances are fa's -/
def FarOk (d w : Nat) (fa : Int → Int) (I0 : H3) (t : Nat → Nat) : Prop := ∀ (I L : H3), Fr sX I0 I → ∀ f : Int, 0 ≤ f ∧ f < 120 → ∃ J, Cal d 115 [vr 11 0, vr 3 w, vr 1 f.toNat] (mk I L t) = some (vi (fa f), mk J L t) ∧ Fr sAsk I J
/-- faces and a memory in bounds -/
def fcOk (I : H3) : Prop := ∀ f, f < 120 → R31 (I 22 f)
theorem far_ok {d w : Nat} {I0 : H3} {t : Nat → Nat} (hm : mOk I0 t w) (hw : R31 (I0 28 w)) (hF : fcOk I0) : FarOk (d + 3) w (fW I0 t w) I0 t := by
  intro I L k f hf
  have e22 : I 22 = I0 22 := k.rg (fun _ _ => rfl)
  have e28 : I 28 = I0 28 := k.rg (fun _ _ => rfl)
  have e01 : I 1 = I0 1 := k.rg (fun _ _ => rfl)
  have e03 : I 3 = I0 3 := k.rg (fun _ _ => rfl)
  have e23 : I 23 = I0 23 := k.rg (fun _ _ => rfl)
  have e24 : I 24 = I0 24 := k.rg (fun _ _ => rfl)
  have e25 : I 25 = I0 25 := k.rg (fun _ _ => rfl)
  have e26 : I 26 = I0 26 := k.rg (fun _ _ => rfl)
  obtain ⟨J, c, fr⟩ := s115 (d := d) (w := w) (f := f.toNat) (I := I) (L := L) (t := t) (mOk_cg e03 e23 e24 e25 e26 hm) (by rw [e22]; exact hF _ (by omega)) (by rw [e28]; exact hw)
  refine ⟨J, c.trans ?_, fr⟩
  unfold fW faP aW
  rw [if_pos hf, hC_cg e23 e24 e25 e26, gvW_cg e03, e03, e28, e22, e01]
/-- a row whose faces are faces -/
def rwOk (I : H3) (r : Nat) : Prop := I 4 r 1 ≤ 9 ∧ ∀ p : Int, rvP (I 4 r 1) (I 30 r) p = -1 ∨ (0 ≤ rvP (I 4 r 1) (I 30 r) p ∧ rvP (I 4 r 1) (I 30 r) p < 120)
def rv (I : H3) (r : Nat) : Int → Int := rvP (I 4 r 1) (I 30 r)
section GAP
variable {d w r : Nat} {I0 L : H3} {t : Nat → Nat} {fa : Int → Int} {p fst : Int}
theorem l117 (hfa : FarOk d w fa I0 t) (hr : rwOk I0 r) : ∀ (n k : Nat) (a : Int) (I : H3) (u7 u8 : MV), Fr sX I0 I → k + n = 9 →
    ∃ J, Res (d + 1) 117 6 [vr 11 0, vr 3 w, vr 4 r, vi p, vi fst, vi a, vi (k : Int), u7, u8] [] (mk I L t) = some (vi (if fo (gapS fa (rv I0 r) p) k n a = -1 then 0 else if 0 < w32 (fo (gapS fa (rv I0 r) p) k n a - fst) then w32 (fo (gapS fa (rv I0 r) p) k n a - fst) else 0), mk J L t) ∧ Fr sAsk I J
  | 0, k, a, I, u7, u8, hF, hk => by
    rw [fo_0]
    by_cases h : a = -1
    · rw [if_pos h]
      exact ⟨I, P117_6_4 (by omega) h, Fr.rfl'⟩
    · rw [if_neg h]
      exact ⟨I, P117_6_5 (by omega) h, Fr.rfl'⟩
  | n + 1, k, a, I, u7, u8, hF, hk => by
    have e4 : I 4 = I0 4 := hF.rg (fun _ _ => rfl)
    have e30 : I 30 = I0 30 := hF.rg (fun _ _ => rfl)
    have ev : rvP (I 4 r 1) (I 30 r) (k : Int) = rv I0 r (k : Int) := by rw [e4, e30]; rfl
    have hb : I 4 r 1 ≤ 9 := by rw [e4]; exact hr.1
    rw [fo_s]
    by_cases h1 : (k : Int) = p
    · have es : gapS fa (rv I0 r) p k a = a := if_pos h1
      rw [es]
      obtain ⟨J, hr', hJ⟩ := l117 hfa hr n (k + 1) a I (vi (rv I0 r (k : Int))) u8 hF (by omega)
      refine ⟨J, Eq.trans (P117_6_3 (by omega) hb h1) ?_, hJ⟩
      rw [lem_w32k (by omega), ev]
      exact hr'
    · by_cases h2 : rv I0 r (k : Int) = -1
      · have es : gapS fa (rv I0 r) p k a = a := by unfold gapS; rw [if_neg h1, if_pos h2]
        rw [es]
        obtain ⟨J, hr', hJ⟩ := l117 hfa hr n (k + 1) a I (vi (rv I0 r (k : Int))) u8 hF (by omega)
        refine ⟨J, Eq.trans (P117_6_2 (by omega) hb h1 (by rw [ev]; exact h2)) ?_, hJ⟩
        rw [lem_w32k (by omega), ev]
        exact hr'
      · have hrng : 0 ≤ rv I0 r (k : Int) ∧ rv I0 r (k : Int) < 120 := (hr.2 (k : Int)).resolve_left h2
        obtain ⟨J1, c1, f1⟩ := hfa I L hF (rv I0 r (k : Int)) hrng
        by_cases h3 : a = -1
        · have es : gapS fa (rv I0 r) p k a = fa (rv I0 r (k : Int)) := by unfold gapS; rw [if_neg h1, if_neg h2, if_pos h3]
          rw [es]
          obtain ⟨J, hr', hJ⟩ := l117 hfa hr n (k + 1) (fa (rv I0 r (k : Int))) J1 (vi (rv I0 r (k : Int))) (vi (fa (rv I0 r (k : Int)))) (hF.tr (sAsk_X f1)) (by omega)
          refine ⟨J, Eq.trans (P117_6_0 (h1 := by omega) (g1 := hb) (h2 := h1) (h3 := by rw [ev]; exact h2) (g2 := by rw [ev]; exact hrng) (c1 := by rw [ev]; exact c1) (h4 := h3)) ?_, f1.tr hJ⟩
          rw [lem_w32k (by omega), ev]
          exact hr'
        · have es : gapS fa (rv I0 r) p k a = (if fa (rv I0 r (k : Int)) < a then fa (rv I0 r (k : Int)) else a) := by unfold gapS; rw [if_neg h1, if_neg h2, if_neg h3]
          rw [es]
          obtain ⟨J, hr', hJ⟩ := l117 hfa hr n (k + 1) (if fa (rv I0 r (k : Int)) < a then fa (rv I0 r (k : Int)) else a) J1 (vi (rv I0 r (k : Int))) (vi (fa (rv I0 r (k : Int)))) (hF.tr (sAsk_X f1)) (by omega)
          refine ⟨J, Eq.trans (P117_6_1 (h1 := by omega) (g1 := hb) (h2 := h1) (h3 := by rw [ev]; exact h2) (g2 := by rw [ev]; exact hrng) (c1 := by rw [ev]; exact c1) (h4 := h3)) ?_, f1.tr hJ⟩
          rw [lem_w32k (by omega), ev]
          exact hr'
theorem s117 (hfa : FarOk d w fa I0 t) (hr : rwOk I0 r) (I : H3) (hF : Fr sX I0 I) : ∃ J, Cal (d + 1) 117 [vr 11 0, vr 3 w, vr 4 r, vi p, vi fst] (mk I L t) = some (vi (gapP fa (rv I0 r) p fst), mk J L t) ∧ Fr sAsk I J := by
  obtain ⟨J, h, k⟩ := l117 (L := L) (p := p) (fst := fst) hfa hr 9 0 (-1) I vx vx hF rfl
  exact ⟨J, Eq.trans P117_0_0 h, k⟩
end GAP
/-- how sure, of the face f -/
def suP (A : Nat → (Nat → Int) → Int) (G : Nat → Int) (k : Int) (m : Nat → Int) (fn : Nat → Int) (kf : Int) (gap first : Int) : Int :=
  A 6 (gFi (gTh G (difP fn m 0 12 0) (difP fn m 12 4 0) (if kf = k then 1 else 0)) gap first)
def suW (I : H3) (t : Nat → Nat) (w r : Nat) (p : Int) : Int :=
  if rv I r p = -1 then -1 else suP (aW I t w) (gvW I w) (I 3 w 3) (I 28 w) (I 22 (rv I r p).toNat) (I 1 (rv I r p).toNat 1) (gapP (fW I t w) (rv I r) p (fW I t w (rv I r p))) (fW I t w (rv I r p))
theorem s116 {d w r : Nat} {I L : H3} {t : Nat → Nat} {p : Int} (hm : mOk I t w) (hw : R31 (I 28 w)) (hF : fcOk I) (hr : rwOk I r) : ∃ J, Cal (d + 5) 116 [vr 11 0, vr 3 w, vr 4 r, vi p] (mk I L t) = some (vi (suW I t w r p), mk J L t) ∧ Fr sAsk I J := by
  unfold suW
  by_cases h1 : rv I r p = -1
  · rw [if_pos h1]
    exact ⟨I, P116_0_0 (g1 := hr.1) (h1 := h1), Fr.rfl'⟩
  · rw [if_neg h1]
    have hrng : 0 ≤ rv I r p ∧ rv I r p < 120 := (hr.2 p).resolve_left h1
    have hfa := far_ok (d := d) hm hw hF
    have hfa1 := far_ok (d := d + 1) hm hw hF
    obtain ⟨J1, c1, f1⟩ := hfa1 I L Fr.rfl' (rv I r p) hrng
    obtain ⟨J2, c2, f2⟩ := s117 (L := L) (p := p) (fst := fW I t w (rv I r p)) hfa hr J1 (sAsk_X f1)
    obtain ⟨J3, c3, f3, e3⟩ := s112 (d := d + 3) (w := w) (I := J2) (L := L) (t := t)
    have F3 : Fr sAsk I J3 := (f1.tr f2).tr (f3.mo (fun r i c k => by
      simp only [sAsk, Bool.or_eq_false_iff] at k
      exact k.1))
    have e22 : J3 22 = I 22 := F3.rg (fun _ _ => rfl)
    have e28 : J3 28 = I 28 := F3.rg (fun _ _ => rfl)
    have e01 : J3 1 = I 1 := F3.rg (fun _ _ => rfl)
    have e03 : J3 3 = I 3 := F3.rg (fun _ _ => rfl)
    have e032 : J2 3 = I 3 := (f1.tr f2).rg (fun _ _ => rfl)
    obtain ⟨J4, c4, f4, e4⟩ := s113 (d := d + 3) (w := w) (f := (rv I r p).toNat) (I := J3) (L := L) (t := t) (by rw [e22]; exact hF _ (by omega)) (by rw [e28]; exact hw)
    have F4 : Fr sAsk I J4 := F3.tr (f4.mo (fun r i c k => by
      simp only [sAsk, Bool.or_eq_false_iff] at k
      exact k.1))
    have r3 : J4 3 = I 3 := F4.rg (fun _ _ => rfl)
    have F5 : Fr sAsk I (up3 (up3 J4 13 0 8 (fW I t w (rv I r p))) 13 0 7 (gapP (fW I t w) (rv I r) p (fW I t w (rv I r p)))) := (F4.up rfl).up rfl
    have eh : hC (up3 (up3 J4 13 0 8 (fW I t w (rv I r p))) 13 0 7 (gapP (fW I t w) (rv I r) p (fW I t w (rv I r p)))) = hC I := hC_cg (F5.rg (fun _ _ => rfl)) (F5.rg (fun _ _ => rfl)) (F5.rg (fun _ _ => rfl)) (F5.rg (fun _ _ => rfl))
    obtain ⟨J6, c6, f6⟩ := s18 (d := d + 3) (i := t (J4 3 w 2).toNat) (w := 6) (I := up3 (up3 J4 13 0 8 (fW I t w (rv I r p))) 13 0 7 (gapP (fW I t w) (rv I r) p (fW I t w (rv I r p)))) (L := L) (t := t) (by decide) (by rw [r3]; exact hOk_cg (F5.rg (fun _ _ => rfl)) (F5.rg (fun _ _ => rfl)) hm.2.1) (by rw [r3, eh]; exact hm.2.2)
    refine ⟨J6, Eq.trans (P116_0_1 (g1 := hr.1) (h1 := h1) (g2 := hrng) (c1 := c1) (c2 := c2) (c3 := c3) (c4 := c4) (g3 := by rw [r3]; exact hm.1) (c5 := c6)) ?_, F5.tr (f6.mo ?_)⟩
    · have eg : gvC (up3 (up3 J4 13 0 8 (fW I t w (rv I r p))) 13 0 7 (gapP (fW I t w) (rv I r) p (fW I t w (rv I r p)))) = gFi (gvC J4) (gapP (fW I t w) (rv I r) p (fW I t w (rv I r p))) (fW I t w (rv I r p)) := gvC_2
      unfold suP aW
      rw [eh, r3, eg, e4, e3, gvW_cg e032, e22, e28, e01, e03]
    · intro r i c h
      simp only [sAsk, Bool.or_eq_false_iff] at h
      exact h.2
