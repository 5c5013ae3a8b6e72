/-! the model: worlds by ways -/
/-- what the looks of the model may write -/
def sMs (r _ c : Nat) : Bool := r == 54 || r == 63 || r == 75 || r == 76 || r == 77 || r == 78 || r == 79 || r == 104 || (r == 12 && (c == 12 || c == 54 || c == 55))
theorem sMs_of {S : Nat → Nat → Nat → Bool} {I J : H3} (h : Fr S I J) (q : ∀ r i c, sMs r i c = false → S r i c = false) : Fr sMs I J := h.mo q
theorem sMs_parts {r i c : Nat} (h : sMs r i c = false) : (r == 54) = false ∧ (r == 63) = false ∧ (r == 75) = false ∧ (r == 76) = false ∧ (r == 77) = false ∧ (r == 78) = false ∧ (r == 79) = false ∧ (r == 104) = false ∧ (r == 12 && (c == 12 || c == 54 || c == 55)) = false := by
  simp only [sMs, Bool.or_eq_false_iff] at h
  exact ⟨h.1.1.1.1.1.1.1.1, h.1.1.1.1.1.1.1.2, h.1.1.1.1.1.1.2, h.1.1.1.1.1.2, h.1.1.1.1.2, h.1.1.1.2, h.1.1.2, h.1.2, h.2⟩
theorem sF_s {I J : H3} (h : Fr sF I J) : Fr sMs I J := h.mo (fun r i c q => by
  have p := sMs_parts q
  simp only [sF, p.2.1, p.2.2.1, Bool.or_self])
theorem sMx_s {I J : H3} (h : Fr sMx I J) : Fr sMs I J := h.mo (fun r i c q => by
  have p := sMs_parts q
  simp only [sMx, p.2.1, p.2.2.1, p.2.2.2.2.2.1, p.2.2.2.2.2.2.1, Bool.or_self])
theorem sMy_s {I J : H3} (h : Fr sMy I J) : Fr sMs I J := h.mo (fun r i c q => by
  have p := sMs_parts q
  simp only [sMy, p.2.1, p.2.2.1, p.2.2.2.1, Bool.or_self])
theorem sPt_s {I J : H3} (h : Fr sPt I J) : Fr sMs I J := h.mo (fun r i c q => by
  have p := sMs_parts q
  simp only [sPt, p.2.1, p.2.2.1, p.2.2.2.2.2.2.2.1, Bool.or_self])
theorem s75_s {I J : H3} (h : Fr s75 I J) : Fr sMs I J := sF_s (s75_F h)
theorem s63_s {I J : H3} (h : Fr s63 I J) : Fr sMs I J := sF_s (s63_F h)
theorem s76_s {I J : H3} (h : Fr s76 I J) : Fr sMs I J := h.mo (fun r i c q => (sMs_parts q).2.2.2.1)
theorem sLn_s {I J : H3} (h : Fr sLn I J) : Fr sMs I J := h.mo (fun r i c q => by
  have p := sMs_parts q
  have p9 := p.2.2.2.2.2.2.2.2
  simp only [sLn, p.1, Bool.false_or]
  simp only [Bool.and_eq_false_iff, Bool.or_eq_false_iff] at p9 ⊢
  rcases p9 with p9 | p9
  · exact Or.inl p9
  · exact Or.inr p9.1.1)
theorem sSee_s {I J : H3} (h : Fr sSee I J) : Fr sMs I J := h.mo (fun r i c q => by
  have p := sMs_parts q
  have p9 := p.2.2.2.2.2.2.2.2
  simp only [sSee, p.2.1, p.2.2.1, p.2.2.2.1, Bool.false_or]
  simp only [Bool.and_eq_false_iff, Bool.or_eq_false_iff] at p9 ⊢
  rcases p9 with p9 | p9
  · exact Or.inl p9
  · exact Or.inr ⟨p9.1.2, p9.2⟩)
theorem sTk_s {I J : H3} (h : Fr sTk I J) : Fr sMs I J := h.mo (fun r i c q => by
  have p := sMs_parts q
  have p9 := p.2.2.2.2.2.2.2.2
  simp only [sTk, p.2.2.1, p.2.2.2.1, p.2.2.2.2.1, Bool.false_or]
  simp only [Bool.and_eq_false_iff, Bool.or_eq_false_iff] at p9 ⊢
  rcases p9 with p9 | p9
  · exact Or.inl p9
  · exact Or.inr ⟨p9.1.2, p9.2⟩)
section MOD
variable {d h : Nat} {I L : H3} {t : Nat → Nat} {k dy s l f tt : Int} {m ty : Nat → Int}
/-- odds of the line -/
theorem modds (a : MAt I h k (gvT s l f tt) m ty dy) (hl : lnOk I) {kind led push : Int} (hp : 0 ≤ push ∧ push ≤ 99) : ∃ J, Cal (d + 3) 193 [vr 12 0, vi kind, vi led, vi push] (mk I L t) = some (vx, mk J L t) ∧ Fr sMx I J ∧ MAt J h k (gvT s l f tt) m ty dy ∧ ∀ j, j < 10 → J 78 0 j = odQ (ans (mH I h)) (gvT s l f tt dy) (mfa I h (gvT s l f tt dy) k m) (mrv I) (decide (kind ≠ 0)) led push j := by
  obtain ⟨J, c, F, g, o⟩ := sp193 (d := d) (L := L) (t := t) (kind := kind) (led := led) a.1 hl hp
  have eg : gN (gvM I) = gvT s l f tt dy := by
    rw [a.2.2.1]
    exact gN_gvB _ _ _ _ _
  rw [eg] at g
  refine ⟨J, c, F, a.fr F rfl rfl (fun _ => ⟨rfl, rfl, rfl⟩) (fun _ => ⟨rfl, rfl⟩) (g.trans a.2.2.1.symm), fun j hj => ?_⟩
  rw [o j hj, eg]
  have ef : fM I h (gvT s l f tt dy) = mfa I h (gvT s l f tt dy) k m := by
    unfold fM mfa
    rw [a.2.1]
    exact faP_cg (fun _ _ => rfl) (fun _ _ => rfl) (by rw [a.2.2.2.1, ← a.2.2.2.1, c16_c])
  rw [ef]
end MOD
/-- worlds of the model -/
def mww (I : H3) (i : Nat) : Int → Int := rvP (I 113 0 i) (fun p => I 112 0 (9 * i + p))
def mT (I : H3) (k : Nat) : Nat → Int := fun j => I 51 0 (16 * k + j)
def mwOk (I : H3) (i : Nat) : Prop := ((0 ≤ I 105 0 i ∧ I 105 0 i < 4) ∧ mhOk I (I 105 0 i).toNat ∧ okH (mH I (I 105 0 i).toNat)) ∧ (0 ≤ I 107 0 i ∧ I 107 0 i < 120) ∧ ((0 ≤ I 113 0 i ∧ I 113 0 i ≤ 9) ∧ rvB (mww I i)) ∧ 0 ≤ I 111 0 i ∧ I 111 0 i ≤ 60
def myOk (I : H3) (y : Nat) : Prop := (I 73 0 y = -1 ∨ (0 ≤ I 73 0 y ∧ I 73 0 y < 6)) ∧ (I 72 0 y = -1 ∨ (0 ≤ I 72 0 y ∧ I 72 0 y ≤ 99))
def kmOk (I : H3) : Prop := ∀ f, f < 120 → 0 ≤ I 49 0 f ∧ I 49 0 f < 6
def tmOk (I : H3) : Prop := ∀ k, k < 6 → R31 (mT I k)
def rmOk (I : H3) : Prop := ∀ r, r < 6 → mrOk I r
def mdr (I : H3) (y : Nat) : Bool := decide (I 73 0 y ≠ -1) && decide (0 < cntP (mrw I (I 73 0 y).toNat))
def mtrW (I : H3) (i y : Nat) : SS := trM (ans (mH I (I 105 0 i).toNat)) (gvT (I 108 0 i) (I 109 0 i) (I 110 0 i) 0) (nM I) (I 107 0 i).toNat (c16 (mT I (I 49 0 (I 107 0 i).toNat).toNat)) (mdr I y) (mrw I (I 73 0 y).toNat) (I 111 0 i).toNat
def mfaW (I : H3) (i y : Nat) : Int → Int := mfa I (I 105 0 i).toNat (gvT (I 108 0 i) (I 109 0 i) (I 110 0 i) 0 (mtrW I i y).2) (I 106 0 i) (mtrW I i y).1
def mtoW (I : H3) (i y : Nat) : Nat → Int := odQ (ans (mH I (I 105 0 i).toNat)) (gvT (I 108 0 i) (I 109 0 i) (I 110 0 i) 0 (mtrW I i y).2) (mfaW I i y) (mww I i) (decide (¬ I 70 0 y = 0)) (if I 72 0 y = -1 then -1 else I 114 0 i) (if I 72 0 y = -1 then 0 else I 72 0 y)
section MLEAD
variable {d i y : Nat} {I L : H3} {t : Nat → Nat}
def s77 (r _ _ : Nat) : Bool := r == 77
theorem l227t {g : Nat} (hi : i < 40) (e107 : 0 ≤ I 107 0 i ∧ I 107 0 i < 120) (hg : I 49 0 (I 107 0 i).toNat = (g : Int)) (hg6 : g < 6) : ∀ (n j : Nat), j + n = 16 → Res (d + 1) 227 43 [vr 12 0, vi (i : Int), vi (y : Int), vi (j : Int)] [] (mk (sr I 77 0 j (mT I g)) L t) = Res (d + 1) 227 43 [vr 12 0, vi (i : Int), vi (y : Int), vi 16] [] (mk (sr I 77 0 16 (mT I g)) L t)
  | 0, j, hj => by
    have h16 : j = 16 := by omega
    subst h16
    rfl
  | n + 1, j, hj => by
    have ix := ix16 (f := g) (k := j) (by omega) (by omega)
    have v107 : sr I 77 0 j (mT I g) 107 0 ((i : Int).toNat) = I 107 0 i := by rw [sr_r (show (107 : Nat) ≠ 77 by decide)]; rfl
    have v49 : sr I 77 0 j (mT I g) 49 0 (I 107 0 i).toNat = (g : Int) := by rw [sr_r (show (49 : Nat) ≠ 77 by decide), hg]
    refine Eq.trans (P227_43_0 (h1 := by omega) (g1 := by omega) (g2 := by rw [v107]; omega) (g3 := by rw [v107, v49, ix]; omega) (g4 := by omega)) ?_
    rw [v107, v49, ix, lem_w32k (k := j) (by omega), Int.toNat_natCast, Int.toNat_natCast, sr_r (show (51 : Nat) ≠ 77 by decide)]
    have e : I 51 0 (16 * g + j) = mT I g j := rfl
    rw [e, sr_s]
    exact l227t hi e107 hg hg6 n (j + 1) (by omega)
theorem l227w {h : Nat} {k s l f tt : Int} {ty : Nat → Int} (hi : i < 40) (hty : R31 ty) {N : Nat} (hN : I 111 0 i = (N : Int)) (hN6 : N ≤ 60) : ∀ (n j : Nat) (J : H3) (m : Nat → Int) (dy : Int), j + n = N → Fr sMs I J → MAt J h k (gvT s l f tt) m ty dy →
    ∃ J', Res (d + 3) 227 119 [vr 12 0, vi (i : Int), vi (y : Int), vi (j : Int)] [] (mk J L t) = Res (d + 3) 227 119 [vr 12 0, vi (i : Int), vi (y : Int), vi (N : Int)] [] (mk J' L t) ∧ Fr sMs I J' ∧ MAt J' h k (gvT s l f tt) (waP (dayP (ans (mH I h)) (gvT s l f tt) ty) n (m, dy)).1 ty (waP (dayP (ans (mH I h)) (gvT s l f tt) ty) n (m, dy)).2
  | 0, j, J, m, dy, hj, F, a => by
    have e : j = N := by omega
    subst e
    exact ⟨J, rfl, F, a⟩
  | n + 1, j, J, m, dy, hj, F, a => by
    obtain ⟨J1, c1, F1, a1⟩ := mnone (d := d + 2) (L := L) (t := t) a
    obtain ⟨J2, c2, F2, a2⟩ := mday (d := d) (L := L) (t := t) a1 hty
    rw [mH_fr (F.tr (s75_s F1)) (fun _ => ⟨rfl, rfl, rfl⟩)] at a2
    obtain ⟨J3, hr, F3, a3⟩ := l227w hi hty hN hN6 n (j + 1) J2 _ _ (by omega) ((F.tr (s75_s F1)).tr (sMy_s F2)) a2
    refine ⟨J3, Eq.trans (P227_119_0 (g1 := by omega) (h1 := by rw [Int.toNat_natCast, F 111 0 i rfl, hN]; omega) (c1 := c1) (c2 := c2)) ?_, F3, a3⟩
    rw [lem_w32k (by omega)]
    exact hr
theorem l227l {J0 : H3} (hi : i < 40) (h9 : J0 12 0 12 ≤ 9) : ∀ (n k : Nat) (J : H3), (J0 12 0 12 ≤ (k : Int) → n = 0) → ((k : Int) < J0 12 0 12 → (k : Int) + n = J0 12 0 12) → Fr (fun r _ _ => r == 54) J0 J → (∀ j, j < k → J 54 0 j = J0 112 0 (9 * i + j)) →
    ∃ J' k', Res (d + 1) 227 155 [vr 12 0, vi (i : Int), vi (y : Int), vi (k : Int)] [] (mk J L t) = Res (d + 1) 227 155 [vr 12 0, vi (i : Int), vi (y : Int), vi k'] [] (mk J' L t) ∧ J0 12 0 12 ≤ k' ∧ Fr (fun r _ _ => r == 54) J0 J' ∧ ∀ j : Nat, (j : Int) < J0 12 0 12 ∨ j < k → J' 54 0 j = J0 112 0 (9 * i + j)
  | 0, k, J, h0, h1, hF, hj => ⟨J, (k : Int), rfl, (by by_cases c : (k : Int) < J0 12 0 12; have := h1 c; omega; omega), hF, fun j q => hj j (by by_cases c : (k : Int) < J0 12 0 12; have := h1 c; omega; omega)⟩
  | n + 1, k, J, h0, h1, hF, hj => by
    have e12 : J 12 0 12 = J0 12 0 12 := hF 12 0 12 rfl
    have hlt : (k : Int) < J0 12 0 12 := by
      by_cases c : J0 12 0 12 ≤ (k : Int)
      · have := h0 c
        omega
      · omega
    have hN := h1 hlt
    have ix := ix9 (f := i) (k := k) (by omega) (by omega)
    obtain ⟨J', k', hr', hk', hJ, hv⟩ := l227l hi h9 n (k + 1) (up3 J 54 0 k (J0 112 0 (9 * i + k))) (by omega) (by omega) (hF.up rfl) (fun j q => by
      by_cases c : j = k
      · subst c
        rw [up_e]
      · rw [up_s c]
        exact hj j (by omega))
    refine ⟨J', k', Eq.trans (P227_155_0 (h1 := by rw [e12]; exact hlt) (g1 := by rw [ix]; omega) (g2 := by omega)) ?_, hk', hJ, fun j q => hv j (by omega)⟩
    rw [ix, lem_w32k (k := k) (by omega), Int.toNat_natCast, Int.toNat_natCast, hF 112 0 (9 * i + k) rfl]
    exact hr'
/-- a world is led by a way -/
theorem sp227 (hi : i < 40) (hy4 : y < 4) (hw : mwOk I i) (hy : myOk I y) (hF : fmOk I) (hK : kmOk I) (hT : tmOk I) (hR : rmOk I) :
    ∃ J, Cal (d + 4) 227 [vr 12 0, vi (i : Int), vi (y : Int)] (mk I L t) = some (vx, mk J L t) ∧ Fr sMs I J ∧ MAt J (I 105 0 i).toNat (I 106 0 i) (gvT (I 108 0 i) (I 109 0 i) (I 110 0 i) 0) (mtrW I i y).1 (c16 (mT I (I 49 0 (I 107 0 i).toNat).toNat)) (mtrW I i y).2 ∧ mrv J = mww I i ∧ lnOk J ∧ ∀ j, j < 10 → J 78 0 j = mtoW I i y j := by
  obtain ⟨⟨hh, hb, hok⟩, hd, hl, hn0, hn1⟩ := hw
  have hk := hK (I 107 0 i).toNat (by omega)
  have eh : (((I 105 0 i).toNat : Nat) : Int) = I 105 0 i := by omega
  have ed : (((I 107 0 i).toNat : Nat) : Int) = I 107 0 i := by omega
  have ek : I 49 0 (I 107 0 i).toNat = (((I 49 0 (I 107 0 i).toNat).toNat : Nat) : Int) := by omega
  obtain ⟨J1, c1, F1, a1⟩ := msee (d := d) (h := (I 105 0 i).toNat) (I := I) (L := L) (t := t) (k := I 106 0 i) (s := I 108 0 i) (l := I 109 0 i) (f := I 110 0 i) (tt := 0) (f0 := (I 107 0 i).toNat) (by omega) (by omega) hb hok
  rw [eh, ed] at c1
  have G1 := sSee_s F1
  -- the type
  have f107 : J1 107 0 i = I 107 0 i := G1 107 0 i rfl
  have f49 : J1 49 0 = I 49 0 := G1.ri (fun _ => rfl)
  have hr2 := l227t (d := d + 3) (i := i) (y := y) (I := J1) (L := L) (t := t) (g := (I 49 0 (I 107 0 i).toNat).toNat) hi (by rw [f107]; exact hd) (by rw [f107, f49]; exact ek) (by omega) 16 0 rfl
  rw [sr_0] at hr2
  have emT : mT J1 (I 49 0 (I 107 0 i).toNat).toNat = mT I (I 49 0 (I 107 0 i).toNat).toNat := by
    unfold mT
    rw [G1.ri (r := 51) (i := 0) (fun _ => rfl)]
  rw [emT] at hr2
  have G2 : Fr sMs I (sr J1 77 0 16 (mT I (I 49 0 (I 107 0 i).toNat).toNat)) := G1.wr (fun _ _ => rfl)
  have F77 : Fr s77 J1 (sr J1 77 0 16 (mT I (I 49 0 (I 107 0 i).toNat).toNat)) := Fr.rfl'.wr (fun _ _ => rfl)
  have a2 : MAt (sr J1 77 0 16 (mT I (I 49 0 (I 107 0 i).toNat).toNat)) (I 105 0 i).toNat (I 106 0 i) (gvT (I 108 0 i) (I 109 0 i) (I 110 0 i) 0) (seeP (ans (mH I (I 105 0 i).toNat)) (gvT (I 108 0 i) (I 109 0 i) (I 110 0 i) 0) (nM I (I 107 0 i).toNat)) (c16 (mT I (I 49 0 (I 107 0 i).toNat).toNat)) 0 := by
    refine ⟨(mhd_fr F77 rfl (fun _ => ⟨rfl, rfl, rfl⟩) a1.1).1, (F77 12 0 55 rfl).trans a1.2.1, (gvM_cg (F77.ri (fun _ => rfl))).trans a1.2.2.1, ?_, sr_c16, ?_⟩
    · rw [F77.ri (r := 76) (i := 0) (fun _ => rfl)]
      exact a1.2.2.2.1
    · rw [F77.ri (r := 76) (i := 0) (fun _ => rfl)]
      exact a1.2.2.2.2.2
  have hty : R31 (c16 (mT I (I 49 0 (I 107 0 i).toNat).toNat)) := (hT _ (by omega)).d
  have e73 : ∀ J, Fr sMs I J → J 73 0 y = I 73 0 y := fun J F => F 73 0 y rfl
  -- up to the days
  have mid : ∃ J4, Res (d + 4) 227 43 [vr 12 0, vi (i : Int), vi (y : Int), vi 16] [] (mk (sr J1 77 0 16 (mT I (I 49 0 (I 107 0 i).toNat).toNat)) L t) = Res (d + 4) 227 119 [vr 12 0, vi (i : Int), vi (y : Int), vi 0] [] (mk J4 L t) ∧ Fr sMs I J4 ∧ MAt J4 (I 105 0 i).toNat (I 106 0 i) (gvT (I 108 0 i) (I 109 0 i) (I 110 0 i) 0) (if mdr I y then pulP (ans (mH I (I 105 0 i).toNat) 3 (gvT (I 108 0 i) (I 109 0 i) (I 110 0 i) 0 0)) (cmP (nM I) (fun p => nbP (nM I) (mrw I (I 73 0 y).toNat) (seeP (ans (mH I (I 105 0 i).toNat)) (gvT (I 108 0 i) (I 109 0 i) (I 110 0 i) 0) (nM I (I 107 0 i).toNat)) (2 * p) (ans (mH I (I 105 0 i).toNat) 7 (gvT (I 108 0 i) (I 109 0 i) (I 110 0 i) 0 0)))) (seeP (ans (mH I (I 105 0 i).toNat)) (gvT (I 108 0 i) (I 109 0 i) (I 110 0 i) 0) (nM I (I 107 0 i).toNat)) else seeP (ans (mH I (I 105 0 i).toNat)) (gvT (I 108 0 i) (I 109 0 i) (I 110 0 i) 0) (nM I (I 107 0 i).toNat)) (c16 (mT I (I 49 0 (I 107 0 i).toNat).toNat)) 0 := by
    by_cases h1 : I 73 0 y = -1
    · have hdr : mdr I y = false := by
        unfold mdr
        rw [decide_eq_false (p := I 73 0 y ≠ -1) (fun q => q h1)]
        rfl
      rw [hdr]
      exact ⟨_, P227_43_3 (h1 := by omega) (g1 := by omega) (h2 := by rw [Int.toNat_natCast, e73 _ G2]; exact h1), G2, a2⟩
    · have h6 := hy.1.resolve_left h1
      have er6 : (((I 73 0 y).toNat : Nat) : Int) = I 73 0 y := by omega
      have hrd := hR (I 73 0 y).toNat (by omega)
      have hrd2 : mrOk (sr J1 77 0 16 (mT I (I 49 0 (I 107 0 i).toNat).toNat)) (I 73 0 y).toNat ∧ mrw (sr J1 77 0 16 (mT I (I 49 0 (I 107 0 i).toNat).toNat)) (I 73 0 y).toNat = mrw I (I 73 0 y).toNat := by
        unfold mrOk mrw
        rw [G2.ri (r := 53) (i := 0) (fun _ => rfl), G2.ri (r := 52) (i := 0) (fun _ => rfl)]
        exact ⟨hrd, rfl⟩
      obtain ⟨J3, c3, F3, e12, em3, ln3⟩ := sp156 (d := d + 3) (L := L) (t := t) (r := (I 73 0 y).toNat) (by omega) hrd2.1
      rw [er6] at c3
      rw [hrd2.2] at em3
      have G3 : Fr sMs I J3 := G2.tr (sLn_s F3)
      have a3 : MAt J3 (I 105 0 i).toNat (I 106 0 i) (gvT (I 108 0 i) (I 109 0 i) (I 110 0 i) 0) (seeP (ans (mH I (I 105 0 i).toNat)) (gvT (I 108 0 i) (I 109 0 i) (I 110 0 i) 0) (nM I (I 107 0 i).toNat)) (c16 (mT I (I 49 0 (I 107 0 i).toNat).toNat)) 0 := a2.fr F3 rfl rfl (fun _ => ⟨rfl, rfl, rfl⟩) (fun _ => ⟨rfl, rfl⟩) (gvM_cg (F3.ri (fun _ => rfl)))
      have c4 : Cal (d + 3) 158 [vr 12 0] (mk J3 L t) = some (vi (cntP (mrv J3)), mk J3 L t) := sp158 ln3.1.2
      rw [em3] at c4
      by_cases h2 : 0 < cntP (mrw I (I 73 0 y).toNat)
      · have hdr : mdr I y = true := by
          unfold mdr
          rw [decide_eq_true (p := I 73 0 y ≠ -1) h1, decide_eq_true h2]
          rfl
        rw [hdr]
        have hh' := cntP_pos.mp h2
        have enM : nM J3 = nM I := nM_fr G3 (fun _ => rfl)
        have emH := mH_fr (h := (I 105 0 i).toNat) G3 (fun _ => ⟨rfl, rfl, rfl⟩)
        obtain ⟨J5, c5, F5, a5, e5⟩ := mput (d := d) (L := L) (t := t) a3 ln3 (by rw [em3]; exact hh')
        rw [enM, em3, emH] at e5
        have G5 : Fr sMs I J5 := G3.tr (sPt_s F5)
        obtain ⟨J6, c6, F6, a6⟩ := mpullm (d := d + 1) (L := L) (t := t) a5 e5 (cmP_in hF (fun p _ => nbP_in hrd.2 hh'))
        rw [mH_fr G5 (fun _ => ⟨rfl, rfl, rfl⟩)] at a6
        exact ⟨J6, P227_43_1 (h1 := by omega) (g1 := by omega) (h2 := by rw [Int.toNat_natCast, e73 _ G2]; exact h1) (c1 := by rw [Int.toNat_natCast, e73 _ G2]; exact c3) (c2 := c4) (h3 := h2) (c3 := c5) (c4 := c6), G5.tr (sMy_s F6), a6⟩
      · have hdr : mdr I y = false := by
          unfold mdr
          rw [decide_eq_false h2, Bool.and_false]
        rw [hdr]
        exact ⟨J3, P227_43_2 (h1 := by omega) (g1 := by omega) (h2 := by rw [Int.toNat_natCast, e73 _ G2]; exact h1) (c1 := by rw [Int.toNat_natCast, e73 _ G2]; exact c3) (c2 := c4) (h3 := by omega), G3, a3⟩
  obtain ⟨J4, hr4, G4, a4⟩ := mid
  obtain ⟨J5, hr5, G5, a5⟩ := l227w (d := d + 1) (i := i) (y := y) (L := L) (t := t) (I := I) hi hty (N := (I 111 0 i).toNat) (by omega) (by omega) (I 111 0 i).toNat 0 J4 _ 0 (by omega) G4 a4
  -- the line
  have e113 : J5 113 0 i = I 113 0 i := G5 113 0 i rfl
  have hl9 := hl.1
  have G6 : Fr sMs I (up3 J5 12 0 12 (I 113 0 i)) := G5.up rfl
  obtain ⟨J7, k7, hr7, hk7, F7, hv7⟩ := l227l (d := d + 3) (i := i) (y := y) (L := L) (t := t) (J0 := up3 J5 12 0 12 (I 113 0 i)) hi (by rw [up_e]; omega) (I 113 0 i).toNat 0 (up3 J5 12 0 12 (I 113 0 i)) (by rw [up_e]; omega) (by rw [up_e]; omega) Fr.rfl' (fun j q => by omega)
  rw [up_e] at hk7 hv7
  have F57 : Fr sLn J5 J7 := Fr.tr (Fr.rfl'.up rfl) (sLn_54 F7)
  have G7 : Fr sMs I J7 := G5.tr (sLn_s F57)
  have e12 : J7 12 0 12 = I 113 0 i := (F7 12 0 12 rfl).trans up_e
  have emv : mrv J7 = mww I i := by
    unfold mrv mww
    rw [e12]
    exact rvP_cg (fun j q => by
      rw [hv7 j (Or.inl q), up_r (show (112 : Nat) ≠ 12 by decide)]
      exact G5 112 0 _ rfl)
  have ln7 : lnOk J7 := by
    unfold lnOk
    rw [emv, e12]
    exact hl
  have a7 : MAt J7 (I 105 0 i).toNat (I 106 0 i) (gvT (I 108 0 i) (I 109 0 i) (I 110 0 i) 0) (mtrW I i y).1 (c16 (mT I (I 49 0 (I 107 0 i).toNat).toNat)) (mtrW I i y).2 := a5.fr F57 rfl rfl (fun _ => ⟨rfl, rfl, rfl⟩) (fun _ => ⟨rfl, rfl⟩) (gvM_cg (F57.ri (fun _ => rfl)))
  have mf7 : mfa J7 (I 105 0 i).toNat (gvT (I 108 0 i) (I 109 0 i) (I 110 0 i) 0 (mtrW I i y).2) (I 106 0 i) (mtrW I i y).1 = mfaW I i y := mfa_fr G7 (fun _ => ⟨rfl, rfl, rfl⟩) (fun _ => ⟨rfl, rfl⟩)
  have emH7 := mH_fr (h := (I 105 0 i).toNat) G7 (fun _ => ⟨rfl, rfl, rfl⟩)
  have e70 : J7 70 0 ((y : Int).toNat) = I 70 0 y := G7 70 0 y rfl
  have e72 : J7 72 0 ((y : Int).toNat) = I 72 0 y := G7 72 0 y rfl
  have e114 : J7 114 0 ((i : Int).toNat) = I 114 0 i := G7 114 0 i rfl
  have front : Cal (d + 4) 227 [vr 12 0, vi (i : Int), vi (y : Int)] (mk I L t) = Res (d + 4) 227 155 [vr 12 0, vi (i : Int), vi (y : Int), vi k7] [] (mk J7 L t) := by
    refine Eq.trans (P227_0_0 (g1 := by omega) (c1 := c1)) (Eq.trans hr2 (Eq.trans hr4 (Eq.trans hr5 ?_)))
    refine Eq.trans (P227_119_1 (g1 := by omega) (h1 := by rw [Int.toNat_natCast, G5 111 0 i rfl]; omega)) ?_
    rw [Int.toNat_natCast, e113]
    exact hr7
  have ep : 0 ≤ (if I 72 0 y = -1 then 0 else I 72 0 y) ∧ (if I 72 0 y = -1 then 0 else I 72 0 y) ≤ 99 := by
    split
    · decide
    · next q => exact hy.2.resolve_left q
  by_cases h2 : I 72 0 y = -1
  · rw [if_pos h2] at ep
    by_cases h0 : I 70 0 y = 0
    · obtain ⟨J8, c8, F8, a8, o8⟩ := modds (d := d) (L := L) (t := t) (kind := 0) (led := -1) (push := 0) a7 ln7 ep
      refine ⟨J8, front.trans (P227_155_3 (h1 := by rw [e12]; exact hk7) (g1 := by omega) (h2 := by rw [e70]; exact h0) (h3 := by rw [e72]; exact h2) (c1 := c8)), G7.tr (sMx_s F8), a8, by rw [mrv_fr F8 rfl (fun _ => rfl)]; exact emv, lnOk_fr F8 rfl (fun _ => rfl) ln7, fun j hj => ?_⟩
      rw [o8 j hj, emH7, mf7, emv]
      unfold mtoW
      rw [if_pos h2, if_pos h2, decide_eq_false (p := ¬ I 70 0 y = 0) (fun q => q h0)]
      rfl
    · obtain ⟨J8, c8, F8, a8, o8⟩ := modds (d := d) (L := L) (t := t) (kind := 1) (led := -1) (push := 0) a7 ln7 ep
      refine ⟨J8, front.trans (P227_155_1 (h1 := by rw [e12]; exact hk7) (g1 := by omega) (h2 := by rw [e70]; exact h0) (h3 := by rw [e72]; exact h2) (c1 := c8)), G7.tr (sMx_s F8), a8, by rw [mrv_fr F8 rfl (fun _ => rfl)]; exact emv, lnOk_fr F8 rfl (fun _ => rfl) ln7, fun j hj => ?_⟩
      rw [o8 j hj, emH7, mf7, emv]
      unfold mtoW
      rw [if_pos h2, if_pos h2, decide_eq_true (p := ¬ I 70 0 y = 0) h0]
      rfl
  · rw [if_neg h2] at ep
    by_cases h0 : I 70 0 y = 0
    · obtain ⟨J8, c8, F8, a8, o8⟩ := modds (d := d) (L := L) (t := t) (kind := 0) (led := I 114 0 i) (push := I 72 0 y) a7 ln7 ep
      refine ⟨J8, front.trans (P227_155_4 (h1 := by rw [e12]; exact hk7) (g1 := by omega) (h2 := by rw [e70]; exact h0) (h3 := by rw [e72]; exact h2) (g2 := by omega) (c1 := by rw [e114, e72]; exact c8)), G7.tr (sMx_s F8), a8, by rw [mrv_fr F8 rfl (fun _ => rfl)]; exact emv, lnOk_fr F8 rfl (fun _ => rfl) ln7, fun j hj => ?_⟩
      rw [o8 j hj, emH7, mf7, emv]
      unfold mtoW
      rw [if_neg h2, if_neg h2, decide_eq_false (p := ¬ I 70 0 y = 0) (fun q => q h0)]
      rfl
    · obtain ⟨J8, c8, F8, a8, o8⟩ := modds (d := d) (L := L) (t := t) (kind := 1) (led := I 114 0 i) (push := I 72 0 y) a7 ln7 ep
      refine ⟨J8, front.trans (P227_155_2 (h1 := by rw [e12]; exact hk7) (g1 := by omega) (h2 := by rw [e70]; exact h0) (h3 := by rw [e72]; exact h2) (g2 := by omega) (c1 := by rw [e114, e72]; exact c8)), G7.tr (sMx_s F8), a8, by rw [mrv_fr F8 rfl (fun _ => rfl)]; exact emv, lnOk_fr F8 rfl (fun _ => rfl) ln7, fun j hj => ?_⟩
      rw [o8 j hj, emH7, mf7, emv]
      unfold mtoW
      rw [if_neg h2, if_neg h2, decide_eq_true (p := ¬ I 70 0 y = 0) h0]
      rfl
end MLEAD
