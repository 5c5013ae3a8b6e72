/-! the model: sure, sights, a world led by a way -/
section MSURE
variable {d h : Nat} {I L : H3} {t : Nat → Nat} {k dy s l f tt : Int} {m ty : Nat → Int}
def mfa (I : H3) (h : Nat) (G : Nat → Int) (k : Int) (m : Nat → Int) : Int → Int := faP (ans (mH I h)) G k m (nM I) (I 49 0)
theorem mfa_in {I : H3} {h : Nat} {G : Nat → Int} {k : Int} {m : Nat → Int} (x : Int) : 0 ≤ mfa I h G k m x ∧ mfa I h G k m x ≤ 9999 := faP_in _ _ _ _ _ _ (fun g => by
  have := ans_in (mH I h) (w := 0) g (by decide)
  rwa [rom_v.1.1, rom_v.1.2] at this) x
/-- a distance -/
theorem mfarA (a : MAt I h k (gvT s l f tt) m ty dy) {x : Int} (hx : 0 ≤ x ∧ x < 120) : ∃ J, Cal (d + 2) 188 [vr 12 0, vi x] (mk I L t) = some (vi (mfa I h (gvT s l f tt dy) k m x), mk J L t) ∧ Fr sF I J ∧ MAt J h k (gvT s l f tt) m ty dy := by
  obtain ⟨J, c, F, g⟩ := sp188 (d := d) (f := x.toNat) (L := L) (t := t) (by omega) a.1
  have ex : ((x.toNat : Nat) : Int) = x := by omega
  have eg : gN (gvM I) = gvT s l f tt dy := by
    rw [a.2.2.1]
    exact gN_gvB _ _ _ _ _
  rw [ex, eg] at c
  rw [eg] at g
  refine ⟨J, c.trans ?_, F, a.fr F rfl rfl (fun _ => ⟨rfl, rfl, rfl⟩) (fun _ => ⟨rfl, rfl⟩) (g.trans a.2.2.1.symm)⟩
  unfold mfa faP
  rw [if_pos hx, a.2.1, farP_cg rfl (m' := m) (by rw [a.2.2.2.1, ← a.2.2.2.1, c16_c])]
theorem mfa_fr {S : Nat → Nat → Nat → Bool} {J : H3} {G : Nat → Int} (F : Fr S I J) (h3 : ∀ c, S 55 0 c = false ∧ S 56 0 c = false ∧ S 57 0 c = false) (h4 : ∀ c, S 48 0 c = false ∧ S 49 0 c = false) : mfa J h G k m = mfa I h G k m := by
  unfold mfa
  rw [mH_fr F h3, nM_fr F (fun c => (h4 c).1), F.ri (r := 49) (i := 0) (fun c => (h4 c).2)]
theorem l194 {I0 : H3} {p : Nat} {first : Int} (hl : lnOk I0) : ∀ (n j : Nat) (b : Int) (I : H3) (u5 : MV), (j : Int) + n = I0 12 0 12 → Fr sF I0 I → MAt I h k (gvT s l f tt) m ty dy →
    ∃ J u5', Res (d + 3) 194 16 [vr 12 0, vi (p : Int), vi first, vi b, vi (j : Int), u5] [] (mk I L t) = Res (d + 3) 194 16 [vr 12 0, vi (p : Int), vi first, vi (fo (gapS (mfa I0 h (gvT s l f tt dy) k m) (mrv I0) (p : Int)) j n b), vi (I0 12 0 12), u5'] [] (mk J L t) ∧ Fr sF I0 J ∧ MAt J h k (gvT s l f tt) m ty dy
  | 0, j, b, I, u5, hj, F, a => by
    have e : (j : Int) = I0 12 0 12 := by omega
    rw [e]
    exact ⟨I, u5, rfl, F, a⟩
  | n + 1, j, b, I, u5, hj, F, a => by
    have e12 : I 12 0 12 = I0 12 0 12 := F 12 0 12 rfl
    have e54 : I 54 0 = I0 54 0 := F.ri (fun _ => rfl)
    have hl9 := hl.1
    have ev : mrv I0 (j : Int) = I0 54 0 j := mrv_at (by omega)
    rw [fo_s]
    by_cases h1 : (j : Int) = (p : Int)
    · have es : gapS (mfa I0 h (gvT s l f tt dy) k m) (mrv I0) (p : Int) j b = b := if_pos h1
      rw [es]
      obtain ⟨J, u5', hr, hJ⟩ := l194 hl n (j + 1) b I u5 (by omega) F a
      refine ⟨J, u5', Eq.trans (P194_16_4 (h1 := by rw [e12]; omega) (h2 := h1)) ?_, hJ⟩
      rw [lem_w32k (by omega)]
      exact hr
    · by_cases h2 : I0 54 0 j = -1
      · have es : gapS (mfa I0 h (gvT s l f tt dy) k m) (mrv I0) (p : Int) j b = b := by
          unfold gapS
          rw [if_neg h1, ev, if_pos h2]
        rw [es]
        obtain ⟨J, u5', hr, hJ⟩ := l194 hl n (j + 1) b I u5 (by omega) F a
        refine ⟨J, u5', Eq.trans (P194_16_0 (h1 := by rw [e12]; omega) (h2 := h1) (g1 := by omega) (h3 := by rw [Int.toNat_natCast, e54]; exact h2)) ?_, hJ⟩
        rw [lem_w32k (by omega)]
        exact hr
      · have hb := (hl.2 (j : Int)).resolve_left (by rw [ev]; exact h2)
        rw [ev] at hb
        obtain ⟨J1, c1, F1, a1⟩ := mfarA (d := d) (L := L) (t := t) a hb
        rw [mfa_fr F (fun _ => ⟨rfl, rfl, rfl⟩) (fun _ => ⟨rfl, rfl⟩)] at c1
        by_cases h3 : b = -1
        · have es : gapS (mfa I0 h (gvT s l f tt dy) k m) (mrv I0) (p : Int) j b = mfa I0 h (gvT s l f tt dy) k m (I0 54 0 j) := by
            unfold gapS
            rw [if_neg h1, ev, if_neg h2, if_pos h3]
          rw [es]
          obtain ⟨J, u5', hr, hJ⟩ := l194 hl n (j + 1) (mfa I0 h (gvT s l f tt dy) k m (I0 54 0 j)) J1 _ (by omega) (F.tr F1) a1
          refine ⟨J, u5', Eq.trans (P194_16_3 (h1 := by rw [e12]; omega) (h2 := h1) (g1 := by omega) (h3 := by rw [Int.toNat_natCast, e54]; exact h2) (c1 := by rw [Int.toNat_natCast, e54]; exact c1) (h4 := h3)) ?_, hJ⟩
          rw [lem_w32k (by omega)]
          exact hr
        · by_cases h4 : mfa I0 h (gvT s l f tt dy) k m (I0 54 0 j) < b
          · have es : gapS (mfa I0 h (gvT s l f tt dy) k m) (mrv I0) (p : Int) j b = mfa I0 h (gvT s l f tt dy) k m (I0 54 0 j) := by
              unfold gapS
              rw [if_neg h1, ev, if_neg h2, if_neg h3, if_pos h4]
            rw [es]
            obtain ⟨J, u5', hr, hJ⟩ := l194 hl n (j + 1) (mfa I0 h (gvT s l f tt dy) k m (I0 54 0 j)) J1 _ (by omega) (F.tr F1) a1
            refine ⟨J, u5', Eq.trans (P194_16_1 (h1 := by rw [e12]; omega) (h2 := h1) (g1 := by omega) (h3 := by rw [Int.toNat_natCast, e54]; exact h2) (c1 := by rw [Int.toNat_natCast, e54]; exact c1) (h4 := h3) (h5 := h4)) ?_, hJ⟩
            rw [lem_w32k (by omega)]
            exact hr
          · have es : gapS (mfa I0 h (gvT s l f tt dy) k m) (mrv I0) (p : Int) j b = b := by
              unfold gapS
              rw [if_neg h1, ev, if_neg h2, if_neg h3, if_neg h4]
            rw [es]
            obtain ⟨J, u5', hr, hJ⟩ := l194 hl n (j + 1) b J1 (vi (mfa I0 h (gvT s l f tt dy) k m (I0 54 0 j))) (by omega) (F.tr F1) a1
            refine ⟨J, u5', Eq.trans (P194_16_2 (h1 := by rw [e12]; omega) (h2 := h1) (g1 := by omega) (h3 := by rw [Int.toNat_natCast, e54]; exact h2) (c1 := by rw [Int.toNat_natCast, e54]; exact c1) (h4 := h3) (h5 := by omega)) ?_, hJ⟩
            rw [lem_w32k (by omega)]
            exact hr
theorem gap_in {fa rv : Int → Int} {p : Int} (hf : ∀ x, 0 ≤ fa x ∧ fa x ≤ 9999) : fo (gapS fa rv p) 0 9 (-1) = -1 ∨ (0 ≤ fo (gapS fa rv p) 0 9 (-1) ∧ fo (gapS fa rv p) 0 9 (-1) ≤ 9999) :=
  fo_in (fun b => b = -1 ∨ (0 ≤ b ∧ b ≤ 9999)) 9 0 (-1) (Or.inl rfl) (fun j b _ _ hb => by
    unfold gapS
    have := hf (rv j)
    split
    · exact hb
    · split
      · exact hb
      · split
        · exact Or.inr this
        · split
          · exact Or.inr this
          · exact hb)
/-- how sure, of a place of the line -/
theorem msure (a : MAt I h k (gvT s l f tt) m ty dy) (hl : lnOk I) {p : Nat} (hp : mrv I (p : Int) ≠ -1) : ∃ J, Cal (d + 3) 194 [vr 12 0, vi (p : Int)] (mk I L t) = some (vi (suQ (ans (mH I h)) (gvT s l f tt dy) k m (nM I) (I 49 0) (mrv I) (p : Int)), mk J L t) ∧ Fr sF I J ∧ MAt J h k (gvT s l f tt) m ty dy := by
  have hl9 := hl.1
  have hin : (p : Int) < I 12 0 12 := by
    by_cases c : (p : Int) < I 12 0 12
    · exact c
    · exact absurd (mrv_ge (by omega)) hp
  have ev : mrv I (p : Int) = I 54 0 p := mrv_at hin
  have hb := (hl.2 (p : Int)).resolve_left hp
  obtain ⟨J1, c1, F1, a1⟩ := mfarA (d := d) (L := L) (t := t) a hb
  have er := mrv_fr F1 rfl (fun _ => rfl)
  obtain ⟨J2, u5', hr2, F2, a2⟩ := l194 (d := d) (L := L) (t := t) (I0 := J1) (p := p) (first := mfa I h (gvT s l f tt dy) k m (mrv I (p : Int))) (lnOk_fr F1 rfl (fun _ => rfl) hl) (I 12 0 12).toNat 0 (-1) J1 vx (by rw [F1 12 0 12 rfl]; omega) Fr.rfl' a1
  rw [er, mfa_fr F1 (fun _ => ⟨rfl, rfl, rfl⟩) (fun _ => ⟨rfl, rfl⟩)] at hr2
  have e9 : fo (gapS (mfa I h (gvT s l f tt dy) k m) (mrv I) (p : Int)) 0 (I 12 0 12).toNat (-1) = fo (gapS (mfa I h (gvT s l f tt dy) k m) (mrv I) (p : Int)) 0 9 (-1) := by
    obtain ⟨q, hq⟩ : ∃ q, 9 = (I 12 0 12).toNat + q := ⟨9 - (I 12 0 12).toNat, by omega⟩
    rw [hq, fo_add]
    symm
    refine fo_id q _ _ (fun j b h1 h2 => ?_)
    unfold gapS
    split
    · rfl
    · rw [if_pos (mrv_ge (by omega))]
  rw [e9] at hr2
  have F02 : Fr sF I J2 := F1.tr F2
  obtain ⟨J3, c3, F3, g3⟩ := sp187 (d := d + 1) (f := (mrv I (p : Int)).toNat) (I := J2) (L := L) (t := t) (by omega)
  have F03 : Fr sF I J3 := F02.tr (s75_F F3)
  have eg2 : gN (gvM J2) = gvT s l f tt dy := by
    rw [a2.2.2.1]
    exact gN_gvB _ _ _ _ _
  have e76 : c16 (J2 76 0) = m := a2.2.2.2.1
  have eP : gvM J3 = gTh (gvT s l f tt dy) (difP (nM I (mrv I (p : Int)).toNat) m 0 12 0) (difP (nM I (mrv I (p : Int)).toNat) m 12 4 0) (if I 49 0 (mrv I (p : Int)).toNat = k then 1 else 0) := by
    have em : c16 (J2 76 0) = c16 m := by rw [e76, ← e76, c16_c]
    rw [g3, eg2, nM_fr F02 (fun _ => rfl), F02 49 0 _ rfl, a2.2.1, difP_cg rfl em (by decide), difP_cg rfl em (by decide)]
  have ec : (((mrv I (p : Int)).toNat : Nat) : Int) = I 54 0 p := by rw [← ev]; omega
  rw [ec] at c3
  have e54 : J2 54 0 = I 54 0 := F02.ri (fun _ => rfl)
  have e12 : J2 12 0 12 = I 12 0 12 := F02 12 0 12 rfl
  have hgap := gap_in (rv := mrv I) (p := (p : Int)) (mfa_in (I := I) (h := h) (G := gvT s l f tt dy) (k := k) (m := m))
  have hfst := mfa_in (I := I) (h := h) (G := gvT s l f tt dy) (k := k) (m := m) (mrv I (p : Int))
  have m3 := (mhd_fr F03 rfl (fun _ => ⟨rfl, rfl, rfl⟩) a.1)
  -- the end, once the gap is known
  have fin : ∀ gap, gapP (mfa I h (gvT s l f tt dy) k m) (mrv I) (p : Int) (mfa I h (gvT s l f tt dy) k m (mrv I (p : Int))) = gap →
      ∃ y J4 J5, Cal (d + 2) 184 [vr 12 0, vi 6] (mk (up3 (up3 J3 75 0 9 (mfa I h (gvT s l f tt dy) k m (mrv I (p : Int)))) 75 0 8 gap) L t) = some (vi y, mk J4 L t) ∧ Cal (d + 2) 185 [vr 12 0] (mk J4 L t) = some (vx, mk J5 L t) ∧ y = suQ (ans (mH I h)) (gvT s l f tt dy) k m (nM I) (I 49 0) (mrv I) (p : Int) ∧ Fr sF I J5 ∧ MAt J5 h k (gvT s l f tt) m ty dy := by
    intro gap hgp
    have F4 : Fr sF I (up3 (up3 J3 75 0 9 (mfa I h (gvT s l f tt dy) k m (mrv I (p : Int)))) 75 0 8 gap) := (F03.up rfl).up rfl
    have m4 := mhd_fr F4 rfl (fun _ => ⟨rfl, rfl, rfl⟩) a.1
    obtain ⟨J4, c4, F5⟩ := sp184 (d := d + 1) (w := 6) (L := L) (t := t) m4.1.1 m4.1.2.1 (by decide) m4.1.2.2.1 m4.1.2.2.2
    rw [m4.2, gvM_2, eP] at c4
    have F6 : Fr sF I (up3 (up3 (up3 (up3 (up3 J4 75 0 1 0) 75 0 2 0) 75 0 3 0) 75 0 8 0) 75 0 9 0) := (((((F4.tr (s63_F F5)).up rfl).up rfl).up rfl).up rfl).up rfl
    refine ⟨_, J4, _, c4, P185_0_0, ?_, F6, a.fr F6 rfl rfl (fun _ => ⟨rfl, rfl, rfl⟩) (fun _ => ⟨rfl, rfl⟩) ?_⟩
    · unfold suQ suP
      rw [if_neg hp, ← hgp]
      rfl
    · rw [gvM_N, gvM_cg (F5.ri (r := 75) (i := 0) (fun _ => rfl)), gvM_2, gN_Fi, eP, gN_Th, a.2.2.1]
      exact gN_gvB _ _ _ _ _
  have cin : Cal (d + 2) 188 [vr 12 0, vi (I 54 0 ((p : Int).toNat))] (mk I L t) = some (vi (mfa I h (gvT s l f tt dy) k m (mrv I (p : Int))), mk J1 L t) := by
    rw [Int.toNat_natCast, ← ev]
    exact c1
  have c3' : Cal (d + 2) 187 [vr 12 0, vi (J2 54 0 ((p : Int).toNat))] (mk J2 L t) = some (vx, mk J3 L t) := by
    rw [Int.toNat_natCast, e54]
    exact c3
  have start : Cal (d + 3) 194 [vr 12 0, vi (p : Int)] (mk I L t) = Res (d + 3) 194 16 [vr 12 0, vi (p : Int), vi (mfa I h (gvT s l f tt dy) k m (mrv I (p : Int))), vi (fo (gapS (mfa I h (gvT s l f tt dy) k m) (mrv I) (p : Int)) 0 9 (-1)), vi (J1 12 0 12), u5'] [] (mk J2 L t) := Eq.trans (P194_0_0 (g1 := by omega) (c1 := cin)) hr2
  rw [F1 12 0 12 rfl] at start
  by_cases q1 : fo (gapS (mfa I h (gvT s l f tt dy) k m) (mrv I) (p : Int)) 0 9 (-1) = -1
  · obtain ⟨y, J4, J5, x1, x2, x3, x4, x5⟩ := fin 0 (by unfold gapP; dsimp only; rw [if_pos q1])
    refine ⟨J5, Eq.trans start (Eq.trans (P194_16_7 (h1 := by rw [e12]; exact Int.le_refl _) (g1 := by omega) (c1 := c3') (h2 := q1) (c2 := x1) (c3 := x2)) ?_), x4, x5⟩
    rw [x3]
  · by_cases q2 : fo (gapS (mfa I h (gvT s l f tt dy) k m) (mrv I) (p : Int)) 0 9 (-1) < mfa I h (gvT s l f tt dy) k m (mrv I (p : Int))
    · obtain ⟨y, J4, J5, x1, x2, x3, x4, x5⟩ := fin 0 (by
        unfold gapP
        dsimp only
        rw [if_neg q1, if_neg]
        rw [w32_s (by omega)]
        omega)
      refine ⟨J5, Eq.trans start (Eq.trans (P194_16_5 (h1 := by rw [e12]; exact Int.le_refl _) (g1 := by omega) (c1 := c3') (h2 := q1) (h3 := q2) (c2 := x1) (c3 := x2)) ?_), x4, x5⟩
      rw [x3]
    · obtain ⟨y, J4, J5, x1, x2, x3, x4, x5⟩ := fin (w32 (fo (gapS (mfa I h (gvT s l f tt dy) k m) (mrv I) (p : Int)) 0 9 (-1) - mfa I h (gvT s l f tt dy) k m (mrv I (p : Int)))) (by
        unfold gapP
        dsimp only
        rw [if_neg q1]
        by_cases q3 : 0 < w32 (fo (gapS (mfa I h (gvT s l f tt dy) k m) (mrv I) (p : Int)) 0 9 (-1) - mfa I h (gvT s l f tt dy) k m (mrv I (p : Int)))
        · rw [if_pos q3]
        · rw [if_neg q3]
          rw [w32_s (by omega)] at q3 ⊢
          omega)
      refine ⟨J5, Eq.trans start (Eq.trans (P194_16_6 (h1 := by rw [e12]; exact Int.le_refl _) (g1 := by omega) (c1 := c3') (h2 := q1) (h3 := by omega) (c2 := x1) (c3 := x2)) ?_), x4, x5⟩
      rw [x3]
end MSURE
section MSEE
variable {d h : Nat} {I L : H3} {t : Nat → Nat} {k s l f tt : Int}
theorem l191 {f0 : Nat} {b x1 x2 x4 x5 x6 x7 : Int} (hb : 0 ≤ b ∧ b ≤ 15) (hf : f0 < 132) : ∀ (n j : Nat), j + n = 16 → Res (d + 2) 191 66 [vr 12 0, vi x1, vi x2, vi (f0 : Int), vi x4, vi x5, vi x6, vi x7, vi b, vi (j : Int)] [] (mk (sr I 76 0 j (fun j => blrP (nM I f0 j) b)) L t) = some (vx, mk (sr I 76 0 16 (fun j => blrP (nM I f0 j) b)) L t)
  | 0, j, hj => by
    have h16 : j = 16 := by omega
    subst h16
    exact P191_66_1 (by omega)
  | n + 1, j, hj => by
    have ix := ix16 (f := f0) (k := j) hf (by omega)
    refine Eq.trans (P191_66_0 (h1 := by omega) (g1 := by rw [ix]; omega) (g2 := hb) (g3 := by omega)) ?_
    rw [ix, lem_w32k (k := j) (by omega), Int.toNat_natCast, Int.toNat_natCast, sr_r (show (48 : Nat) ≠ 76 by decide)]
    have e : blrP (I 48 0 (16 * f0 + j)) b = (fun j => blrP (nM I f0 j) b) j := rfl
    rw [e, sr_s]
    exact l191 hb hf n (j + 1) (by omega)
def sSee (r _ c : Nat) : Bool := r == 63 || r == 75 || r == 76 || (r == 12 && (c == 54 || c == 55))
/-- a sight, in the model -/
theorem msee {f0 : Nat} (hf : f0 < 120) (h4 : h < 4) (hb : mhOk I h) (hok : okH (mH I h)) : ∃ J, Cal (d + 3) 191 [vr 12 0, vi (h : Int), vi k, vi (f0 : Int), vi s, vi l, vi f, vi tt] (mk I L t) = some (vx, mk J L t) ∧ Fr sSee I J ∧ MAt J h k (gvT s l f tt) (seeP (ans (mH I h)) (gvT s l f tt) (nM I f0)) (c16 (I 77 0)) 0 := by
  have F1 : Fr sSee I (up3 (up3 (up3 (up3 (up3 (up3 (up3 (up3 (up3 (up3 (up3 (up3 I 12 0 54 (h : Int)) 12 0 55 k) 75 0 1 0) 75 0 2 0) 75 0 3 0) 75 0 8 0) 75 0 9 0) 75 0 4 s) 75 0 5 l) 75 0 6 f) 75 0 7 0) 75 0 10 tt) := (((((((((((Fr.rfl'.up rfl).up rfl).up rfl).up rfl).up rfl).up rfl).up rfl).up rfl).up rfl).up rfl).up rfl).up rfl
  have g1 : gvM (up3 (up3 (up3 (up3 (up3 (up3 (up3 (up3 (up3 (up3 (up3 (up3 I 12 0 54 (h : Int)) 12 0 55 k) 75 0 1 0) 75 0 2 0) 75 0 3 0) 75 0 8 0) 75 0 9 0) 75 0 4 s) 75 0 5 l) 75 0 6 f) 75 0 7 0) 75 0 10 tt) = gvB s l f 0 tt := gvM_5 gvM_N
  have em := mH_fr (h := h) F1 (fun _ => ⟨rfl, rfl, rfl⟩)
  obtain ⟨J2, c2, F2⟩ := sp184 (d := d + 1) (h := h) (w := 1) (I := up3 (up3 (up3 (up3 (up3 (up3 (up3 (up3 (up3 (up3 (up3 (up3 I 12 0 54 (h : Int)) 12 0 55 k) 75 0 1 0) 75 0 2 0) 75 0 3 0) 75 0 8 0) 75 0 9 0) 75 0 4 s) 75 0 5 l) 75 0 6 f) 75 0 7 0) 75 0 10 tt) (L := L) (t := t) h4 rfl (by decide) (mhOk_cg (F1.ri (fun _ => rfl)) (F1.ri (fun _ => rfl)) hb) (by rw [em]; exact hok)
  rw [em, g1] at c2
  have h1 := ans_in (mH I h) (w := 1) (gvB s l f 0 tt) (by decide)
  rw [r2_100.2.2.2.2.1, r2_100.2.2.2.2.2.1] at h1
  have F02 : Fr sSee I J2 := F1.tr (F2.mo (fun r i c q => by
    simp only [sSee, Bool.or_eq_false_iff] at q
    exact q.1.1.1))
  have hr := l191 (d := d + 1) (I := J2) (L := L) (t := t) (f0 := f0) (b := ans (mH I h) 1 (gvB s l f 0 tt)) (x1 := (h : Int)) (x2 := k) (x4 := s) (x5 := l) (x6 := f) (x7 := tt) h1 (by omega) 16 0 rfl
  rw [sr_0] at hr
  have F3 : Fr sSee I (sr J2 76 0 16 (fun j => blrP (nM J2 f0 j) (ans (mH I h) 1 (gvB s l f 0 tt)))) := F02.wr (fun _ _ => rfl)
  have e76 : c16 (sr J2 76 0 16 (fun j => blrP (nM J2 f0 j) (ans (mH I h) 1 (gvB s l f 0 tt))) 76 0) = seeP (ans (mH I h)) (gvT s l f tt) (nM I f0) := by
    rw [sr_c16, nM_fr F02 (fun _ => rfl)]
    rfl
  have em3 := mH_fr (h := h) F3 (fun _ => ⟨rfl, rfl, rfl⟩)
  refine ⟨_, Eq.trans (P191_0_0 (c1 := P185_0_0) (c2 := c2)) hr, F3, ⟨h4, (F2 12 0 54 rfl), mhOk_cg (F3.ri (fun _ => rfl)) (F3.ri (fun _ => rfl)) hb, by rw [em3]; exact hok⟩, F2 12 0 55 rfl, ?_, e76, ?_, ?_⟩
  · have : gvM (sr J2 76 0 16 (fun j => blrP (nM J2 f0 j) (ans (mH I h) 1 (gvB s l f 0 tt)))) = gvM J2 := gvM_cg (by rw [sr_r (show (75 : Nat) ≠ 76 by decide)])
    rw [this, gvM_cg (F2.ri (r := 75) (i := 0) (fun _ => rfl)), g1]
    rfl
  · rw [F3.ri (r := 77) (i := 0) (fun _ => rfl)]
  · apply R31.c
    rw [e76]
    exact seeP_in
end MSEE
