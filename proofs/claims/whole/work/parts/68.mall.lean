/-! the model: shares, sums, bins -/
theorem odQ_ok {H : HH} {G : Nat → Int} {fa rv : Int → Int} {led push : Int} (hf : ∀ x, 0 ≤ fa x ∧ fa x ≤ 9999) (hp : 0 ≤ push ∧ push ≤ 99) : wOk (wtP fa rv (ans H 4 G) led push) (ans H 5 G) := by
  have h4 := ans_in H (w := 4) G (by decide)
  have h5 := ans_in H (w := 5) G (by decide)
  obtain ⟨r0, r1, r2, r3, r4, r5, r6, r7⟩ := rom_v
  rw [r4.1, r4.2.1] at h4
  rw [r5.1, r5.2.1] at h5
  exact ⟨fun k _ => wt_in h4 hf hp k, h5.1, by omega⟩
theorem odQ_in {H : HH} {G : Nat → Int} {fa rv : Int → Int} {each : Bool} {led push : Int} (hf : ∀ x, 0 ≤ fa x ∧ fa x ≤ 9999) (hp : 0 ≤ push ∧ push ≤ 99) {k : Nat} (hk : k < 9) : 0 ≤ odQ (ans H) G fa rv each led push k ∧ odQ (ans H) G fa rv each led push k ≤ 1000000 := odP_in (odQ_ok hf hp) hk
/-- odds in bounds -/
def odB (od : Nat → Int) : Prop := ∀ k, k < 9 → 0 ≤ od k ∧ od k ≤ 1000000
theorem mtoW_in {I : H3} {i y : Nat} (hy : myOk I y) : odB (mtoW I i y) := fun k hk => odQ_in (fun x => mfa_in x) (by
  split
  · decide
  · next q => exact hy.2.resolve_left q) hk
section MCOME
variable {d i : Nat} {I L : H3} {t : Nat → Nat} {what : Int}
theorem l228 (hi : i < 40) (h9 : lnOk I) (hod : odB (I 78 0)) : ∀ (n k : Nat) (a : Int) (u5 : MV), (k : Int) + n = I 12 0 12 → 0 ≤ a → a ≤ 1000000 * k → Res d 228 18 [vr 12 0, vi (i : Int), vi what, vi a, vi (k : Int), u5] [] (mk I L t) = some (vi (fo (shS (I 78 0) (mrv I) (I 107 0 i) (I 114 0 i) what) k n a), mk I L t)
  | 0, k, a, u5, hk, h0, h1 => P228_18_7 (by omega)
  | n + 1, k, a, u5, hk, h0, h1 => by
    have hl9 := h9.1
    have ev : mrv I (k : Int) = I 54 0 k := mrv_at (by omega)
    have ho := hod k (by omega)
    rw [fo_s]
    have e0 : w32 (a + 0) = a := by rw [Int.add_zero, w32_s (by omega)]
    have e1 : w32 (a + I 78 0 k) = a + I 78 0 k := w32_s (by omega)
    by_cases h1 : I 54 0 k = -1
    · have es : shS (I 78 0) (mrv I) (I 107 0 i) (I 114 0 i) what k a = a := if_pos (by rw [ev]; exact h1)
      rw [es]
      refine Eq.trans (P228_18_0 (h1 := by omega) (g1 := by omega) (h2 := h1)) ?_
      rw [lem_w32k (by omega)]
      exact l228 hi h9 hod n (k + 1) a u5 (by omega) h0 (by omega)
    · by_cases h3 : I 54 0 k = I 107 0 i
      · by_cases h4 : 0 = what
        · have es : shS (I 78 0) (mrv I) (I 107 0 i) (I 114 0 i) what k a = w32 (a + I 78 0 k) := by
            unfold shS
            rw [ev, if_neg h1, if_pos h3, if_pos h4]
          rw [es]
          refine Eq.trans (P228_18_1 (h1 := by omega) (g1 := by omega) (h2 := h1) (g2 := by omega) (h3 := h3) (h4 := h4) (g3 := by omega)) ?_
          rw [lem_w32k (k := k) (by omega), Int.toNat_natCast, e1]
          exact l228 hi h9 hod n (k + 1) _ _ (by omega) (by omega) (by omega)
        · have es : shS (I 78 0) (mrv I) (I 107 0 i) (I 114 0 i) what k a = a := by
            unfold shS
            rw [ev, if_neg h1, if_pos h3, if_neg h4]
          rw [es]
          refine Eq.trans (P228_18_2 (h1 := by omega) (g1 := by omega) (h2 := h1) (g2 := by omega) (h3 := h3) (h4 := h4)) ?_
          rw [lem_w32k (k := k) (by omega), e0]
          exact l228 hi h9 hod n (k + 1) a _ (by omega) h0 (by omega)
      · by_cases h5 : (k : Int) = I 114 0 i
        · by_cases h4 : 1 = what
          · have es : shS (I 78 0) (mrv I) (I 107 0 i) (I 114 0 i) what k a = w32 (a + I 78 0 k) := by
              unfold shS
              rw [ev, if_neg h1, if_neg h3, if_pos h5, if_pos h4]
            rw [es]
            refine Eq.trans (P228_18_3 (h1 := by omega) (g1 := by omega) (h2 := h1) (g2 := by omega) (h3 := h3) (h4 := h5) (h5 := h4) (g3 := by omega)) ?_
            rw [lem_w32k (k := k) (by omega), Int.toNat_natCast, e1]
            exact l228 hi h9 hod n (k + 1) _ _ (by omega) (by omega) (by omega)
          · have es : shS (I 78 0) (mrv I) (I 107 0 i) (I 114 0 i) what k a = a := by
              unfold shS
              rw [ev, if_neg h1, if_neg h3, if_pos h5, if_neg h4]
            rw [es]
            refine Eq.trans (P228_18_4 (h1 := by omega) (g1 := by omega) (h2 := h1) (g2 := by omega) (h3 := h3) (h4 := h5) (h5 := h4)) ?_
            rw [lem_w32k (k := k) (by omega), e0]
            exact l228 hi h9 hod n (k + 1) a _ (by omega) h0 (by omega)
        · by_cases h4 : 2 = what
          · have es : shS (I 78 0) (mrv I) (I 107 0 i) (I 114 0 i) what k a = w32 (a + I 78 0 k) := by
              unfold shS
              rw [ev, if_neg h1, if_neg h3, if_neg h5, if_pos h4]
            rw [es]
            refine Eq.trans (P228_18_5 (h1 := by omega) (g1 := by omega) (h2 := h1) (g2 := by omega) (h3 := h3) (h4 := h5) (h5 := h4) (g3 := by omega)) ?_
            rw [lem_w32k (k := k) (by omega), Int.toNat_natCast, e1]
            exact l228 hi h9 hod n (k + 1) _ _ (by omega) (by omega) (by omega)
          · have es : shS (I 78 0) (mrv I) (I 107 0 i) (I 114 0 i) what k a = a := by
              unfold shS
              rw [ev, if_neg h1, if_neg h3, if_neg h5, if_neg h4]
            rw [es]
            refine Eq.trans (P228_18_6 (h1 := by omega) (g1 := by omega) (h2 := h1) (g2 := by omega) (h3 := h3) (h4 := h5) (h5 := h4)) ?_
            rw [lem_w32k (k := k) (by omega), e0]
            exact l228 hi h9 hod n (k + 1) a _ (by omega) h0 (by omega)
theorem sp228 (hi : i < 40) (h9 : lnOk I) (hod : odB (I 78 0)) : Cal d 228 [vr 12 0, vi (i : Int), vi what] (mk I L t) = some (vi (shP (I 78 0) (mrv I) (I 107 0 i) (I 114 0 i) what), mk I L t) := by
  unfold shP
  by_cases h : what = 3
  · rw [if_pos h]
    exact P228_0_0 h
  · rw [if_neg h]
    have hl9 := h9.1
    refine Eq.trans (P228_0_1 h) (Eq.trans (l228 hi h9 hod (I 12 0 12).toNat 0 0 vx (by omega) (Int.le_refl _) (by omega)) ?_)
    have e : fo (shS (I 78 0) (mrv I) (I 107 0 i) (I 114 0 i) what) 0 (I 12 0 12).toNat 0 = fo (shS (I 78 0) (mrv I) (I 107 0 i) (I 114 0 i) what) 0 9 0 := by
      obtain ⟨q, hq⟩ : ∃ q, 9 = (I 12 0 12).toNat + q := ⟨9 - (I 12 0 12).toNat, by omega⟩
      rw [hq, fo_add]
      symm
      exact fo_id q _ _ (fun j b h1 h2 => if_pos (mrv_ge (by omega)))
    rw [e]
end MCOME
def mshW (I : H3) (i y : Nat) (what : Int) : Int := shP (mtoW I i y) (mww I i) (I 107 0 i) (I 114 0 i) what
/-- all worlds in bounds, in the model -/
def mwsOk (I : H3) : Prop := (0 ≤ I 12 0 4 ∧ I 12 0 4 ≤ 40) ∧ ∀ i : Nat, (i : Int) < I 12 0 4 → mwOk I i
def mysOk (I : H3) : Prop := ∀ y, y < 4 → myOk I y
def mlOk (I : H3) : Prop := fmOk I ∧ kmOk I ∧ tmOk I ∧ rmOk I ∧ mwsOk I ∧ mysOk I
section MFRS
variable {I J : H3}
theorem s_mw (F : Fr sMs I J) {i : Nat} (h : mwOk I i) : mwOk J i := by
  obtain ⟨⟨h1, h2, h3⟩, h4, h5, h6⟩ := h
  unfold mwOk mww
  rw [F 105 0 i rfl, F 107 0 i rfl, F 113 0 i rfl, F 111 0 i rfl, F.ri (r := 112) (i := 0) (fun _ => rfl), mH_fr F (fun _ => ⟨rfl, rfl, rfl⟩)]
  exact ⟨⟨h1, mhOk_cg (F.ri (fun _ => rfl)) (F.ri (fun _ => rfl)) h2, h3⟩, h4, h5, h6⟩
theorem s_my (F : Fr sMs I J) {y : Nat} (h : myOk I y) : myOk J y := by
  unfold myOk
  rw [F 73 0 y rfl, F 72 0 y rfl]
  exact h
theorem s_nM (F : Fr sMs I J) : nM J = nM I := nM_fr F (fun _ => rfl)
theorem s_mrw (F : Fr sMs I J) : mrw J = mrw I := by
  funext r
  unfold mrw
  rw [F.ri (r := 53) (i := 0) (fun _ => rfl), F.ri (r := 52) (i := 0) (fun _ => rfl)]
theorem s_mww (F : Fr sMs I J) : mww J = mww I := by
  funext r
  unfold mww
  rw [F.ri (r := 113) (i := 0) (fun _ => rfl), F.ri (r := 112) (i := 0) (fun _ => rfl)]
theorem s_mT (F : Fr sMs I J) : mT J = mT I := by
  funext k
  unfold mT
  rw [F.ri (r := 51) (i := 0) (fun _ => rfl)]
theorem s_mH (F : Fr sMs I J) : mH J = mH I := by
  funext h
  exact mH_fr F (fun _ => ⟨rfl, rfl, rfl⟩)
theorem s_ml (F : Fr sMs I J) (h : mlOk I) : mlOk J := by
  obtain ⟨h1, h2, h3, h4, h5, h6⟩ := h
  refine ⟨?_, ?_, ?_, ?_, ?_, fun y hy => s_my F (h6 y hy)⟩
  · unfold fmOk
    rw [s_nM F]
    exact h1
  · unfold kmOk
    rw [F.ri (r := 49) (i := 0) (fun _ => rfl)]
    exact h2
  · unfold tmOk
    rw [s_mT F]
    exact h3
  · unfold rmOk mrOk
    rw [s_mrw F, F.ri (r := 53) (i := 0) (fun _ => rfl)]
    exact h4
  · unfold mwsOk
    rw [F 12 0 4 rfl]
    exact ⟨h5.1, fun i hi => s_mw F (h5.2 i hi)⟩
theorem s_mtrW (F : Fr sMs I J) {i y : Nat} : mtrW J i y = mtrW I i y := by
  unfold mtrW mdr
  rw [s_mH F, s_nM F, s_mT F, s_mrw F, F 105 0 i rfl, F 107 0 i rfl, F 108 0 i rfl, F 109 0 i rfl, F 110 0 i rfl, F 111 0 i rfl, F 73 0 y rfl, F 49 0 _ rfl]
theorem s_mtoW (F : Fr sMs I J) {i y : Nat} : mtoW J i y = mtoW I i y := by
  unfold mtoW mfaW mfa
  rw [s_mtrW F, s_mH F, s_nM F, s_mww F, F.ri (r := 49) (i := 0) (fun _ => rfl), F 105 0 i rfl, F 106 0 i rfl, F 108 0 i rfl, F 109 0 i rfl, F 110 0 i rfl, F 70 0 y rfl, F 72 0 y rfl, F 114 0 i rfl]
theorem s_mshW (F : Fr sMs I J) {i y : Nat} {what : Int} : mshW J i y what = mshW I i y what := by
  unfold mshW
  rw [s_mtoW F, s_mww F, F 107 0 i rfl, F 114 0 i rfl]
end MFRS
section MALL
variable {d : Nat} {I0 L : H3} {t : Nat → Nat}
/-- a world led by a way, with its shares -/
theorem mtried {I : H3} {i y : Nat} (hk : mlOk I0) (F : Fr sMs I0 I) (hi : (i : Int) < I0 12 0 4) (hy : y < 4) : ∃ J, Cal (d + 4) 227 [vr 12 0, vi (i : Int), vi (y : Int)] (mk I L t) = some (vx, mk J L t) ∧ Fr sMs I0 J ∧ (∀ (L' : H3) (e : Nat) (what : Int), Cal e 228 [vr 12 0, vi (i : Int), vi what] (mk J L' t) = some (vi (mshW I0 i y what), mk J L' t)) ∧
    MAt J (I0 105 0 i).toNat (I0 106 0 i) (gvT (I0 108 0 i) (I0 109 0 i) (I0 110 0 i) 0) (mtrW I0 i y).1 (c16 (mT I0 (I0 49 0 (I0 107 0 i).toNat).toNat)) (mtrW I0 i y).2 ∧ mrv J = mww I0 i ∧ lnOk J ∧ ∀ j, j < 10 → J 78 0 j = mtoW I0 i y j := by
  have h40 : i < 40 := by have := hk.2.2.2.2.1.1; omega
  obtain ⟨k1, k2, k3, k4, k5, k6⟩ := s_ml F hk
  obtain ⟨J, c, FJ, a, em, ln, o⟩ := sp227 (d := d) (L := L) (t := t) h40 hy (k5.2 i (by rw [F 12 0 4 rfl]; exact hi)) (k6 y hy) k1 k2 k3 k4
  rw [s_mtrW F, s_mT F, F 105 0 i rfl, F 106 0 i rfl, F 107 0 i rfl, F 108 0 i rfl, F 109 0 i rfl, F 110 0 i rfl, F 49 0 _ rfl] at a
  rw [s_mww F] at em
  rw [s_mtoW F] at o
  have GJ := F.tr FJ
  refine ⟨J, c, GJ, fun L' e what => ?_, a, em, ln, o⟩
  have hod : odB (J 78 0) := fun k hk9 => by
    rw [o k (by omega)]
    exact mtoW_in (hk.2.2.2.2.2 y hy) k hk9
  refine Eq.trans (sp228 h40 ln hod) ?_
  unfold mshW
  rw [shP_cg o, em, GJ 107 0 i rfl, GJ 114 0 i rfl]
def msumW (I : H3) (y : Nat) (what : Int) : Int := fo (fun i a => w64 (a + mshW I i y what)) 0 (I 12 0 4).toNat 0
theorem l231 {y : Nat} {what : Int} (hk : mlOk I0) (hy : y < 4) : ∀ (n k : Nat) (a : Int) (I : H3), k + n = (I0 12 0 4).toNat → Fr sMs I0 I →
    ∃ J, Res (d + 5) 231 5 [vr 12 0, vi (y : Int), vi what, vl a, vx, vi (k : Int)] [] (mk I L t) = some (vl (fo (fun i a => w64 (a + mshW I0 i y what)) k n a), mk J L t) ∧ Fr sMs I0 J
  | 0, k, a, I, hk', F => by
    have hb := hk.2.2.2.2.1.1
    exact ⟨I, P231_5_1 (by rw [F 12 0 4 rfl]; omega), F⟩
  | n + 1, k, a, I, hk', F => by
    have hb := hk.2.2.2.2.1.1
    obtain ⟨J, c, FJ, sh, _⟩ := mtried (d := d) (L := L) (t := t) (i := k) hk F (by omega) hy
    obtain ⟨J2, hr, F2⟩ := l231 hk hy (what := what) n (k + 1) (w64 (a + mshW I0 k y what)) J (by omega) FJ
    refine ⟨J2, Eq.trans (P231_5_0 (h1 := by rw [F 12 0 4 rfl]; omega) (c1 := c) (c2 := sh L (d + 4) what)) ?_, F2⟩
    rw [lem_w32k (by omega)]
    exact hr
theorem sp231 {I : H3} {y : Nat} {what : Int} (hk : mlOk I0) (hy : y < 4) (F : Fr sMs I0 I) : ∃ J, Cal (d + 5) 231 [vr 12 0, vi (y : Int), vi what] (mk I L t) = some (vl (msumW I0 y what), mk J L t) ∧ Fr sMs I0 J := by
  obtain ⟨J, h1, h2⟩ := l231 (d := d) (L := L) (t := t) hk hy (what := what) (I0 12 0 4).toNat 0 0 I (by omega) F
  exact ⟨J, Eq.trans P231_0_0 h1, h2⟩
theorem l232 {x : Nat} (hk : mlOk I0) (hx : x < 4) : ∀ (n k : Nat) (b : Int) (I : H3) (u8 u10 : MV), k + n = 4 → Fr sMs I0 I → (b = 0 ∨ b = 1) →
    ∃ J b', Res (d + 6) 232 20 [vr 12 0, vi (x : Int), vi b, vl (msumW I0 x 0), vx, vl (msumW I0 x 1), vx, vi (k : Int), u8, vx, u10, vx] [] (mk I L t) = some (vi b', mk J L t) ∧ Fr sMs I0 J ∧ (b' = 0 ∨ b' = 1) ∧ (b' = 1 ↔ b = 1 ∨ ∃ o, k ≤ o ∧ o < 4 ∧ bett (fun o => msumW I0 o 0) (fun o => msumW I0 o 1) x o)
  | 0, k, b, I, u8, u10, hk', F, hb => ⟨I, b, P232_20_7 (by omega) hb, F, hb, ⟨Or.inl, fun q => q.elim id (fun ⟨o, h1, h2, _⟩ => by omega)⟩⟩
  | n + 1, k, b, I, u8, u10, hk', F, hb => by
    obtain ⟨J1, c1, F1⟩ := sp231 (d := d) (L := L) (t := t) (I := I) (y := k) (what := 0) hk (by omega) F
    obtain ⟨J2, c2, F2⟩ := sp231 (d := d) (L := L) (t := t) (I := J1) (y := k) (what := 1) hk (by omega) F1
    have go : ∀ b1 : Int, (b1 = 0 ∨ b1 = 1) → (b1 = 1 ↔ b = 1 ∨ bett (fun o => msumW I0 o 0) (fun o => msumW I0 o 1) x k) → (Res (d + 6) 232 20 [vr 12 0, vi (x : Int), vi b, vl (msumW I0 x 0), vx, vl (msumW I0 x 1), vx, vi (k : Int), u8, vx, u10, vx] [] (mk I L t) = Res (d + 6) 232 20 [vr 12 0, vi (x : Int), vi b1, vl (msumW I0 x 0), vx, vl (msumW I0 x 1), vx, vi (w32 ((k : Int) + 1)), vl (msumW I0 k 0), vx, vl (msumW I0 k 1), vx] [] (mk J2 L t)) →
        ∃ J b', Res (d + 6) 232 20 [vr 12 0, vi (x : Int), vi b, vl (msumW I0 x 0), vx, vl (msumW I0 x 1), vx, vi (k : Int), u8, vx, u10, vx] [] (mk I L t) = some (vi b', mk J L t) ∧ Fr sMs I0 J ∧ (b' = 0 ∨ b' = 1) ∧ (b' = 1 ↔ b = 1 ∨ ∃ o, k ≤ o ∧ o < 4 ∧ bett (fun o => msumW I0 o 0) (fun o => msumW I0 o 1) x o) := by
      intro b1 h01 hb1 hr
      rw [lem_w32k (by omega)] at hr
      obtain ⟨J, b', h1, h2, h3, h4⟩ := l232 hk hx n (k + 1) b1 J2 (vl (msumW I0 k 0)) (vl (msumW I0 k 1)) (by omega) F2 h01
      refine ⟨J, b', hr.trans h1, h2, h3, h4.trans ?_⟩
      rw [hb1]
      constructor
      · rintro ((q | q) | ⟨o, q1, q2, q3⟩)
        · exact Or.inl q
        · exact Or.inr ⟨k, Nat.le_refl _, by omega, q⟩
        · exact Or.inr ⟨o, by omega, q2, q3⟩
      · rintro (q | ⟨o, q1, q2, q3⟩)
        · exact Or.inl (Or.inl q)
        · by_cases ho : o = k
          · subst ho
            exact Or.inl (Or.inr q3)
          · exact Or.inr ⟨o, by omega, q2, q3⟩
    by_cases hb0 : b = 0
    · by_cases hxk : (k : Int) = (x : Int)
      · have hkx : k = x := by omega
        exact go 0 (Or.inl rfl) ⟨fun q => (by cases q), fun q => q.elim (fun q => by omega) (fun q => absurd q (by rw [hkx]; exact fun w => w.1.elim (fun z => z rfl) (fun z => z rfl)))⟩ (P232_20_5 (h1 := by omega) (c1 := c1) (c2 := c2) (h2 := hb0) (h3 := hxk))
      · by_cases q1 : msumW I0 x 0 ≤ msumW I0 k 0
        · by_cases q2 : msumW I0 k 1 ≤ msumW I0 x 1
          · by_cases q3 : msumW I0 k 0 = msumW I0 x 0
            · by_cases q4 : msumW I0 k 1 = msumW I0 x 1
              · exact go 0 (Or.inl rfl) ⟨fun q => (by cases q), fun q => q.elim (fun q => by omega) (fun q => q.1.elim (fun z => absurd q3 z) (fun z => absurd q4 z))⟩ (P232_20_1 (h1 := by omega) (c1 := c1) (c2 := c2) (h2 := hb0) (h3 := hxk) (h4 := lcmp_ge.mpr q1) (h5 := lcmp_le.mpr q2) (h6 := lcmp_0.mpr q3) (h7 := lcmp_0.mpr q4))
              · exact go 1 (Or.inr rfl) ⟨fun _ => Or.inr ⟨Or.inr q4, q1, q2⟩, fun _ => rfl⟩ (P232_20_0 (h1 := by omega) (c1 := c1) (c2 := c2) (h2 := hb0) (h3 := hxk) (h4 := lcmp_ge.mpr q1) (h5 := lcmp_le.mpr q2) (h6 := lcmp_0.mpr q3) (h7 := fun z => q4 (lcmp_0.mp z)))
            · exact go 1 (Or.inr rfl) ⟨fun _ => Or.inr ⟨Or.inl q3, q1, q2⟩, fun _ => rfl⟩ (P232_20_2 (h1 := by omega) (c1 := c1) (c2 := c2) (h2 := hb0) (h3 := hxk) (h4 := lcmp_ge.mpr q1) (h5 := lcmp_le.mpr q2) (h6 := fun z => q3 (lcmp_0.mp z)))
          · exact go 0 (Or.inl rfl) ⟨fun q => (by cases q), fun q => q.elim (fun q => by omega) (fun q => absurd q.2.2 q2)⟩ (P232_20_3 (h1 := by omega) (c1 := c1) (c2 := c2) (h2 := hb0) (h3 := hxk) (h4 := lcmp_ge.mpr q1) (h5 := Int.not_le.mp (fun z => q2 (lcmp_le.mp z))))
        · exact go 0 (Or.inl rfl) ⟨fun q => (by cases q), fun q => q.elim (fun q => by omega) (fun q => absurd q.2.1 q1)⟩ (P232_20_4 (h1 := by omega) (c1 := c1) (c2 := c2) (h2 := hb0) (h3 := hxk) (h4 := Int.not_le.mp (fun z => q1 (lcmp_ge.mp z))))
    · exact go 1 (Or.inr rfl) ⟨fun _ => Or.inl (by omega), fun _ => rfl⟩ (P232_20_6 (h1 := by omega) (c1 := c1) (c2 := c2) (h2 := hb0))
theorem sp232 {x : Nat} (hk : mlOk I0) (hx : x < 4) : ∃ J b, Cal (d + 6) 232 [vr 12 0, vi (x : Int)] (mk I0 L t) = some (vi b, mk J L t) ∧ Fr sMs I0 J ∧ (b = 0 ∨ b = 1) ∧ (b = 1 ↔ ∃ o, o < 4 ∧ bett (fun o => msumW I0 o 0) (fun o => msumW I0 o 1) x o) := by
  obtain ⟨J1, c1, F1⟩ := sp231 (d := d) (L := L) (t := t) (I := I0) (y := x) (what := 0) hk hx Fr.rfl'
  obtain ⟨J2, c2, F2⟩ := sp231 (d := d) (L := L) (t := t) (I := J1) (y := x) (what := 1) hk hx F1
  obtain ⟨J, b, hr, F, h01, hb⟩ := l232 (d := d) (L := L) (t := t) hk hx 4 0 0 J2 vx vx rfl F2 (Or.inl rfl)
  refine ⟨J, b, Eq.trans (P232_0_0 (c1 := c1) (c2 := c2)) hr, F, h01, hb.trans ⟨fun q => q.elim (fun q => by cases q) (fun ⟨o, _, q2, q3⟩ => ⟨o, q2, q3⟩), fun ⟨o, q2, q3⟩ => Or.inr ⟨o, Nat.zero_le _, q2, q3⟩⟩⟩
def msuB (I : H3) (i : Nat) (told dy : Int) (m : Nat → Int) : Int → Int := suQ (ans (mH I (I 105 0 i).toNat)) (gvT (I 108 0 i) (I 109 0 i) (I 110 0 i) told dy) (I 106 0 i) m (nM I) (I 49 0) (mww I i)
def mbnW (I : H3) (i y : Nat) (bin right : Int) : Int := bnP (mtoW I i y) (msuB I i (if I 71 0 y = 0 then 0 else 1) (mtrW I i y).2 (mtrW I i y).1) (mww I i) (I 107 0 i) bin right
def mallW (I : H3) (y : Nat) (bin right : Int) : Int := fo (fun i a => w64 (a + mbnW I i y bin right)) 0 (I 12 0 4).toNat 0
theorem bnS_in {od : Nat → Int} {sure rv : Int → Int} {seen bin right : Int} (ho : odB od) {k : Nat} (hk : k < 9) {a : Int} (h0 : 0 ≤ a) (h1 : a ≤ 1000000 * k) : 0 ≤ bnS od sure rv seen bin right k a ∧ bnS od sure rv seen bin right k a ≤ 1000000 * ((k + 1 : Nat) : Int) := by
  have hok := ho k hk
  unfold bnS
  by_cases c1 : rv k = -1
  · rw [if_pos c1]
    omega
  · rw [if_neg c1]
    by_cases c2 : (if rv k = seen then (1 : Int) else 0) = right
    · rw [if_pos c2]
      by_cases c3 : (if vIdiv (sure k) 20 < 4 then vIdiv (sure k) 20 else 4) = bin
      · rw [if_pos c3, w32_s (by omega)]
        omega
      · rw [if_neg c3, w32_s (by omega)]
        omega
    · rw [if_neg c2]
      omega
theorem bn_in {od : Nat → Int} {sure rv : Int → Int} {seen bin right : Int} (ho : odB od) : ∀ (n k : Nat) (a : Int), k + n ≤ 9 → 0 ≤ a → a ≤ 1000000 * k → 0 ≤ fo (bnS od sure rv seen bin right) k n a ∧ fo (bnS od sure rv seen bin right) k n a ≤ 9000000
  | 0, k, a, hk, h0, h1 => ⟨h0, by rw [fo_0]; omega⟩
  | n + 1, k, a, hk, h0, h1 => by
    have hok := ho k (by omega)
    rw [fo_s]
    have hs := bnS_in (sure := sure) (rv := rv) (seen := seen) (bin := bin) (right := right) ho (k := k) (by omega) h0 h1
    exact bn_in ho n (k + 1) _ (by omega) hs.1 hs.2
/-- a step of a sum in longs -/
theorem bn64 {od : Nat → Int} {sure rv : Int → Int} {seen bin right A : Int} (ho : odB od) (hA : 0 ≤ A ∧ A ≤ 1000000000) {k : Nat} (hk : k < 9) {a : Int} (h0 : 0 ≤ a) (h1 : a ≤ 1000000 * k) :
    A + bnS od sure rv seen bin right k a = (if rv k = -1 then A + a else if (if rv k = seen then 1 else 0) = right then w64 (A + a + (if (if vIdiv (sure k) 20 < 4 then vIdiv (sure k) 20 else 4) = bin then od k else 0)) else A + a) := by
  have hok := ho k hk
  unfold bnS
  by_cases c1 : rv k = -1
  · rw [if_pos c1, if_pos c1]
  · rw [if_neg c1, if_neg c1]
    by_cases c2 : (if rv k = seen then (1 : Int) else 0) = right
    · rw [if_pos c2, if_pos c2]
      by_cases c3 : (if vIdiv (sure k) 20 < 4 then vIdiv (sure k) 20 else 4) = bin
      · rw [if_pos c3, w32_s (by omega), w64_id (by omega) (by omega)]
        omega
      · rw [if_neg c3, w32_s (by omega), w64_id (by omega) (by omega)]
        omega
    · rw [if_neg c2, if_neg c2]
theorem l233p {i y : Nat} {told dy : Int} {m ty : Nat → Int} {od : Nat → Int} {bin right A : Int} (hi : i < 40) (ho : odB od) (hA : 0 ≤ A ∧ A ≤ 1000000000) (hb : right = 0 ∨ right = 1) {J0 : H3} (hl : lnOk J0) (F0 : Fr sMs I0 J0) (em : mrv J0 = mww I0 i) : ∀ (n k : Nat) (a : Int) (I : H3) (u8 : MV), (k : Int) + n = J0 12 0 12 → Fr sF J0 I → MAt I (I0 105 0 i).toNat (I0 106 0 i) (gvT (I0 108 0 i) (I0 109 0 i) (I0 110 0 i) told) m ty dy → (∀ j, j < 10 → I 78 0 j = od j) → 0 ≤ a → a ≤ 1000000 * k →
    ∃ J u7' u8', Res (d + 4) 233 46 [vr 12 0, vi (y : Int), vi bin, vi right, vl (A + a), vx, vi (i : Int), vi (k : Int), u8] [] (mk I L t) = Res (d + 4) 233 6 [vr 12 0, vi (y : Int), vi bin, vi right, vl (A + fo (bnS od (msuB I0 i told dy m) (mww I0 i) (I0 107 0 i) bin right) k n a), vx, vi ((i + 1 : Nat) : Int), u7', u8'] [] (mk J L t) ∧ Fr sF J0 J
  | 0, k, a, I, u8, hk, F, hM, hod, h0, h1 => by
    refine ⟨I, vi (k : Int), u8, Eq.trans (P233_46_11 (by rw [F 12 0 12 rfl]; omega)) ?_, F⟩
    rw [lem_w32k (by omega)]
    rfl
  | n + 1, k, a, I, u8, hk, F, hM, hod, h0, h1 => by
    have hl9 := hl.1
    have FI : Fr sMs I0 I := F0.tr (sF_s F)
    have e12 : I 12 0 12 = J0 12 0 12 := F 12 0 12 rfl
    have e54 : I 54 0 = J0 54 0 := F.ri (fun _ => rfl)
    have ev : mww I0 i (k : Int) = J0 54 0 k := by rw [← em]; exact mrv_at (by omega)
    have e107 : I 107 0 ((i : Int).toNat) = I0 107 0 i := FI 107 0 i rfl
    have hok := ho k (by omega)
    have hstep := bn64 (od := od) (sure := msuB I0 i told dy m) (rv := mww I0 i) (seen := I0 107 0 i) (bin := bin) (right := right) ho hA (k := k) (by omega) h0 h1
    have hs := bnS_in (sure := msuB I0 i told dy m) (rv := mww I0 i) (seen := I0 107 0 i) (bin := bin) (right := right) ho (k := k) (by omega) h0 h1
    rw [fo_s]
    -- what follows
    have go : ∀ (J1 : H3) (v : Int) (u8' : MV), Fr sF J0 J1 → MAt J1 (I0 105 0 i).toNat (I0 106 0 i) (gvT (I0 108 0 i) (I0 109 0 i) (I0 110 0 i) told) m ty dy → (∀ j, j < 10 → J1 78 0 j = od j) → A + bnS od (msuB I0 i told dy m) (mww I0 i) (I0 107 0 i) bin right k a = v →
        Res (d + 4) 233 46 [vr 12 0, vi (y : Int), vi bin, vi right, vl (A + a), vx, vi (i : Int), vi (k : Int), u8] [] (mk I L t) = Res (d + 4) 233 46 [vr 12 0, vi (y : Int), vi bin, vi right, vl v, vx, vi (i : Int), vi (w32 ((k : Int) + 1)), u8'] [] (mk J1 L t) →
        ∃ J u7' u8', Res (d + 4) 233 46 [vr 12 0, vi (y : Int), vi bin, vi right, vl (A + a), vx, vi (i : Int), vi (k : Int), u8] [] (mk I L t) = Res (d + 4) 233 6 [vr 12 0, vi (y : Int), vi bin, vi right, vl (A + fo (bnS od (msuB I0 i told dy m) (mww I0 i) (I0 107 0 i) bin right) (k + 1) n (bnS od (msuB I0 i told dy m) (mww I0 i) (I0 107 0 i) bin right k a)), vx, vi ((i + 1 : Nat) : Int), u7', u8'] [] (mk J L t) ∧ Fr sF J0 J := by
      intro J1 v u8' FJ aJ oJ hv hr
      rw [lem_w32k (by omega), ← hv] at hr
      obtain ⟨J, u7', u8'', h2, F2⟩ := l233p (y := y) hi ho hA hb hl F0 em n (k + 1) (bnS od (msuB I0 i told dy m) (mww I0 i) (I0 107 0 i) bin right k a) J1 u8' (by omega) FJ aJ oJ hs.1 hs.2
      exact ⟨J, u7', u8'', hr.trans h2, F2⟩
    rw [ev] at hstep
    by_cases h1' : J0 54 0 k = -1
    · rw [if_pos h1'] at hstep
      exact go I _ u8 F hM hod hstep (P233_46_10 (h1 := by rw [e12]; omega) (g1 := by omega) (h2 := by rw [Int.toNat_natCast, e54]; exact h1'))
    · rw [if_neg h1'] at hstep
      by_cases h2 : (if J0 54 0 k = I0 107 0 i then (1 : Int) else 0) = right
      · rw [if_pos h2] at hstep
        have hrvk : mrv I (k : Int) ≠ -1 := by rw [mrv_fr F rfl (fun _ => rfl), em, ev]; exact h1'
        obtain ⟨J1, c1, F1, a1⟩ := msure (d := d) (L := L) (t := t) (p := k) hM (lnOk_fr F rfl (fun _ => rfl) hl) hrvk
        have esu : suQ (ans (mH I (I0 105 0 i).toNat)) (gvT (I0 108 0 i) (I0 109 0 i) (I0 110 0 i) told dy) (I0 106 0 i) m (nM I) (I 49 0) (mrv I) (k : Int) = msuB I0 i told dy m (k : Int) := by
          unfold msuB
          rw [s_mH FI, s_nM FI, FI.ri (r := 49) (i := 0) (fun _ => rfl), mrv_fr F rfl (fun _ => rfl), em]
        rw [esu] at c1
        have o1 : ∀ j, j < 10 → J1 78 0 j = od j := fun j hj => (F1 78 0 j rfl).trans (hod j hj)
        have e78 : J1 78 0 ((k : Int).toNat) = od k := o1 k (by omega)
        by_cases h5 : 4 < vIdiv (msuB I0 i told dy m (k : Int)) 20
        · rw [if_neg (show ¬ vIdiv (msuB I0 i told dy m (k : Int)) 20 < 4 by omega)] at hstep
          by_cases h6 : 4 = bin
          · rw [if_pos h6, ← e78] at hstep
            by_cases h3 : J0 54 0 k = I0 107 0 i
            · rw [if_pos h3] at h2
              exact go J1 _ _ (F.tr F1) a1 o1 hstep (P233_46_1 (h1 := by rw [e12]; omega) (g1 := by omega) (h2 := by rw [Int.toNat_natCast, e54]; exact h1') (g2 := by omega) (h3 := by rw [e107, Int.toNat_natCast, e54]; exact h3) (h4 := h2) (c1 := c1) (h5 := h5) (h6 := h6) (g3 := by omega))
            · rw [if_neg h3] at h2
              exact go J1 _ _ (F.tr F1) a1 o1 hstep (P233_46_6 (h1 := by rw [e12]; omega) (g1 := by omega) (h2 := by rw [Int.toNat_natCast, e54]; exact h1') (g2 := by omega) (h3 := by rw [e107, Int.toNat_natCast, e54]; exact h3) (h4 := h2) (c1 := c1) (h5 := h5) (h6 := h6) (g3 := by omega))
          · rw [if_neg h6] at hstep
            by_cases h3 : J0 54 0 k = I0 107 0 i
            · rw [if_pos h3] at h2
              exact go J1 _ _ (F.tr F1) a1 o1 hstep (P233_46_2 (h1 := by rw [e12]; omega) (g1 := by omega) (h2 := by rw [Int.toNat_natCast, e54]; exact h1') (g2 := by omega) (h3 := by rw [e107, Int.toNat_natCast, e54]; exact h3) (h4 := h2) (c1 := c1) (h5 := h5) (h6 := h6))
            · rw [if_neg h3] at h2
              exact go J1 _ _ (F.tr F1) a1 o1 hstep (P233_46_7 (h1 := by rw [e12]; omega) (g1 := by omega) (h2 := by rw [Int.toNat_natCast, e54]; exact h1') (g2 := by omega) (h3 := by rw [e107, Int.toNat_natCast, e54]; exact h3) (h4 := h2) (c1 := c1) (h5 := h5) (h6 := h6))
        · have ebin : (if vIdiv (msuB I0 i told dy m (k : Int)) 20 < 4 then vIdiv (msuB I0 i told dy m (k : Int)) 20 else 4) = vIdiv (msuB I0 i told dy m (k : Int)) 20 := by
            split <;> omega
          rw [ebin] at hstep
          by_cases h6 : vIdiv (msuB I0 i told dy m (k : Int)) 20 = bin
          · rw [if_pos h6, ← e78] at hstep
            by_cases h3 : J0 54 0 k = I0 107 0 i
            · rw [if_pos h3] at h2
              exact go J1 _ _ (F.tr F1) a1 o1 hstep (P233_46_3 (h1 := by rw [e12]; omega) (g1 := by omega) (h2 := by rw [Int.toNat_natCast, e54]; exact h1') (g2 := by omega) (h3 := by rw [e107, Int.toNat_natCast, e54]; exact h3) (h4 := h2) (c1 := c1) (h5 := by omega) (h6 := h6) (g3 := by omega))
            · rw [if_neg h3] at h2
              exact go J1 _ _ (F.tr F1) a1 o1 hstep (P233_46_8 (h1 := by rw [e12]; omega) (g1 := by omega) (h2 := by rw [Int.toNat_natCast, e54]; exact h1') (g2 := by omega) (h3 := by rw [e107, Int.toNat_natCast, e54]; exact h3) (h4 := h2) (c1 := c1) (h5 := by omega) (h6 := h6) (g3 := by omega))
          · rw [if_neg h6] at hstep
            by_cases h3 : J0 54 0 k = I0 107 0 i
            · rw [if_pos h3] at h2
              exact go J1 _ _ (F.tr F1) a1 o1 hstep (P233_46_4 (h1 := by rw [e12]; omega) (g1 := by omega) (h2 := by rw [Int.toNat_natCast, e54]; exact h1') (g2 := by omega) (h3 := by rw [e107, Int.toNat_natCast, e54]; exact h3) (h4 := h2) (c1 := c1) (h5 := by omega) (h6 := h6))
            · rw [if_neg h3] at h2
              exact go J1 _ _ (F.tr F1) a1 o1 hstep (P233_46_9 (h1 := by rw [e12]; omega) (g1 := by omega) (h2 := by rw [Int.toNat_natCast, e54]; exact h1') (g2 := by omega) (h3 := by rw [e107, Int.toNat_natCast, e54]; exact h3) (h4 := h2) (c1 := c1) (h5 := by omega) (h6 := h6))
      · rw [if_neg h2] at hstep
        by_cases h3 : J0 54 0 k = I0 107 0 i
        · rw [if_pos h3] at h2
          exact go I _ u8 F hM hod hstep (P233_46_0 (h1 := by rw [e12]; omega) (g1 := by omega) (h2 := by rw [Int.toNat_natCast, e54]; exact h1') (g2 := by omega) (h3 := by rw [e107, Int.toNat_natCast, e54]; exact h3) (h4 := h2))
        · rw [if_neg h3] at h2
          exact go I _ u8 F hM hod hstep (P233_46_5 (h1 := by rw [e12]; omega) (g1 := by omega) (h2 := by rw [Int.toNat_natCast, e54]; exact h1') (g2 := by omega) (h3 := by rw [e107, Int.toNat_natCast, e54]; exact h3) (h4 := h2))
theorem MAt.told {J : H3} {h : Nat} {k s l f tt dy x : Int} {m ty : Nat → Int} (a : MAt J h k (gvT s l f tt) m ty dy) : MAt (up3 J 75 0 10 x) h k (gvT s l f x) m ty dy := by
  have F : Fr s75 J (up3 J 75 0 10 x) := Fr.rfl'.up rfl
  refine ⟨(mhd_fr F rfl (fun _ => ⟨rfl, rfl, rfl⟩) a.1).1, a.2.1, gvM_t a.2.2.1, ?_, ?_, ?_⟩
  · rw [F.ri (r := 76) (i := 0) (fun _ => rfl)]
    exact a.2.2.2.1
  · rw [F.ri (r := 77) (i := 0) (fun _ => rfl)]
    exact a.2.2.2.2.1
  · rw [F.ri (r := 76) (i := 0) (fun _ => rfl)]
    exact a.2.2.2.2.2
theorem l233 {y : Nat} {bin right : Int} (hk : mlOk I0) (hy : y < 4) (hb : right = 0 ∨ right = 1) : ∀ (n k : Nat) (a : Int) (I : H3) (u7 u8 : MV), k + n = (I0 12 0 4).toNat → Fr sMs I0 I → 0 ≤ a → a ≤ 9000000 * k →
    ∃ J, Res (d + 5) 233 6 [vr 12 0, vi (y : Int), vi bin, vi right, vl a, vx, vi (k : Int), u7, u8] [] (mk I L t) = some (vl (fo (fun i a => w64 (a + mbnW I0 i y bin right)) k n a), mk J L t) ∧ Fr sMs I0 J
  | 0, k, a, I, u7, u8, hk', F, h0, h1 => by
    have hb4 := hk.2.2.2.2.1.1
    exact ⟨I, P233_6_2 (by rw [F 12 0 4 rfl]; omega), F⟩
  | n + 1, k, a, I, u7, u8, hk', F, h0, h1 => by
    have hb4 := hk.2.2.2.2.1.1
    obtain ⟨J, c, FJ, sh, hM, em, ln, o⟩ := mtried (d := d) (L := L) (t := t) (i := k) hk F (by omega) hy
    have ho : odB (mtoW I0 k y) := mtoW_in (hk.2.2.2.2.2 y hy)
    have e71 : J 71 0 ((y : Int).toNat) = I0 71 0 y := FJ 71 0 y rfl
    have hl9 := ln.1
    have F0 : Fr sMs I0 (up3 J 75 0 10 (if I0 71 0 y = 0 then 0 else 1)) := FJ.up rfl
    have F75 : Fr s75 J (up3 J 75 0 10 (if I0 71 0 y = 0 then 0 else 1)) := Fr.rfl'.up rfl
    have ln' := lnOk_fr F75 rfl (fun _ => rfl) ln
    obtain ⟨J2, u7', u8', hr2, F2⟩ := l233p (d := d + 1) (L := L) (t := t) (y := y) (bin := bin) (i := k) (told := if I0 71 0 y = 0 then 0 else 1) (od := mtoW I0 k y) (A := a) (by omega) ho (by omega) hb ln' F0 (by rw [mrv_fr F75 rfl (fun _ => rfl)]; exact em) (J 12 0 12).toNat 0 0 _ u8 (by rw [F75 12 0 12 rfl]; omega) Fr.rfl' (hM.told (x := if I0 71 0 y = 0 then 0 else 1)) (fun j hj => o j hj) (Int.le_refl _) (by omega)
    have e9 : fo (bnS (mtoW I0 k y) (msuB I0 k (if I0 71 0 y = 0 then 0 else 1) (mtrW I0 k y).2 (mtrW I0 k y).1) (mww I0 k) (I0 107 0 k) bin right) 0 (J 12 0 12).toNat 0 = mbnW I0 k y bin right := by
      unfold mbnW bnP
      obtain ⟨q, hq⟩ : ∃ q, 9 = (J 12 0 12).toNat + q := ⟨9 - (J 12 0 12).toNat, by omega⟩
      rw [hq, fo_add]
      symm
      exact fo_id q _ _ (fun j b h1 h2 => if_pos (by rw [← em]; exact mrv_ge (by omega)))
    rw [e9, Int.add_zero] at hr2
    have hbn : 0 ≤ mbnW I0 k y bin right ∧ mbnW I0 k y bin right ≤ 9000000 := bn_in ho 9 0 0 (Nat.le_refl _) (Int.le_refl _) (by omega)
    have e64 : w64 (a + mbnW I0 k y bin right) = a + mbnW I0 k y bin right := w64_id (by omega) (by omega)
    obtain ⟨J3, hr3, F3⟩ := l233 hk hy hb (bin := bin) n (k + 1) (a + mbnW I0 k y bin right) J2 u7' u8' (by omega) (F0.tr (sF_s F2)) (by omega) (by omega)
    rw [fo_s, e64]
    refine ⟨J3, Eq.trans ?_ (Eq.trans hr2 hr3), F3⟩
    by_cases h2 : I0 71 0 y = 0
    · have er : (if I0 71 0 y = 0 then (0 : Int) else 1) = 0 := if_pos h2
      rw [er]
      exact P233_6_1 (h1 := by rw [F 12 0 4 rfl]; omega) (c1 := c) (g1 := by omega) (h2 := by rw [e71]; exact h2)
    · have er : (if I0 71 0 y = 0 then (0 : Int) else 1) = 1 := if_neg h2
      rw [er]
      exact P233_6_0 (h1 := by rw [F 12 0 4 rfl]; omega) (c1 := c) (g1 := by omega) (h2 := by rw [e71]; exact h2)
theorem sp233 {y : Nat} {bin right : Int} (hk : mlOk I0) (hy : y < 4) (hb : right = 0 ∨ right = 1) : ∃ J, Cal (d + 5) 233 [vr 12 0, vi (y : Int), vi bin, vi right] (mk I0 L t) = some (vl (mallW I0 y bin right), mk J L t) ∧ Fr sMs I0 J := by
  obtain ⟨J, h1, h2⟩ := l233 (d := d) (L := L) (t := t) hk hy hb (bin := bin) (I0 12 0 4).toNat 0 0 I0 vx vx (by omega) Fr.rfl' (Int.le_refl _) (by omega)
  exact ⟨J, Eq.trans P233_0_0 h1, h2⟩
def mmsS (I : H3) (y : Nat) (own : Int) (i : Nat) (a : Int) : Int := if (if I 49 0 (I 107 0 i).toNat = I 106 0 i then 1 else 0) = own then w64 (a + w32 (mshW I i y 1 + mshW I i y 2)) else a
def mmsW (I : H3) (y : Nat) (own : Int) : Int := fo (mmsS I y own) 0 (I 12 0 4).toNat 0
theorem l234 {y : Nat} {own : Int} (hk : mlOk I0) (hy : y < 4) (hb : own = 0 ∨ own = 1) : ∀ (n k : Nat) (a : Int) (I : H3), k + n = (I0 12 0 4).toNat → Fr sMs I0 I →
    ∃ J, Res (d + 5) 234 5 [vr 12 0, vi (y : Int), vi own, vl a, vx, vi (k : Int)] [] (mk I L t) = some (vl (fo (mmsS I0 y own) k n a), mk J L t) ∧ Fr sMs I0 J
  | 0, k, a, I, hk', F => by
    have hb4 := hk.2.2.2.2.1.1
    exact ⟨I, P234_5_4 (by rw [F 12 0 4 rfl]; omega), F⟩
  | n + 1, k, a, I, hk', F => by
    have hb4 := hk.2.2.2.2.1.1
    have hw := hk.2.2.2.2.1.2 k (by omega)
    have hd := hw.2.1
    have e107 : I 107 0 ((k : Int).toNat) = I0 107 0 k := F 107 0 k rfl
    have e106 : I 106 0 ((k : Int).toNat) = I0 106 0 k := F 106 0 k rfl
    have e49 : ∀ x, I 49 0 x = I0 49 0 x := fun x => F 49 0 x rfl
    rw [fo_s]
    by_cases h2 : (if I0 49 0 (I0 107 0 k).toNat = I0 106 0 k then (1 : Int) else 0) = own
    · obtain ⟨J, c, FJ, sh, _⟩ := mtried (d := d) (L := L) (t := t) (i := k) hk F (by omega) hy
      have es : mmsS I0 y own k a = w64 (a + w32 (mshW I0 k y 1 + mshW I0 k y 2)) := if_pos h2
      rw [es]
      obtain ⟨J3, hr, F3⟩ := l234 hk hy hb (own := own) n (k + 1) (w64 (a + w32 (mshW I0 k y 1 + mshW I0 k y 2))) J (by omega) FJ
      refine ⟨J3, Eq.trans ?_ hr, F3⟩
      rw [← lem_w32k (k := k) (by omega)]
      by_cases h1 : I0 49 0 (I0 107 0 k).toNat = I0 106 0 k
      · rw [if_pos h1] at h2
        exact P234_5_1 (h1 := by rw [F 12 0 4 rfl]; omega) (g1 := by omega) (g2 := by rw [e107]; omega) (h2 := by rw [e107, e106, e49]; exact h1) (h3 := h2) (c1 := c) (c2 := sh L (d + 4) 1) (c3 := sh L (d + 4) 2)
      · rw [if_neg h1] at h2
        exact P234_5_3 (h1 := by rw [F 12 0 4 rfl]; omega) (g1 := by omega) (g2 := by rw [e107]; omega) (h2 := by rw [e107, e106, e49]; exact h1) (h3 := h2) (c1 := c) (c2 := sh L (d + 4) 1) (c3 := sh L (d + 4) 2)
    · have es : mmsS I0 y own k a = a := if_neg h2
      rw [es]
      obtain ⟨J3, hr, F3⟩ := l234 hk hy hb (own := own) n (k + 1) a I (by omega) F
      refine ⟨J3, Eq.trans ?_ hr, F3⟩
      rw [← lem_w32k (k := k) (by omega)]
      by_cases h1 : I0 49 0 (I0 107 0 k).toNat = I0 106 0 k
      · rw [if_pos h1] at h2
        exact P234_5_0 (h1 := by rw [F 12 0 4 rfl]; omega) (g1 := by omega) (g2 := by rw [e107]; omega) (h2 := by rw [e107, e106, e49]; exact h1) (h3 := h2)
      · rw [if_neg h1] at h2
        exact P234_5_2 (h1 := by rw [F 12 0 4 rfl]; omega) (g1 := by omega) (g2 := by rw [e107]; omega) (h2 := by rw [e107, e106, e49]; exact h1) (h3 := h2)
theorem sp234 {y : Nat} {own : Int} (hk : mlOk I0) (hy : y < 4) (hb : own = 0 ∨ own = 1) : ∃ J, Cal (d + 5) 234 [vr 12 0, vi (y : Int), vi own] (mk I0 L t) = some (vl (mmsW I0 y own), mk J L t) ∧ Fr sMs I0 J := by
  obtain ⟨J, h1, h2⟩ := l234 (d := d) (L := L) (t := t) hk hy hb (own := own) (I0 12 0 4).toNat 0 0 I0 (by omega) Fr.rfl'
  exact ⟨J, Eq.trans P234_0_0 h1, h2⟩
theorem sp235 (hk : mlOk I0) (k what be : Int) (b01 : be = 0 ∨ be = 1) (bb : be = 1 ↔ ∃ o, o < 4 ∧ bett (fun o => msumW I0 o 0) (fun o => msumW I0 o 1) k.toNat o) :
    ∃ J, Cal (d + 7) 235 [vr 12 0, vi k, vi what] (mk I0 L t) = some (vl (wayV (msumW I0) (mallW I0) (mmsW I0) k what be), mk J L t) ∧ Fr sMs I0 J := by
  unfold wayV
  by_cases h0 : 0 ≤ k ∧ k < 4
  · obtain ⟨x, hx⟩ : ∃ x : Nat, k = (x : Int) := ⟨k.toNat, by omega⟩
    subst hx
    have hx4 : x < 4 := by omega
    rw [if_neg (show ¬ ¬ (0 ≤ (x : Int) ∧ (x : Int) < 4) from fun q => q h0), Int.toNat_natCast]
    by_cases w01 : 0 ≤ what ∧ what ≤ 1
    · obtain ⟨J, c, F⟩ := sp231 (d := d + 1) (L := L) (t := t) (I := I0) (y := x) (what := what) hk hx4 Fr.rfl'
      refine ⟨J, Eq.trans (P235_0_8 (h1 := h0) (h2 := w01) (c1 := c)) ?_, F⟩
      by_cases w0 : what = 0
      · rw [if_pos w0, w0]
      · rw [if_neg w0, if_pos (show what = 1 by omega), show what = 1 by omega]
    · rw [if_neg (show ¬ what = 0 by omega), if_neg (show ¬ what = 1 by omega)]
      by_cases w2 : what = 2
      · rw [if_pos w2]
        obtain ⟨J, b, c, F, c01, cb⟩ := sp232 (d := d) (L := L) (t := t) (x := x) hk hx4
        have eb : b = be := by
          have q : b = 1 ↔ be = 1 := cb.trans bb.symm
          omega
        subst eb
        rcases c01 with q | q
        · rw [q] at c ⊢
          exact ⟨J, P235_0_2 (h1 := h0) (h2 := w01) (h3 := w2) (c1 := c), F⟩
        · rw [q] at c ⊢
          exact ⟨J, P235_0_1 (h1 := h0) (h2 := w01) (h3 := w2) (c1 := c), F⟩
      · rw [if_neg w2]
        by_cases w3 : 10 ≤ what ∧ what ≤ 14
        · rw [if_pos w3]
          obtain ⟨J, c, F⟩ := sp233 (d := d + 1) (L := L) (t := t) (y := x) (bin := what - 10) (right := 1) hk hx4 (Or.inr rfl)
          exact ⟨J, P235_0_7 (h1 := h0) (h2 := w01) (h3 := w2) (h4 := w3) (c1 := by rw [w32_s (by omega)]; exact c), F⟩
        · rw [if_neg w3]
          by_cases w4 : 20 ≤ what ∧ what ≤ 24
          · rw [if_pos w4]
            obtain ⟨J, c, F⟩ := sp233 (d := d + 1) (L := L) (t := t) (y := x) (bin := what - 20) (right := 0) hk hx4 (Or.inl rfl)
            exact ⟨J, P235_0_6 (h1 := h0) (h2 := w01) (h3 := w2) (h4 := w3) (h5 := w4) (c1 := by rw [w32_s (by omega)]; exact c), F⟩
          · rw [if_neg w4]
            by_cases w5 : what = 30
            · rw [if_pos w5]
              obtain ⟨J, c, F⟩ := sp234 (d := d + 1) (L := L) (t := t) (y := x) (own := 1) hk hx4 (Or.inr rfl)
              exact ⟨J, P235_0_5 (h1 := h0) (h2 := w01) (h3 := w2) (h4 := w3) (h5 := w4) (h6 := w5) (c1 := c), F⟩
            · rw [if_neg w5]
              by_cases w6 : what = 31
              · rw [if_pos w6]
                obtain ⟨J, c, F⟩ := sp234 (d := d + 1) (L := L) (t := t) (y := x) (own := 0) hk hx4 (Or.inl rfl)
                exact ⟨J, P235_0_3 (h1 := h0) (h2 := w01) (h3 := w2) (h4 := w3) (h5 := w4) (h6 := w5) (h7 := w6) (c1 := c), F⟩
              · rw [if_neg w6]
                exact ⟨I0, P235_0_4 (h1 := h0) (h2 := w01) (h3 := w2) (h4 := w3) (h5 := w4) (h6 := w5) (h7 := w6), Fr.rfl'⟩
  · rw [if_pos h0]
    exact ⟨I0, P235_0_0 (by omega), Fr.rfl'⟩
theorem sp230 (hk : mlOk I0) (i k what : Int) : ∃ J, Cal (d + 5) 230 [vr 12 0, vi i, vi k, vi what] (mk I0 L t) = some (vi (triedV (mshW I0) (I0 12 0 4) i k what), mk J L t) ∧ Fr sMs I0 J := by
  have hb := hk.2.2.2.2.1.1
  have e : w32 (I0 12 0 4 - 1) = I0 12 0 4 - 1 := w32_s (by omega)
  unfold triedV
  by_cases h1 : 0 ≤ i ∧ i < I0 12 0 4
  · by_cases h2 : 0 ≤ k ∧ k < 4
    · by_cases h3 : 0 ≤ what ∧ what < 4
      · rw [if_neg (by omega)]
        obtain ⟨J, c, FJ, sh, _⟩ := mtried (d := d) (I := I0) (L := L) (t := t) (i := i.toNat) (y := k.toNat) hk Fr.rfl' (by omega) (by omega)
        have ei : ((i.toNat : Nat) : Int) = i := by omega
        have ek : ((k.toNat : Nat) : Int) = k := by omega
        have sh2 := sh L (d + 4) what
        rw [ei, ek] at c
        rw [ei] at sh2
        exact ⟨J, P230_0_3 (h1 := by rw [e]; omega) (h2 := h2) (h3 := by omega) (c1 := c) (c2 := sh2), FJ⟩
      · rw [if_pos (by omega)]
        exact ⟨I0, P230_0_2 (h1 := by rw [e]; omega) (h2 := h2) (h3 := by omega), Fr.rfl'⟩
    · rw [if_pos (by omega)]
      exact ⟨I0, P230_0_1 (h1 := by rw [e]; omega) (h2 := h2), Fr.rfl'⟩
  · rw [if_pos (by omega)]
    exact ⟨I0, P230_0_0 (h1 := by rw [e]; omega), Fr.rfl'⟩
end MALL
