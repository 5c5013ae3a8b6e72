/-! odds -/
def ldOk (n led push : Int) : Prop := (0 ≤ push ∧ push ≤ 99) ∧ (led = -1 ∨ (0 ≤ led ∧ led < n))
theorem sp110t {d i : Nat} {I L : H3} {t : Nat → Nat} {led push : Int} (h : ldOk (I 4 i 1) led push) : Cal (d + 1) 110 [vr 4 i, vi led, vi push] (mk I L t) = some (vi 1, mk I L t) := by
  by_cases a : led = -1
  · exact P110_0_3 (h1 := h.1) (h2 := a)
  · exact P110_0_2 (h1 := h.1) (h2 := a) (h3 := h.2.resolve_left a)
theorem sp110f {d i : Nat} {I L : H3} {t : Nat → Nat} {led push : Int} (h : ¬ ldOk (I 4 i 1) led push) : Cal (d + 1) 110 [vr 4 i, vi led, vi push] (mk I L t) = some (vi 0, mk I L t) := by
  by_cases b : 0 ≤ push ∧ push ≤ 99
  · have a : ¬ led = -1 := fun q => h ⟨b, Or.inl q⟩
    exact P110_0_1 (h1 := b) (h2 := a) (h3 := fun q => h ⟨b, Or.inr q⟩)
  · exact P110_0_0 (h1 := b)
noncomputable def odV (nw : Int) (n : Nat → Int) (od : Nat → Nat → Bool → Int → Int → Nat → Int) (w r kind led push place : Int) : Int :=
  @ite _ ((0 ≤ w ∧ w < nw) ∧ (0 ≤ r ∧ r < 6) ∧ (kind = 0 ∨ kind = 1) ∧ ldOk (n r.toNat) led push ∧ (place = -1 ∨ (0 ≤ place ∧ place < n r.toNat))) (Classical.propDecidable _) (oP (od w.toNat r.toNat (decide (kind = 1)) led push) place) (-1)
theorem odV_cg {nw : Int} {n n' : Nat → Int} {od od' : Nat → Nat → Bool → Int → Int → Nat → Int} {w r kind led push place : Int} (hn : ∀ r, r < 6 → n r = n' r) (ho : ∀ w r : Nat, (w : Int) < nw → r < 6 → od w r = od' w r) : odV nw n od w r kind led push place = odV nw n' od' w r kind led push place := by
  unfold odV
  by_cases a : (0 ≤ w ∧ w < nw) ∧ (0 ≤ r ∧ r < 6)
  · rw [hn r.toNat (by omega), ho w.toNat r.toNat (by omega) (by omega)]
  · rw [if_neg (fun q => a ⟨q.1, q.2.1⟩), if_neg (fun q => a ⟨q.1, q.2.1⟩)]
theorem sp84 {d : Nat} {I L : H3} {t : Nat → Nat} (h : Rel I t) (w r kind led push place : Int) : ∃ J, Cal (d + 50) 84 [vr 11 0, vi w, vi r, vi kind, vi led, vi push, vi place] (mk I L t) = some (vi (odV (I 11 0 12) (fun r => I 4 r 1) (fun w r => odW I t w (rv I r)) w r kind led push place), mk J L t) ∧ Fr sX I J := by
  have hb := h.pM.2.1
  unfold odV
  by_cases a : 0 ≤ w ∧ w < I 11 0 12
  · by_cases b : 0 ≤ r ∧ r < 6
    · have hr := (h.rw' (r := r.toNat) (by omega)).1
      have m := h.mn.2 w.toNat (by omega)
      by_cases c : kind = 0 ∨ kind = 1
      · by_cases e : ldOk (I 4 r.toNat 1) led push
        · have ce := sp110t (d := d + 48) (L := L) (t := t) e
          by_cases f : place = -1 ∨ (0 ≤ place ∧ place < I 4 r.toNat 1)
          · rw [if_pos ⟨a, b, c, e, f⟩]
            obtain ⟨J, c1, F, o⟩ := s127 (d := d + 45) (L := L) (kind := kind) (led := led) (push := push) m.1 m.2.1 h.fc hr e.1
            have c2 := s1 (d := d + 48) (I := J) (L := L) (t := t) (p := place)
            have eo : oP (J 15 0) place = oP (odW I t w.toNat (rv I r.toNat) (decide (kind = 1)) led push) place := by
              unfold oP
              exact o _ (by split <;> omega)
            rw [eo] at c2
            refine ⟨J, ?_, F⟩
            rcases c with q | q
            · by_cases g : place = -1
              · exact P84_0_9 (d := d + 48) (g1 := by omega) (h1 := a) (h2 := b) (h3 := q) (c1 := ce) (h4 := g) (g2 := by omega) (c2 := c1) (c3 := c2)
              · exact P84_0_8 (d := d + 48) (g1 := by omega) (h1 := a) (h2 := b) (h3 := q) (c1 := ce) (h4 := g) (h5 := f.resolve_left g) (g2 := by omega) (c2 := c1) (c3 := c2)
            · by_cases g : place = -1
              · exact P84_0_5 (d := d + 48) (g1 := by omega) (h1 := a) (h2 := b) (h3 := by omega) (h4 := q) (c1 := ce) (h5 := g) (g2 := by omega) (c2 := c1) (c3 := c2)
              · exact P84_0_4 (d := d + 48) (g1 := by omega) (h1 := a) (h2 := b) (h3 := by omega) (h4 := q) (c1 := ce) (h5 := g) (h6 := f.resolve_left g) (g2 := by omega) (c2 := c1) (c3 := c2)
          · rw [if_neg (fun q => f q.2.2.2.2)]
            refine ⟨I, ?_, Fr.rfl'⟩
            rcases c with q | q
            · exact P84_0_7 (d := d + 48) (g1 := by omega) (h1 := a) (h2 := b) (h3 := q) (c1 := ce) (h4 := fun z => f (Or.inl z)) (h5 := fun z => f (Or.inr z))
            · exact P84_0_3 (d := d + 48) (g1 := by omega) (h1 := a) (h2 := b) (h3 := by omega) (h4 := q) (c1 := ce) (h5 := fun z => f (Or.inl z)) (h6 := fun z => f (Or.inr z))
        · rw [if_neg (fun q => e q.2.2.2.1)]
          have ce := sp110f (d := d + 48) (L := L) (t := t) e
          refine ⟨I, ?_, Fr.rfl'⟩
          rcases c with q | q
          · exact P84_0_10 (d := d + 48) (g1 := by omega) (h1 := a) (h2 := b) (h3 := q) (c1 := ce)
          · exact P84_0_6 (d := d + 48) (g1 := by omega) (h1 := a) (h2 := b) (h3 := by omega) (h4 := q) (c1 := ce)
      · rw [if_neg (fun q => c q.2.2.1)]
        exact ⟨I, P84_0_2 (d := d + 48) (g1 := by omega) (h1 := a) (h2 := b) (h3 := fun z => c (Or.inl z)) (h4 := fun z => c (Or.inr z)), Fr.rfl'⟩
    · rw [if_neg (fun q => b q.2.1)]
      exact ⟨I, P84_0_1 (d := d + 48) (g1 := by omega) (h1 := a) (h2 := b), Fr.rfl'⟩
  · rw [if_neg (fun q => a q.1)]
    exact ⟨I, P84_0_0 (d := d + 48) (g1 := by omega) (h1 := a), Fr.rfl'⟩
theorem sp203 {d : Nat} {I L : H3} {t : Nat → Nat} (h : Rel I t) (w r kind led push place : Int) : ∃ J, Cal (d + 50) 203 [vr 12 0, vi w, vi r, vi kind, vi led, vi push, vi place] (mk I L t) = some (vi (odV (I 12 0 2) (I 53 0) (fun w r => modW I w (mrw I r)) w r kind led push place), mk J L t) ∧ Fr sMs I J := by
  have hb := h.pM.2.1
  have e2 := h.pM.1
  unfold odV
  by_cases a : 0 ≤ w ∧ w < I 12 0 2
  · by_cases b : 0 ≤ r ∧ r < 6
    · have hr := (h.rw' (r := r.toNat) (by omega)).2.1
      by_cases c : kind = 0 ∨ kind = 1
      · by_cases e : 0 ≤ push ∧ push ≤ 99
        · obtain ⟨J1, c1, F1, e12, em, ln⟩ := sp156 (d := d + 49) (L := L) (t := t) (r := r.toNat) (I := I) (by omega) hr
          rw [show ((r.toNat : Nat) : Int) = r by omega] at c1
          have hr9 := hr.1
          have G1 : Fr sMs I J1 := sLn_s F1
          by_cases f : led = -1 ∨ (0 ≤ led ∧ led < I 53 0 r.toNat)
          · by_cases g : place = -1 ∨ (0 ≤ place ∧ place < I 53 0 r.toNat)
            · rw [if_pos ⟨a, b, c, ⟨e, f⟩, g⟩]
              obtain ⟨J2, c2, F2, T2, m2⟩ := mtk (d := d + 48) (L := L) (t := t) (w := w.toNat) h.mm (by omega) G1
              rw [show ((w.toNat : Nat) : Int) = w by omega] at c2
              obtain ⟨J3, c3, F3, T3, m3, o⟩ := mtko (d := d + 46) (L := L) (t := t) (kind := kind) (led := led) (push := push) F2 m2 (lnOk_fr T2 rfl (fun _ => rfl) ln) ((sTk_ln T2).trans em) e
              refine ⟨J3, ?_, F3⟩
              have ed : decide (kind ≠ 0) = decide (kind = 1) := by
                rcases c with q | q <;> rw [q] <;> rfl
              rw [ed] at o
              by_cases x : place = -1
              · have eo : oP (modW I w.toNat (mrw I r.toNat) (decide (kind = 1)) led push) place = J3 78 0 9 := by
                  unfold oP
                  rw [if_neg (by omega)]
                  exact (o 9 (by decide)).symm
                rw [eo]
                by_cases y : led = -1
                · exact P203_0_10 (d := d + 48) (g1 := by omega) (h1 := a) (h2 := b) (h3 := by omega) (h4 := e) (c1 := c1) (h5 := y) (h6 := x) (c2 := c2) (c3 := c3)
                · exact P203_0_7 (d := d + 48) (g1 := by omega) (h1 := a) (h2 := b) (h3 := by omega) (h4 := e) (c1 := c1) (h5 := y) (g2 := by omega) (h6 := by rw [e12]; exact f.resolve_left y) (h7 := x) (c2 := c2) (c3 := c3)
              · have xx := g.resolve_left x
                have eo : oP (modW I w.toNat (mrw I r.toNat) (decide (kind = 1)) led push) place = J3 78 0 place.toNat := by
                  unfold oP
                  rw [if_pos (by omega)]
                  exact (o place.toNat (by omega)).symm
                rw [eo]
                by_cases y : led = -1
                · exact P203_0_9 (d := d + 48) (g1 := by omega) (h1 := a) (h2 := b) (h3 := by omega) (h4 := e) (c1 := c1) (h5 := y) (g2 := by omega) (h6 := x) (h7 := by rw [e12]; exact xx) (c2 := c2) (c3 := c3) (g3 := by omega)
                · exact P203_0_6 (d := d + 48) (g1 := by omega) (h1 := a) (h2 := b) (h3 := by omega) (h4 := e) (c1 := c1) (h5 := y) (g2 := by omega) (h6 := by rw [e12]; exact f.resolve_left y) (h7 := x) (h8 := by rw [e12]; exact xx) (c2 := c2) (c3 := c3) (g3 := by omega)
            · rw [if_neg (fun q => g q.2.2.2.2)]
              refine ⟨J1, ?_, G1⟩
              by_cases y : led = -1
              · exact P203_0_8 (d := d + 48) (g1 := by omega) (h1 := a) (h2 := b) (h3 := by omega) (h4 := e) (c1 := c1) (h5 := y) (g2 := by omega) (h6 := fun z => g (Or.inl z)) (h7 := by rw [e12]; exact fun z => g (Or.inr z))
              · exact P203_0_5 (d := d + 48) (g1 := by omega) (h1 := a) (h2 := b) (h3 := by omega) (h4 := e) (c1 := c1) (h5 := y) (g2 := by omega) (h6 := by rw [e12]; exact f.resolve_left y) (h7 := fun z => g (Or.inl z)) (h8 := by rw [e12]; exact fun z => g (Or.inr z))
          · rw [if_neg (fun q => f q.2.2.2.1.2)]
            exact ⟨J1, P203_0_4 (d := d + 48) (g1 := by omega) (h1 := a) (h2 := b) (h3 := by omega) (h4 := e) (c1 := c1) (g2 := by omega) (h5 := fun z => f (Or.inl z)) (h6 := by rw [e12]; exact fun z => f (Or.inr z)), G1⟩
        · rw [if_neg (fun q => e q.2.2.2.1.1)]
          exact ⟨I, P203_0_3 (d := d + 48) (g1 := by omega) (h1 := a) (h2 := b) (h3 := by omega) (h4 := e), Fr.rfl'⟩
      · rw [if_neg (fun q => c q.2.2.1)]
        exact ⟨I, P203_0_2 (d := d + 48) (g1 := by omega) (h1 := a) (h2 := b) (h3 := by omega), Fr.rfl'⟩
    · rw [if_neg (fun q => b q.2.1)]
      exact ⟨I, P203_0_1 (d := d + 48) (g1 := by omega) (h1 := a) (h2 := b), Fr.rfl'⟩
  · rw [if_neg (fun q => a q.1)]
    exact ⟨I, P203_0_0 (d := d + 48) (g1 := by omega) (h1 := a), Fr.rfl'⟩
theorem both_odds (w r kind led push place : Int) : Both 84 203 [vi w, vi r, vi kind, vi led, vi push, vi place] := by
  refine both_q (fun I t => odV (I 11 0 12) (fun r => I 4 r 1) (fun w r => odW I t w (rv I r)) w r kind led push place) (fun I => odV (I 12 0 2) (I 53 0) (fun w r => modW I w (mrw I r)) w r kind led push place) (fun d I L t h => ?_) (fun d I L t h => ?_) (fun I t h => ?_) (fun I J => rfl)
  · obtain ⟨J, c, F⟩ := sp84 (d := d) (L := L) h w r kind led push place
    exact ⟨J, L, c, sT_q (sX_T F), sT_K (sX_T F)⟩
  · obtain ⟨J, c, F⟩ := sp203 (d := d) (L := L) h w r kind led push place
    exact ⟨J, c, sMs_q F⟩
  · show odV (I 11 0 12) (fun r => I 4 r 1) (fun w r => odW I t w (rv I r)) w r kind led push place = odV (I 12 0 2) (I 53 0) (fun w r => modW I w (mrw I r)) w r kind led push place
    rw [h.pM.1]
    exact odV_cg (fun r hr => (h.pR r hr).1.symm) (fun w r hw hr => by
      rw [(h.rw' hr).2.2]
      funext each led push
      exact (h.eod hw).symm)
/-! sure -/
def suV (nw : Int) (rvs : Nat → Int → Int) (su : Nat → Nat → Int → Int) (w r p : Int) : Int := if (0 ≤ w ∧ w < nw) ∧ (0 ≤ r ∧ r < 6) ∧ rvs r.toNat p ≠ -1 then su w.toNat r.toNat p else -1
def msuW (I : H3) (w r : Nat) (p : Int) : Int := suQ (mA I w) (mG I w (w32 (I 12 0 0 - I 86 0 w))) (I 81 0 w) (c16 (kpM I w)) (nM I) (I 49 0) (mrw I r) p
theorem sp88 {d : Nat} {I L : H3} {t : Nat → Nat} (h : Rel I t) (w r p : Int) : ∃ J, Cal (d + 50) 88 [vr 11 0, vi w, vi r, vi p] (mk I L t) = some (vi (suV (I 11 0 12) (rv I) (suW I t) w r p), mk J L t) ∧ Fr sX I J := by
  have hb := h.pM.2.1
  unfold suV
  by_cases a : 0 ≤ w ∧ w < I 11 0 12
  · by_cases b : 0 ≤ r ∧ r < 6
    · have hr := (h.rw' (r := r.toNat) (by omega)).1
      have m := h.mn.2 w.toNat (by omega)
      by_cases c : rv I r.toNat p = -1
      · rw [if_neg (fun q => q.2.2 c)]
        exact ⟨I, P88_0_2 (d := d + 48) (g1 := by omega) (h1 := a) (h2 := b) (g2 := hr.1) (h3 := c), Fr.rfl'⟩
      · rw [if_pos ⟨a, b, c⟩]
        obtain ⟨J, c1, F⟩ := s116 (d := d + 44) (L := L) (p := p) m.1 m.2.1 h.fc hr
        exact ⟨J, P88_0_3 (d := d + 48) (g1 := by omega) (h1 := a) (h2 := b) (g2 := hr.1) (h3 := c) (g3 := by omega) (c1 := c1), sAsk_X F⟩
    · rw [if_neg (fun q => b q.2.1)]
      exact ⟨I, P88_0_1 (d := d + 48) (g1 := by omega) (h1 := a) (h2 := b), Fr.rfl'⟩
  · rw [if_neg (fun q => a q.1)]
    exact ⟨I, P88_0_0 (d := d + 48) (g1 := by omega) (h1 := a), Fr.rfl'⟩
/-- a witness taken, how sure -/
theorem mtks {d w : Nat} {I0 I L : H3} {t : Nat → Nat} {rw' : Int → Int} (F : Fr sMs I0 I) (a : MAt I (I0 80 0 w).toNat (I0 81 0 w) (gvT (I0 83 0 w) (I0 84 0 w) (I0 85 0 w) (I0 87 0 w)) (c16 (kpM I0 w)) (c16 (ktM I0 w)) (w32 (I0 12 0 0 - I0 86 0 w))) (hl : lnOk I) (hr : mrv I = rw') {p : Nat} (hp : mrv I (p : Int) ≠ -1) :
    ∃ J, Cal (d + 3) 194 [vr 12 0, vi (p : Int)] (mk I L t) = some (vi (suQ (mA I0 w) (mG I0 w (w32 (I0 12 0 0 - I0 86 0 w))) (I0 81 0 w) (c16 (kpM I0 w)) (nM I0) (I0 49 0) rw' (p : Int)), mk J L t) ∧ Fr sMs I0 J ∧ Fr sF I J ∧ MAt J (I0 80 0 w).toNat (I0 81 0 w) (gvT (I0 83 0 w) (I0 84 0 w) (I0 85 0 w) (I0 87 0 w)) (c16 (kpM I0 w)) (c16 (ktM I0 w)) (w32 (I0 12 0 0 - I0 86 0 w)) := by
  obtain ⟨J, c, G, a2⟩ := msure (d := d) (L := L) (t := t) a hl hp
  rw [s_mH F, s_nM F, hr, F.ri (r := 49) (i := 0) (fun _ => rfl)] at c
  exact ⟨J, c, F.tr (sF_s G), G, a2⟩
theorem sp210 {d : Nat} {I L : H3} {t : Nat → Nat} (h : Rel I t) (w r p : Int) : ∃ J, Cal (d + 50) 210 [vr 12 0, vi w, vi r, vi p] (mk I L t) = some (vi (suV (I 12 0 2) (mrw I) (msuW I) w r p), mk J L t) ∧ Fr sMs I J := by
  have hb := h.pM.2.1
  have e2 := h.pM.1
  unfold suV
  by_cases a : 0 ≤ w ∧ w < I 12 0 2
  · by_cases b : 0 ≤ r ∧ r < 6
    · have hr := (h.rw' (r := r.toNat) (by omega)).2.1
      obtain ⟨J1, c1, F1, e12, em, ln⟩ := sp156 (d := d + 49) (L := L) (t := t) (r := r.toNat) (I := I) (by omega) hr
      rw [show ((r.toNat : Nat) : Int) = r by omega] at c1
      have hr9 := hr.1
      have G1 : Fr sMs I J1 := sLn_s F1
      by_cases f : 0 ≤ p ∧ p < J1 12 0 12
      · have ep : mrw I r.toNat p = J1 54 0 p.toNat := by
          have := mrv_at (I := J1) (k := p.toNat) (by omega)
          rw [show ((p.toNat : Nat) : Int) = p by omega, em] at this
          exact this
        by_cases g : J1 54 0 p.toNat = -1
        · rw [if_neg (fun q => q.2.2 (ep.trans g))]
          exact ⟨J1, P210_0_3 (d := d + 48) (g1 := by omega) (h1 := a) (h2 := b) (c1 := c1) (g2 := by omega) (h3 := f) (g3 := by omega) (h4 := g), G1⟩
        · rw [if_pos ⟨a, b, fun q => g (ep.symm.trans q)⟩]
          obtain ⟨J2, c2, F2, T2, m2⟩ := mtk (d := d + 48) (L := L) (t := t) (w := w.toNat) h.mm (by omega) G1
          rw [show ((w.toNat : Nat) : Int) = w by omega] at c2
          have e2' := (sTk_ln T2).trans em
          obtain ⟨J3, c3, F3, T3, m3⟩ := mtks (d := d + 46) (L := L) (t := t) (p := p.toNat) F2 m2 (lnOk_fr T2 rfl (fun _ => rfl) ln) e2' (by rw [e2', show ((p.toNat : Nat) : Int) = p by omega]; exact fun q => g (ep.symm.trans q))
          rw [show ((p.toNat : Nat) : Int) = p by omega] at c3
          exact ⟨J3, P210_0_4 (d := d + 48) (g1 := by omega) (h1 := a) (h2 := b) (c1 := c1) (g2 := by omega) (h3 := f) (g3 := by omega) (h4 := g) (c2 := c2) (c3 := c3), F3⟩
      · have ep : mrw I r.toNat p = -1 := by
          unfold mrw
          exact rvP_neg (by omega)
        rw [if_neg (fun q => q.2.2 ep)]
        exact ⟨J1, P210_0_2 (d := d + 48) (g1 := by omega) (h1 := a) (h2 := b) (c1 := c1) (g2 := by omega) (h3 := f), G1⟩
    · rw [if_neg (fun q => b q.2.1)]
      exact ⟨I, P210_0_1 (d := d + 48) (g1 := by omega) (h1 := a) (h2 := b), Fr.rfl'⟩
  · rw [if_neg (fun q => a q.1)]
    exact ⟨I, P210_0_0 (d := d + 48) (g1 := by omega) (h1 := a), Fr.rfl'⟩
theorem Rel.esu {I : H3} {t : Nat → Nat} (h : Rel I t) {w : Nat} (hw : (w : Int) < I 11 0 12) {rw' : Int → Int} (hr : rvB rw') {p : Int} : suQ (mA I w) (mG I w (w32 (I 12 0 0 - I 86 0 w))) (I 81 0 w) (c16 (kpM I w)) (nM I) (I 49 0) rw' p = suQ (aW I t w) (gvW I w) (I 3 w 3) (I 28 w) (I 22) (fun f => I 1 f 1) rw' p := by
  have m := h.pM.2.2 w hw
  rw [h.eG2 hw, h.eA hw, m.2.1]
  exact suQ_cg (fun f hf => (h.eF f hf).symm) (fun f hf => (h.eK f hf).symm) (by rw [c16_c, m.2.2.2.2.2.2.2.1.1]) hr
theorem suW_Q {I : H3} {t : Nat → Nat} {w r : Nat} {p : Int} : suW I t w r p = suQ (aW I t w) (gvW I w) (I 3 w 3) (I 28 w) (I 22) (fun f => I 1 f 1) (rv I r) p := rfl
theorem suV_cg {nw : Int} {rvs rvs' : Nat → Int → Int} {su su' : Nat → Nat → Int → Int} {w r p : Int} (hn : ∀ r, r < 6 → rvs r = rvs' r) (ho : ∀ w r : Nat, (w : Int) < nw → r < 6 → su w r p = su' w r p) : suV nw rvs su w r p = suV nw rvs' su' w r p := by
  unfold suV
  by_cases a : (0 ≤ w ∧ w < nw) ∧ (0 ≤ r ∧ r < 6)
  · rw [hn r.toNat (by omega), ho w.toNat r.toNat (by omega) (by omega)]
  · rw [if_neg (fun q => a ⟨q.1, q.2.1⟩), if_neg (fun q => a ⟨q.1, q.2.1⟩)]
theorem both_sure (w r p : Int) : Both 88 210 [vi w, vi r, vi p] := by
  refine both_q (fun I t => suV (I 11 0 12) (rv I) (suW I t) w r p) (fun I => suV (I 12 0 2) (mrw I) (msuW I) w r p) (fun d I L t h => ?_) (fun d I L t h => ?_) (fun I t h => ?_) (fun I J => rfl)
  · obtain ⟨J, c, F⟩ := sp88 (d := d) (L := L) h w r p
    exact ⟨J, L, c, sT_q (sX_T F), sT_K (sX_T F)⟩
  · obtain ⟨J, c, F⟩ := sp210 (d := d) (L := L) h w r p
    exact ⟨J, c, sMs_q F⟩
  · show suV (I 11 0 12) (rv I) (suW I t) w r p = suV (I 12 0 2) (mrw I) (msuW I) w r p
    rw [h.pM.1]
    exact suV_cg (fun r hr => (h.rw' hr).2.2.symm) (fun w r hw hr => by
      have x := h.rw' hr
      unfold msuW
      rw [suW_Q, x.2.2, h.esu (rw' := rv I r) hw x.1.2])
