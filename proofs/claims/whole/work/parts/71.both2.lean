/-! both, on the two sides -/
theorem sTk_ln {I J : H3} (F : Fr sTk I J) : mrv J = mrv I := mrv_fr F rfl (fun _ => rfl)
section MTK
variable {d w : Nat} {I0 I L : H3} {t : Nat → Nat}
/-- a witness taken -/
theorem mtk (hk : mmOk I0) (hw : (w : Int) < I0 12 0 2) (F : Fr sMs I0 I) :
    ∃ J, Cal (d + 1) 196 [vr 12 0, vi (w : Int)] (mk I L t) = some (vx, mk J L t) ∧ Fr sMs I0 J ∧ Fr sTk I J ∧ MAt J (I0 80 0 w).toNat (I0 81 0 w) (gvT (I0 83 0 w) (I0 84 0 w) (I0 85 0 w) (I0 87 0 w)) (c16 (kpM I0 w)) (c16 (ktM I0 w)) (w32 (I0 12 0 0 - I0 86 0 w)) := by
  have hwi := hk.2 w hw
  have hb := hk.1
  obtain ⟨⟨hh, hmh, hok⟩, hsn, hkp, hkt, hbg⟩ := hwi
  have ekp : kpM I w = kpM I0 w := by
    unfold kpM
    rw [F.ri (r := 88) (i := 0) (fun _ => rfl)]
  have ekt : ktM I w = ktM I0 w := by
    unfold ktM
    rw [F.ri (r := 89) (i := 0) (fun _ => rfl)]
  obtain ⟨J, c, G, a⟩ := mtake (d := d) (L := L) (t := t) (I := I) (w := w) (h := (I0 80 0 w).toNat) (by omega) (by rw [F 80 0 w rfl]; omega) (by omega) (mhOk_cg (F.ri (fun _ => rfl)) (F.ri (fun _ => rfl)) hmh) (by rw [s_mH F]; exact hok) (by rw [ekp]; exact hkp)
  rw [ekp, ekt, F 81 0 w rfl, F 83 0 w rfl, F 84 0 w rfl, F 85 0 w rfl, F 87 0 w rfl, F 12 0 0 rfl, F 86 0 w rfl] at a
  exact ⟨J, c, F.tr (sTk_s G), G, a⟩
/-- and its odds before the row in hand -/
theorem mtko {rw' : Int → Int} {kind led push : Int} (F : Fr sMs I0 I) (a : MAt I (I0 80 0 w).toNat (I0 81 0 w) (gvT (I0 83 0 w) (I0 84 0 w) (I0 85 0 w) (I0 87 0 w)) (c16 (kpM I0 w)) (c16 (ktM I0 w)) (w32 (I0 12 0 0 - I0 86 0 w))) (hl : lnOk I) (hr : mrv I = rw') (hp : 0 ≤ push ∧ push ≤ 99) :
    ∃ J, Cal (d + 3) 193 [vr 12 0, vi kind, vi led, vi push] (mk I L t) = some (vx, mk J L t) ∧ Fr sMs I0 J ∧ Fr sMx I J ∧ MAt J (I0 80 0 w).toNat (I0 81 0 w) (gvT (I0 83 0 w) (I0 84 0 w) (I0 85 0 w) (I0 87 0 w)) (c16 (kpM I0 w)) (c16 (ktM I0 w)) (w32 (I0 12 0 0 - I0 86 0 w)) ∧ ∀ j, j < 10 → J 78 0 j = modW I0 w rw' (decide (kind ≠ 0)) led push j := by
  obtain ⟨J, c, G, a2, o⟩ := modds (d := d) (L := L) (t := t) (kind := kind) (led := led) a hl hp
  refine ⟨J, c, F.tr (sMx_s G), G, a2, fun j hj => ?_⟩
  rw [o j hj, s_mH F, hr, mfa_fr F (fun _ => ⟨rfl, rfl, rfl⟩) (fun _ => ⟨rfl, rfl⟩)]
  rfl
end MTK
section BOTHM2
variable {d : Nat} {I L : H3} {t : Nat → Nat}
theorem sp241 (hk : mrpOk I) (hr : rmOk I) (v w r p what : Int) : ∃ b, (b = 0 ∨ b = 1) ∧ (b = 1 ↔ ¬ wsM I v w ∧ ¬ wsM I w v) ∧
    ∃ J, Cal (d + 5) 241 [vr 12 0, vi v, vi w, vi r, vi p, vi what] (mk I L t) = some (vi (boV (I 12 0 2) b (fun w r => modW I w (mrw I r) false (-1) 0) (mrw I) v w r p what), mk J L t) ∧ Fr sMs I J := by
  have hn := hk.2.2.1.1
  have hm : ∀ i : Nat, (i : Int) < I 12 0 3 → msOk I i := fun i hi => (hk.2.2.1.2 i hi).2.1
  have hw2 := hk.2.1.1
  obtain ⟨b1, b1a, b1b, r1⟩ := sp240 (d := d + 4) (L := L) (t := t) hn hm v w
  obtain ⟨b2, b2a, b2b, r2⟩ := sp240 (d := d + 4) (L := L) (t := t) hn hm w v
  unfold boV
  by_cases h1 : 0 ≤ v ∧ v < I 12 0 2
  · by_cases h2 : 0 ≤ w ∧ w < I 12 0 2
    · by_cases h3 : v = w
      · obtain ⟨b, ba, bb⟩ : ∃ b : Int, (b = 0 ∨ b = 1) ∧ (b = 1 ↔ ¬ wsM I v w ∧ ¬ wsM I w v) := by
          by_cases q : ¬ wsM I v w ∧ ¬ wsM I w v
          · exact ⟨1, Or.inr rfl, ⟨fun _ => q, fun _ => rfl⟩⟩
          · exact ⟨0, Or.inl rfl, ⟨fun e => (by cases e), fun e => absurd e q⟩⟩
        refine ⟨b, ba, bb, I, ?_, Fr.rfl'⟩
        rw [if_pos (Or.inr (Or.inr h3))]
        exact P241_0_6 (d := d + 3) (by omega) h1 h2 h3
      · -- apart or not
        obtain ⟨b, ba, bb, rb⟩ : ∃ b : Int, (b = 0 ∨ b = 1) ∧ (b = 1 ↔ ¬ wsM I v w ∧ ¬ wsM I w v) ∧ ((0 ≤ what ∧ what ≤ 1) → Cal (d + 5) 241 [vr 12 0, vi v, vi w, vi r, vi p, vi what] (mk I L t) = Res (d + 5) 241 56 [vr 12 0, vi v, vi w, vi r, vi p, vi what, vx, vx, vx] [vi b] (mk I L t)) := by
          rcases b1a with q | q
          · subst q
            have n1 : ¬ wsM I v w := fun z => by have := b1b.mpr z; cases this
            rcases b2a with q | q
            · subst q
              have n2 : ¬ wsM I w v := fun z => by have := b2b.mpr z; cases this
              exact ⟨1, Or.inr rfl, ⟨fun _ => ⟨n1, n2⟩, fun _ => rfl⟩, fun hw => P241_0_3 (d := d + 3) (by omega) h1 h2 h3 hw r1 r2⟩
            · subst q
              have n2 : wsM I w v := b2b.mp rfl
              exact ⟨0, Or.inl rfl, ⟨fun e => (by cases e), fun e => absurd n2 e.2⟩, fun hw => P241_0_4 (d := d + 3) (by omega) h1 h2 h3 hw r1 r2⟩
          · subst q
            have n1 : wsM I v w := b1b.mp rfl
            exact ⟨0, Or.inl rfl, ⟨fun e => (by cases e), fun e => absurd n1 e.1⟩, fun hw => P241_0_5 (d := d + 3) (by omega) h1 h2 h3 hw r1⟩
        refine ⟨b, ba, bb, ?_⟩
        rw [if_neg (fun q => q.elim (fun q => q h1) (fun q => q.elim (fun q => q h2) h3))]
        by_cases h4 : what = 0
        · rw [if_pos h4]
          refine ⟨I, (rb (by omega)).trans ?_, Fr.rfl'⟩
          rcases ba with q | q
          · rw [q]
            exact P241_56_1 (d := d + 3) h4 rfl
          · rw [q]
            exact P241_56_0 (d := d + 3) h4 (by decide)
        · rw [if_neg h4]
          by_cases h5 : what = 1
          · have hc := rb (by omega)
            by_cases h6 : 0 ≤ r ∧ r < 6
            · obtain ⟨J1, c1, F1, e12, em, ln⟩ := sp156 (d := d + 4) (L := L) (t := t) (r := r.toNat) (I := I) (by omega) (hr _ (by omega))
              rw [show ((r.toNat : Nat) : Int) = r by omega] at c1
              have hrb := (hr r.toNat (by omega)).1
              have G1 : Fr sMs I J1 := sLn_s F1
              by_cases h7 : 0 ≤ p ∧ p < J1 12 0 12
              · have ep : mrw I r.toNat p = J1 54 0 p.toNat := by
                  have := mrv_at (I := J1) (k := p.toNat) (by omega)
                  rw [show ((p.toNat : Nat) : Int) = p by omega, em] at this
                  exact this
                by_cases h8 : J1 54 0 p.toNat = -1
                · rw [if_pos (Or.inr (Or.inr (ep.trans h8)))]
                  exact ⟨J1, hc.trans (P241_56_4 (d := d + 3) h4 h6 c1 (by omega) h7 (by omega) h8), G1⟩
                · rw [if_neg (fun q => q.elim (fun q => q h5) (fun q => q.elim (fun q => q h6) (fun q => h8 (ep.symm.trans q))))]
                  have c56 := P241_56_5 (d := d + 3) (x1 := v) (x2 := w) (xs0 := b) h4 h6 c1 (by omega) h7 (by omega) h8
                  obtain ⟨J2, c2, G2, T2, a2⟩ := mtk (d := d + 3) (L := L) (t := t) (w := v.toNat) hk.2.1 (by omega) G1
                  have ln2 := lnOk_fr T2 rfl (fun _ => rfl) ln
                  have em2 : mrv J2 = mrw I r.toNat := (sTk_ln T2).trans em
                  obtain ⟨J3, c3, G3, T3, a3, o3⟩ := mtko (d := d + 1) (L := L) (t := t) (kind := 0) (led := -1) (push := 0) G2 a2 ln2 em2 (by omega)
                  have ln3 := lnOk_fr T3 rfl (fun _ => rfl) ln2
                  have em3 : mrv J3 = mrw I r.toNat := (mrv_fr T3 rfl (fun _ => rfl)).trans em2
                  obtain ⟨J4, c4, G4, T4, a4⟩ := mtk (d := d + 3) (L := L) (t := t) (w := w.toNat) hk.2.1 (by omega) G3
                  have ln4 := lnOk_fr T4 rfl (fun _ => rfl) ln3
                  have em4 : mrv J4 = mrw I r.toNat := (sTk_ln T4).trans em3
                  obtain ⟨J5, c5, G5, T5, a5, o5⟩ := mtko (d := d + 1) (L := L) (t := t) (kind := 0) (led := -1) (push := 0) G4 a4 ln4 em4 (by omega)
                  rw [show ((v.toNat : Nat) : Int) = v by omega] at c2
                  rw [show ((w.toNat : Nat) : Int) = w by omega] at c4
                  have ep3 : oP (modW I v.toNat (mrw I r.toNat) false (-1) 0) p = J3 78 0 p.toNat := by
                    unfold oP
                    rw [if_pos (by omega)]
                    exact (o3 p.toNat (by omega)).symm
                  have ep5 : oP (modW I w.toNat (mrw I r.toNat) false (-1) 0) p = J5 78 0 p.toNat := by
                    unfold oP
                    rw [if_pos (by omega)]
                    exact (o5 p.toNat (by omega)).symm
                  rw [ep3, ep5]
                  rcases ba with q | q
                  · rw [if_pos q]
                    by_cases h9 : J3 78 0 p.toNat < J5 78 0 p.toNat
                    · rw [if_neg (show ¬ J5 78 0 p.toNat < J3 78 0 p.toNat by omega)]
                      exact ⟨J5, hc.trans (c56.trans (P241_110_1 (d := d + 3) c2 c3 (by omega) c4 c5 q h9)), G5⟩
                    · have h10 := P241_110_2 (d := d + 3) (x1 := v) (x2 := w) (x3 := r) (x4 := p) (x5 := what) c2 c3 (by omega) c4 c5 q (by omega)
                      refine ⟨J5, hc.trans (c56.trans (h10.trans ?_)), G5⟩
                      by_cases h11 : J5 78 0 p.toNat < J3 78 0 p.toNat
                      · rw [if_pos h11]
                      · rw [if_neg h11, show J5 78 0 p.toNat = J3 78 0 p.toNat by omega]
                  · rw [if_neg (by omega)]
                    exact ⟨J5, hc.trans (c56.trans (P241_110_0 (d := d + 3) c2 c3 (by omega) c4 c5 (by omega))), G5⟩
              · have ep : mrw I r.toNat p = -1 := by
                  unfold mrw rvP
                  rw [if_neg (by omega)]
                rw [if_pos (Or.inr (Or.inr ep))]
                exact ⟨J1, hc.trans (P241_56_3 (d := d + 3) h4 h6 c1 (by omega) h7), G1⟩
            · rw [if_pos (Or.inr (Or.inl h6))]
              exact ⟨I, hc.trans (P241_56_2 (d := d + 3) h4 h6), Fr.rfl'⟩
          · rw [if_pos (Or.inl h5)]
            exact ⟨I, P241_0_2 (d := d + 3) (by omega) h1 h2 h3 (by omega), Fr.rfl'⟩
    · obtain ⟨b, ba, bb⟩ : ∃ b : Int, (b = 0 ∨ b = 1) ∧ (b = 1 ↔ ¬ wsM I v w ∧ ¬ wsM I w v) := by
        by_cases q : ¬ wsM I v w ∧ ¬ wsM I w v
        · exact ⟨1, Or.inr rfl, ⟨fun _ => q, fun _ => rfl⟩⟩
        · exact ⟨0, Or.inl rfl, ⟨fun e => (by cases e), fun e => absurd e q⟩⟩
      refine ⟨b, ba, bb, I, ?_, Fr.rfl'⟩
      rw [if_pos (Or.inr (Or.inl h2))]
      exact P241_0_1 (d := d + 3) (by omega) h1 h2
  · obtain ⟨b, ba, bb⟩ : ∃ b : Int, (b = 0 ∨ b = 1) ∧ (b = 1 ↔ ¬ wsM I v w ∧ ¬ wsM I w v) := by
      by_cases q : ¬ wsM I v w ∧ ¬ wsM I w v
      · exact ⟨1, Or.inr rfl, ⟨fun _ => q, fun _ => rfl⟩⟩
      · exact ⟨0, Or.inl rfl, ⟨fun e => (by cases e), fun e => absurd e q⟩⟩
    refine ⟨b, ba, bb, I, ?_, Fr.rfl'⟩
    rw [if_pos (Or.inl h1)]
    exact P241_0_0 (d := d + 3) (by omega) h1
end BOTHM2
section BOTHC
variable {d : Nat} {I L : H3} {t : Nat → Nat}
def wsK (I : H3) (i : Nat) (w : Int) : Prop := ∃ p : Nat, p < 9 ∧ rv I (6 + i) p ≠ -1 ∧ I 1 (rv I (6 + i) p).toNat 2 = w
theorem l144 {i : Nat} {w : Int} (hr : rwOk I (6 + i)) : ∀ (n k : Nat) (u : MV), k + n = 9 → (∀ p : Nat, p < k → ¬ (rv I (6 + i) p ≠ -1 ∧ I 1 (rv I (6 + i) p).toNat 2 = w)) →
    ∃ b, (b = 0 ∨ b = 1) ∧ (b = 1 ↔ wsK I i w) ∧ Res (d + 1) 144 2 [vr 11 0, vr 4 (6 + i), vi w, vi (k : Int), u] [] (mk I L t) = some (vi b, mk I L t)
  | 0, k, u, hk, hp => ⟨0, Or.inl rfl, ⟨fun q => (by cases q), fun ⟨p, h1, h2, h3⟩ => absurd ⟨h2, h3⟩ (hp p (by omega))⟩, P144_2_3 (by omega)⟩
  | n + 1, k, u, hk, hp => by
    have hb := hr.2 (k : Int)
    by_cases c : rv I (6 + i) (k : Int) = -1
    · obtain ⟨b, b1, b2, r⟩ := l144 hr n (k + 1) (vi (rv I (6 + i) (k : Int))) (by omega) (fun p h => by
        by_cases q : p = k
        · subst q
          exact fun z => z.1 c
        · exact hp p (by omega))
      refine ⟨b, b1, b2, Eq.trans (P144_2_2 (h1 := by omega) (g1 := hr.1) (h2 := c)) ?_⟩
      rw [lem_w32k (by omega)]
      exact r
    · by_cases c2 : I 1 (rv I (6 + i) (k : Int)).toNat 2 = w
      · exact ⟨1, Or.inr rfl, ⟨fun _ => ⟨k, by omega, c, c2⟩, fun _ => rfl⟩, P144_2_0 (h1 := by omega) (g1 := hr.1) (h2 := c) (g2 := hb.resolve_left c) (h3 := c2)⟩
      · obtain ⟨b, b1, b2, r⟩ := l144 hr n (k + 1) (vi (rv I (6 + i) (k : Int))) (by omega) (fun p h => by
          by_cases q : p = k
          · subst q
            exact fun z => c2 z.2
          · exact hp p (by omega))
        refine ⟨b, b1, b2, Eq.trans (P144_2_1 (h1 := by omega) (g1 := hr.1) (h2 := c) (g2 := hb.resolve_left c) (h3 := c2)) ?_⟩
        rw [lem_w32k (by omega)]
        exact r
theorem sp144 {i : Nat} (hr : rwOk I (6 + i)) (w : Int) : ∃ b, (b = 0 ∨ b = 1) ∧ (b = 1 ↔ wsK I i w) ∧ Cal (d + 1) 144 [vr 11 0, vr 4 (6 + i), vi w] (mk I L t) = some (vi b, mk I L t) := by
  obtain ⟨b, b1, b2, r⟩ := l144 (d := d) (L := L) (t := t) (w := w) hr 9 0 vx rfl (fun p h => by omega)
  exact ⟨b, b1, b2, Eq.trans P144_0_0 r⟩
abbrev wsC (I : H3) (v w : Int) : Prop := wsP (I 11 0 13) (fun i => I 6 i 1) (fun i => rv I (6 + i)) (fun f => I 1 f 2) v w
theorem l143 (hn : 0 ≤ I 11 0 13 ∧ I 11 0 13 ≤ 100) (hm : ∀ i : Nat, (i : Int) < I 11 0 13 → rwOk I (6 + i)) {v w : Int} : ∀ (n i : Nat) (u : MV), (i : Int) + n = I 11 0 13 → (∀ j : Nat, j < i → ¬ (I 6 j 1 = v ∧ wsK I j w) ∧ ¬ (I 6 j 1 = w ∧ wsK I j v)) →
    ∃ b, (b = 0 ∨ b = 1) ∧ (b = 1 ↔ ¬ wsC I v w ∧ ¬ wsC I w v) ∧ Res (d + 2) 143 2 [vr 11 0, vi v, vi w, vi (i : Int), u] [] (mk I L t) = some (vi b, mk I L t)
  | 0, i, u, hi, hp => ⟨1, Or.inr rfl, ⟨fun _ => ⟨fun ⟨j, h1, h2, h3⟩ => (hp j (by omega)).1 ⟨h2, h3⟩, fun ⟨j, h1, h2, h3⟩ => (hp j (by omega)).2 ⟨h2, h3⟩⟩, fun _ => rfl⟩, P143_2_7 (by omega)⟩
  | n + 1, i, u, hi, hp => by
    have hri := hm i (by omega)
    obtain ⟨x, x1, x2, rx⟩ := sp144 (d := d) (L := L) (t := t) hri w
    obtain ⟨y, y1, y2, ry⟩ := sp144 (d := d) (L := L) (t := t) hri v
    have nx : ¬ (I 6 i 1 = v ∧ wsK I i w) → ¬ (I 6 i 1 = w ∧ wsK I i v) → ∀ u', ∃ b, (b = 0 ∨ b = 1) ∧ (b = 1 ↔ ¬ wsC I v w ∧ ¬ wsC I w v) ∧ Res (d + 2) 143 2 [vr 11 0, vi v, vi w, vi (w32 ((i : Int) + 1)), u'] [] (mk I L t) = some (vi b, mk I L t) := fun q1 q2 u' => by
      rw [lem_w32k (by omega)]
      exact l143 hn hm n (i + 1) u' (by omega) (fun j h => by
        by_cases e : j = i
        · subst e
          exact ⟨q1, q2⟩
        · exact hp j (by omega))
    by_cases a : I 6 i 1 = v
    · rcases x1 with q | q
      · subst q
        have n1 : ¬ wsK I i w := fun z => by have := x2.mpr z; cases this
        by_cases b : I 6 i 1 = w
        · rcases y1 with q | q
          · subst q
            have n2 : ¬ wsK I i v := fun z => by have := y2.mpr z; cases this
            obtain ⟨b', b1, b2, r⟩ := nx (fun z => n1 z.2) (fun z => n2 z.2) (vi (I 6 i 1))
            exact ⟨b', b1, b2, Eq.trans (P143_2_1 (h1 := by omega) (g1 := by omega) (h2 := a) (c1 := rx) (h3 := b) (c2 := ry)) r⟩
          · subst q
            have n2 := y2.mp rfl
            exact ⟨0, Or.inl rfl, ⟨fun e => (by cases e), fun e => absurd ⟨i, by omega, b, n2⟩ e.2⟩, P143_2_0 (h1 := by omega) (g1 := by omega) (h2 := a) (c1 := rx) (h3 := b) (c2 := ry)⟩
        · obtain ⟨b', b1, b2, r⟩ := nx (fun z => n1 z.2) (fun z => b z.1) (vi (I 6 i 1))
          exact ⟨b', b1, b2, Eq.trans (P143_2_2 (h1 := by omega) (g1 := by omega) (h2 := a) (c1 := rx) (h3 := b)) r⟩
      · subst q
        have n1 := x2.mp rfl
        exact ⟨0, Or.inl rfl, ⟨fun e => (by cases e), fun e => absurd ⟨i, by omega, a, n1⟩ e.1⟩, P143_2_3 (h1 := by omega) (g1 := by omega) (h2 := a) (c1 := rx)⟩
    · by_cases b : I 6 i 1 = w
      · rcases y1 with q | q
        · subst q
          have n2 : ¬ wsK I i v := fun z => by have := y2.mpr z; cases this
          obtain ⟨b', b1, b2, r⟩ := nx (fun z => a z.1) (fun z => n2 z.2) (vi (I 6 i 1))
          exact ⟨b', b1, b2, Eq.trans (P143_2_5 (h1 := by omega) (g1 := by omega) (h2 := a) (h3 := b) (c1 := ry)) r⟩
        · subst q
          have n2 := y2.mp rfl
          exact ⟨0, Or.inl rfl, ⟨fun e => (by cases e), fun e => absurd ⟨i, by omega, b, n2⟩ e.2⟩, P143_2_4 (h1 := by omega) (g1 := by omega) (h2 := a) (h3 := b) (c1 := ry)⟩
      · obtain ⟨b', b1, b2, r⟩ := nx (fun z => a z.1) (fun z => b z.1) (vi (I 6 i 1))
        exact ⟨b', b1, b2, Eq.trans (P143_2_6 (h1 := by omega) (g1 := by omega) (h2 := a) (h3 := b)) r⟩
theorem sp143 (hn : 0 ≤ I 11 0 13 ∧ I 11 0 13 ≤ 100) (hm : ∀ i : Nat, (i : Int) < I 11 0 13 → rwOk I (6 + i)) (v w : Int) : ∃ b, (b = 0 ∨ b = 1) ∧ (b = 1 ↔ ¬ wsC I v w ∧ ¬ wsC I w v) ∧ Cal (d + 2) 143 [vr 11 0, vi v, vi w] (mk I L t) = some (vi b, mk I L t) := by
  obtain ⟨b, b1, b2, r⟩ := l143 (d := d) (L := L) (t := t) (v := v) (w := w) hn hm (I 11 0 13).toNat 0 vx (by omega) (fun j h => by omega)
  exact ⟨b, b1, b2, Eq.trans P143_0_0 r⟩
end BOTHC
