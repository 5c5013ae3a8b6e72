section BOTHC2
variable {d : Nat} {I J L : H3} {t : Nat → Nat}
theorem fr_odW (k : Fr sT I J) {w : Nat} (hw : w < 60) : odW J t w = odW I t w := by
  have e28 : J 28 w = I 28 w := k.ri (fun c => by simp [sT]; omega)
  funext rw' each led push
  unfold odW wtW nbW fW gvW
  rw [fr_aW k hw, fr_3 k hw, e28, k.rg (r := 22) (fun _ _ => rfl), show (fun f => J 1 f 1) = (fun f => I 1 f 1) by rw [k.rg (r := 1) (fun _ _ => rfl)]]
theorem sp100 (hk : rpOk I t) (hr : rsOk I) (v w r p what : Int) : ∃ b, (b = 0 ∨ b = 1) ∧ (b = 1 ↔ ¬ wsC I v w ∧ ¬ wsC I w v) ∧
    ∃ J, Cal (d + 5) 100 [vr 11 0, vi v, vi w, vi r, vi p, vi what] (mk I L t) = some (vi (boV (I 11 0 12) b (fun w r => odW I t w (rv I r) false (-1) 0) (rv I) v w r p what), mk J L t) ∧ Fr sT I J := by
  obtain ⟨hfc, hfn, hmn, hsv, hds⟩ := hk
  have hm : ∀ i : Nat, (i : Int) < I 11 0 13 → rwOk I (6 + i) := fun i hi => (hsv.2 i hi).2.1
  have hw2 := hmn.1
  obtain ⟨b, ba, bb, rb⟩ := sp143 (d := d + 2) (L := L) (t := t) hsv.1 hm v w
  refine ⟨b, ba, bb, ?_⟩
  unfold boV
  by_cases h1 : 0 ≤ v ∧ v < I 11 0 12
  · by_cases h2 : 0 ≤ w ∧ w < I 11 0 12
    · by_cases h3 : v = w
      · rw [if_pos (Or.inr (Or.inr h3))]
        exact ⟨I, P100_0_2 (d := d + 3) (by omega) h1 h2 h3, Fr.rfl'⟩
      · rw [if_neg (fun q => q.elim (fun q => q h1) (fun q => q.elim (fun q => q h2) h3))]
        by_cases h4 : what = 0
        · rw [if_pos h4]
          rcases ba with q | q
          · rw [q] at rb ⊢
            exact ⟨I, P100_0_4 (d := d + 3) (by omega) h1 h2 h3 h4 rb, Fr.rfl'⟩
          · rw [q] at rb ⊢
            exact ⟨I, P100_0_3 (d := d + 3) (by omega) h1 h2 h3 h4 rb, Fr.rfl'⟩
        · rw [if_neg h4]
          by_cases h5 : what = 1
          · by_cases h6 : 0 ≤ r ∧ r < 6
            · have hrr := hr r.toNat (by omega)
              by_cases h7 : rv I r.toNat p = -1
              · rw [if_pos (Or.inr (Or.inr h7))]
                exact ⟨I, P100_0_6 (d := d + 3) (by omega) h1 h2 h3 h4 h5 h6 hrr.1 h7, Fr.rfl'⟩
              · rw [if_neg (fun q => q.elim (fun q => q h5) (fun q => q.elim (fun q => q h6) h7))]
                obtain ⟨mv, mv28, _⟩ := hmn.2 v.toNat (by omega)
                obtain ⟨mw, mw28, _⟩ := hmn.2 w.toNat (by omega)
                obtain ⟨J1, c1, F1, o1⟩ := s127 (d := d) (L := L) (kind := 0) (led := -1) (push := 0) mv mv28 hfc hrr (by omega)
                have K1 : Fr sT I J1 := sX_T F1
                have mw' := (fr_mOk K1 (s := w.toNat) (by omega) mw).1
                have e28 : J1 28 w.toNat = I 28 w.toNat := K1.ri (fun c => by simp [sT]; omega)
                obtain ⟨J2, c2, F2, o2⟩ := s127 (d := d) (L := L) (kind := 0) (led := -1) (push := 0) mw' (by rw [e28]; exact mw28) (fr_fc K1 hfc) (fr_rw K1 hrr).1 (by omega)
                have K2 : Fr sT I J2 := K1.tr (sX_T F2)
                rw [fr_odW K1 (show w.toNat < 60 by omega), (fr_rw K1 hrr).2] at o2
                have hp : 0 ≤ p ∧ p ≤ 8 := by
                  have h9 := hrr.1
                  by_cases c : 0 ≤ p ∧ p < I 4 r.toNat 1
                  · omega
                  · exact absurd (rvP_neg c) h7
                have q1 : oP (J1 15 0) p = oP (odW I t v.toNat (rv I r.toNat) false (-1) 0) p := by
                  unfold oP
                  rw [if_pos hp, o1 _ (by omega)]
                  rfl
                have q2 : oP (J2 15 0) p = oP (odW I t w.toNat (rv I r.toNat) false (-1) 0) p := by
                  unfold oP
                  rw [if_pos hp, o2 _ (by omega)]
                  rfl
                have d1 := s1 (d := d + 3) (I := J1) (L := L) (t := t) (p := p)
                have d2 := s1 (d := d + 3) (I := J2) (L := L) (t := t) (p := p)
                have rb2 : Cal (d + 4) 143 [vr 11 0, vi v, vi w] (mk J2 L t) = some (vi b, mk J2 L t) := by
                  obtain ⟨b', ba', bb', rb'⟩ := sp143 (d := d + 2) (I := J2) (L := L) (t := t) (by rw [K2 11 0 13 rfl]; exact hsv.1) (fun i hi => by rw [K2 11 0 13 rfl] at hi; exact (fr_rw K2 (hm i hi)).1) v w
                  have e1 : ∀ v w, wsC J2 v w ↔ wsC I v w := fun v w => by
                    unfold wsC wsP
                    rw [K2 11 0 13 rfl, K2.rg (r := 6) (fun _ _ => rfl), fr_rv K2, K2.rg (r := 1) (fun _ _ => rfl)]
                  rw [e1, e1, ← bb] at bb'
                  have eb : b' = b := by
                    rcases ba with q | q <;> rcases ba' with q' | q' <;> subst q <;> subst q'
                    · rfl
                    · exact absurd (bb'.mp rfl) (by decide)
                    · exact absurd (bb'.mpr rfl) (by decide)
                    · rfl
                  rw [← eb]
                  exact rb'
                rcases ba with q | q
                · rw [if_pos q]
                  rw [q] at rb2
                  have r0 := P100_0_8 (d := d + 3) (by omega) h1 h2 h3 h4 h5 h6 hrr.1 h7 (by omega) c1 d1 (by omega) c2 d2 rb2
                  rw [q1, q2] at r0
                  exact ⟨J2, r0, K2⟩
                · rw [if_neg (by omega)]
                  rw [q] at rb2
                  have r0 := P100_0_7 (d := d + 3) (by omega) h1 h2 h3 h4 h5 h6 hrr.1 h7 (by omega) c1 d1 (by omega) c2 d2 rb2
                  rw [q1, q2] at r0
                  exact ⟨J2, r0, K2⟩
            · rw [if_pos (Or.inr (Or.inl h6))]
              exact ⟨I, P100_0_5 (d := d + 3) (by omega) h1 h2 h3 h4 h5 h6, Fr.rfl'⟩
          · rw [if_pos (Or.inl h5)]
            exact ⟨I, P100_0_9 (d := d + 3) (by omega) h1 h2 h3 h4 h5, Fr.rfl'⟩
    · rw [if_pos (Or.inr (Or.inl h2))]
      exact ⟨I, P100_0_1 (d := d + 3) (by omega) h1 h2, Fr.rfl'⟩
  · rw [if_pos (Or.inl h1)]
    exact ⟨I, P100_0_0 (d := d + 3) (by omega) h1, Fr.rfl'⟩
end BOTHC2
