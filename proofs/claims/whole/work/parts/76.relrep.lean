/-! replays answer alike -/
theorem rpF_skip {own : Nat → Prop} {dec : ∀ k, Decidable (own k)} {x dy : Nat → Int} {wt : Int → SS → SS} {rep : Int → SS → SS} {i : Int} : ∀ (m k n : Nat) (s : SS), (∀ j, k ≤ j → j < k + m → ¬ own j) → rpF own dec x dy wt rep i k (m + n) s = rpF own dec x dy wt rep i (k + m) n s
  | 0, k, n, s, _ => by rw [Nat.zero_add]; rfl
  | m + 1, k, n, s, h => by
    rw [show m + 1 + n = (m + n) + 1 by omega]
    show @ite _ (own k) (dec k) _ _ = _
    rw [if_neg (h k (Nat.le_refl _) (by omega)), rpF_skip m (k + 1) n s (fun j a b => h j (by omega) (by omega)), show k + 1 + m = k + (m + 1) by omega]
section RELREP
variable {I : H3} {t : Nat → Nat}
theorem Rel.own (h : Rel I t) {l : Nat} (hl : (l : Int) < I 12 0 72) (h0 : I 90 0 l ≠ 0) : whD I (I 46 0 (ddN (I 90 0) l).toNat) = I 91 0 l ∧ I 47 0 (ddN (I 90 0) l).toNat = dyN (I 90 0) l ∧ ((ddN (I 90 0) l).toNat : Int) < I 11 0 15 ∧
    ((I 90 0 l = 1 ∧ (0 ≤ I 92 0 l ∧ I 92 0 l < I 11 0 13) ∧ I 46 0 (ddN (I 90 0) l).toNat = I 92 0 l) ∨ (I 90 0 l = 2 ∧ (0 ≤ I 92 0 l ∧ I 92 0 l < I 11 0 10) ∧ I 46 0 (ddN (I 90 0) l).toNat = -1 - I 92 0 l)) := by
  have L := h.pL
  have hv := h.pV
  have hl2 := L.2.2.1
  have hd := dN_all (I 90 0) l
  have hm := (dN_mono (I 90 0) (l + 1) ((I 12 0 72).toNat - (l + 1))).2
  rw [show l + 1 + ((I 12 0 72).toNat - (l + 1)) = (I 12 0 72).toNat by omega, ddN_s, if_neg h0] at hm
  have hlt : ((ddN (I 90 0) l).toNat : Int) < I 11 0 15 := by omega
  rcases L.2.2.2.1 l hl with q | ⟨q1, q2, q3, q4, q5⟩ | ⟨q1, q2, q3, q4, q5⟩
  · exact absurd q h0
  · refine ⟨?_, q5, hlt, Or.inl ⟨q1, q2, q4⟩⟩
    have a := (hv.2.2 (I 92 0 l).toNat (by omega)).1.1
    unfold whD
    rw [q4, if_pos q2, q3, a]
  · refine ⟨?_, q5, hlt, Or.inr ⟨q1, q2, q4⟩⟩
    have a := h.pF.2.2.2 (I 92 0 l).toNat (by omega)
    unfold whD
    rw [q4, if_neg (by omega), show -1 - (-1 - I 92 0 l) = I 92 0 l by omega, if_pos q2, q3.1, a]
theorem Rel.sim (h : Rel I t) {i w : Nat} {without : Int} (hi : (i : Int) < I 11 0 13) (hw : I 6 i 1 = (w : Int)) (hw12 : (w : Int) < I 11 0 12) : ∀ (n l m nk : Nat) (s : SS), ((l + n : Nat) : Int) < I 12 0 72 → I 90 0 (l + n) = 1 → I 92 0 (l + n) = i → 0 ≤ s.2 → dyN (I 90 0) l - I 3 w 9 - s.2 = (m : Int) → ddN (I 90 0) l + nk = I 11 0 15 →
    mrF (lgM I) (mstW I w without) i n l (waP (dayP (aW I t w) (gvS I w (I 3 w 8)) (c16 (I 29 w))) m s) = rpF (fun k => whD I (I 46 0 k) = I 6 i 1) (fun _ => inferInstance) (I 46 0) (I 47 0) (wtD (aW I t w) (gvS I w (I 3 w 8)) (c16 (I 29 w)) (I 3 w 9)) (rpD I t w without) i (ddN (I 90 0) l).toNat nk s := by
  have L := h.pL
  have N := h.pN.2
  have mi := h.pM.2.2 w hw12
  have ety : c16 (ktM I w) = c16 (I 29 w) := mi.2.2.2.2.2.2.2.2.1
  have h9 := mi.2.2.2.2.2.1.2
  have vi' := h.pV.2.2 i hi
  intro n
  induction n with
  | zero =>
    intro l m nk s hl h90 h92 h0 hm hk
    rw [Nat.add_zero] at hl h90 h92
    have hd := dN_all (I 90 0) l
    obtain ⟨o1, o2, o3, o4⟩ := h.own hl (by rw [h90]; decide)
    have e46 : I 46 0 (ddN (I 90 0) l).toNat = i := by
      rcases o4 with ⟨q1, q2, q3⟩ | ⟨q1, q2, q3⟩
      · rw [q3, h92]
      · rw [h90] at q1
        cases q1
    obtain ⟨nk', rfl⟩ : ∃ x, nk = x + 1 := ⟨nk - 1, by omega⟩
    have ow : whD I (I 46 0 (ddN (I 90 0) l).toNat) = I 6 i 1 := by
      rw [e46]
      unfold whD
      rw [if_pos (by omega), Int.toNat_natCast]
    show waP _ m s = @ite _ _ _ _ _
    rw [if_pos ow, if_pos e46, o2]
    unfold wtD
    rw [hm, Int.toNat_natCast]
  | succ n ih =>
    intro l m nk s hl h90 h92 h0 hm hk
    have hll : (l : Int) < I 12 0 72 := by omega
    have hd := dN_all (I 90 0) l
    have hdm := (dN_mono (I 90 0) l ((I 12 0 72).toNat - l)).1
    rw [show l + ((I 12 0 72).toNat - l) = (I 12 0 72).toNat by omega] at hdm
    have hnow := L.2.1
    have e2 : (waP (dayP (aW I t w) (gvS I w (I 3 w 8)) (c16 (I 29 w))) m s).2 = s.2 + m := waP_2 m s h0 (by omega)
    by_cases c0 : I 90 0 l = 0
    · -- a day
      have es : mstW I w without (lgM I l) (waP (dayP (aW I t w) (gvS I w (I 3 w 8)) (c16 (I 29 w))) m s) = waP (dayP (aW I t w) (gvS I w (I 3 w 8)) (c16 (I 29 w))) (m + 1) s := by
        have a1 : ¬ (I 91 0 l = (w : Int) ∧ I 90 0 l = 1 ∧ I 92 0 l ≠ without) := fun q => by rw [c0] at q; cases q.2.1
        have a2 : ¬ (I 91 0 l = (w : Int) ∧ I 90 0 l = 2) := fun q => by rw [c0] at q; cases q.2
        unfold mstW mst3 lgM
        rw [if_neg a2, if_neg a1, if_pos c0, ety, h.eA hw12, h.eG hw12, waP_add]
        rfl
      have em : mrF (lgM I) (mstW I w without) i (n + 1) l (waP (dayP (aW I t w) (gvS I w (I 3 w 8)) (c16 (I 29 w))) m s) = mrF (lgM I) (mstW I w without) i n (l + 1) (mstW I w without (lgM I l) (waP (dayP (aW I t w) (gvS I w (I 3 w 8)) (c16 (I 29 w))) m s)) := if_neg (fun q => by
        have q1 : I 90 0 l = 1 := q.1
        rw [c0] at q1
        cases q1)
      rw [em, es]
      have ed : ddN (I 90 0) (l + 1) = ddN (I 90 0) l := by rw [ddN_s, if_pos c0]
      have ey : dyN (I 90 0) (l + 1) = dyN (I 90 0) l + 1 := by rw [dyN_s, if_pos c0]
      have r := ih (l + 1) (m + 1) nk s (by omega) (by rw [show l + 1 + n = l + (n + 1) by omega]; exact h90) (by rw [show l + 1 + n = l + (n + 1) by omega]; exact h92) h0 (by rw [ey]; omega) (by rw [ed]; exact hk)
      rw [ed] at r
      exact r
    · obtain ⟨o1, o2, o3, o4⟩ := h.own hll c0
      have ed : ddN (I 90 0) (l + 1) = ddN (I 90 0) l + 1 := by rw [ddN_s, if_neg c0]
      have ey : dyN (I 90 0) (l + 1) = dyN (I 90 0) l := by rw [dyN_s, if_neg c0]
      have edn : (ddN (I 90 0) (l + 1)).toNat = (ddN (I 90 0) l).toNat + 1 := by omega
      obtain ⟨nk', rfl⟩ : ∃ x, nk = x + 1 := ⟨nk - 1, by omega⟩
      have r0 := fun (m' : Nat) (s' : SS) (a : 0 ≤ s'.2) (b : dyN (I 90 0) (l + 1) - I 3 w 9 - s'.2 = (m' : Int)) => ih (l + 1) m' nk' s' (by omega) (by rw [show l + 1 + n = l + (n + 1) by omega]; exact h90) (by rw [show l + 1 + n = l + (n + 1) by omega]; exact h92) a b (by omega)
      rw [edn] at r0
      have ewt : wtD (aW I t w) (gvS I w (I 3 w 8)) (c16 (I 29 w)) (I 3 w 9) (I 47 0 (ddN (I 90 0) l).toNat) s = waP (dayP (aW I t w) (gvS I w (I 3 w 8)) (c16 (I 29 w))) m s := by
        unfold wtD
        rw [o2, hm, Int.toNat_natCast]
      by_cases ci : I 90 0 l = 1 ∧ I 92 0 l = i
      · -- the showing itself
        have e46 : I 46 0 (ddN (I 90 0) l).toNat = i := by
          rcases o4 with ⟨q1, q2, q3⟩ | ⟨q1, q2, q3⟩
          · rw [q3, ci.2]
          · rw [ci.1] at q1
            cases q1
        have ow : whD I (I 46 0 (ddN (I 90 0) l).toNat) = I 6 i 1 := by
          rw [e46]
          unfold whD
          rw [if_pos (by omega), Int.toNat_natCast]
        have em : mrF (lgM I) (mstW I w without) i (n + 1) l (waP (dayP (aW I t w) (gvS I w (I 3 w 8)) (c16 (I 29 w))) m s) = (waP (dayP (aW I t w) (gvS I w (I 3 w 8)) (c16 (I 29 w))) m s) := if_pos ci
        rw [em]
        show _ = @ite _ _ _ _ _
        rw [if_pos ow, if_pos e46, ewt]
      · have em : mrF (lgM I) (mstW I w without) i (n + 1) l (waP (dayP (aW I t w) (gvS I w (I 3 w 8)) (c16 (I 29 w))) m s) = mrF (lgM I) (mstW I w without) i n (l + 1) (mstW I w without (lgM I l) (waP (dayP (aW I t w) (gvS I w (I 3 w 8)) (c16 (I 29 w))) m s)) := if_neg ci
        rw [em]
        by_cases cw : I 91 0 l = (w : Int)
        · -- his own deed
          have ow : whD I (I 46 0 (ddN (I 90 0) l).toNat) = I 6 i 1 := by rw [o1, cw, hw]
          have ex : I 46 0 (ddN (I 90 0) l).toNat ≠ i := by
            rcases o4 with ⟨q1, q2, q3⟩ | ⟨q1, q2, q3⟩
            · rw [q3]
              exact fun z => ci ⟨q1, z⟩
            · omega
          have es : mstW I w without (lgM I l) (waP (dayP (aW I t w) (gvS I w (I 3 w 8)) (c16 (I 29 w))) m s) = rpD I t w without (I 46 0 (ddN (I 90 0) l).toNat) (waP (dayP (aW I t w) (gvS I w (I 3 w 8)) (c16 (I 29 w))) m s) := by
            unfold mstW mst3 lgM rpD
            rw [if_neg c0, h.eA hw12, h.eG hw12]
            rcases o4 with ⟨q1, q2, q3⟩ | ⟨q1, q2, q3⟩
            · rw [if_neg (show ¬ (I 91 0 l = (w : Int) ∧ I 90 0 l = 2) from fun z => by rw [q1] at z; cases z.2), q3, if_neg (show ¬ (0 ≤ -1 - I 92 0 l ∧ -1 - I 92 0 l < I 11 0 10) by omega)]
              have hvv := h.vw (i := (I 92 0 l).toNat) (by omega)
              have hpk := (h.pV.2.2 (I 92 0 l).toNat (by omega)).2.2.2.1
              by_cases cx : I 92 0 l = without
              · rw [if_neg (fun z => z.2.2 cx), if_neg (fun z => z.2 cx)]
              · rw [if_pos ⟨cw, q1, cx⟩, if_pos ⟨q2, cx⟩, hvv.2.2, hpk]
                show ((_, _) : SS) = (_, _)
                rw [shwP_cg (rv := rv I (6 + (I 92 0 l).toNat)) (fun f hf => (h.eF f hf).symm) hvv.1.2]
            · have b : ¬ (I 91 0 l = (w : Int) ∧ I 90 0 l = 1 ∧ I 92 0 l ≠ without) := fun z => by
                have := z.2.1
                omega
              have b2 : I 91 0 l = (w : Int) ∧ I 90 0 l = 2 := ⟨cw, q1⟩
              simp only [if_neg b, if_pos b2]
              rw [q3, show -1 - (-1 - I 92 0 l) = I 92 0 l by omega, if_pos q2]
              show ((_, _) : SS) = (_, _)
              have hf := h.pF.1
              rw [pul_cg (h.pF.2.2.1 (I 92 0 l).toNat (by omega)).2.1 rfl]
          have e2' : (rpD I t w without (I 46 0 (ddN (I 90 0) l).toNat) (waP (dayP (aW I t w) (gvS I w (I 3 w 8)) (c16 (I 29 w))) m s)).2 = s.2 + m := by
            rw [← e2]
            unfold rpD
            split
            · rfl
            · split <;> rfl
          rw [es]
          have r := r0 0 (rpD I t w without (I 46 0 (ddN (I 90 0) l).toNat) (waP (dayP (aW I t w) (gvS I w (I 3 w 8)) (c16 (I 29 w))) m s)) (by rw [e2']; omega) (by rw [e2', ey]; omega)
          refine Eq.trans r ?_
          show _ = @ite _ _ _ _ _
          rw [if_pos ow, if_neg ex, ewt]
        · -- another's
          have ow : ¬ whD I (I 46 0 (ddN (I 90 0) l).toNat) = I 6 i 1 := by rw [o1, hw]; exact cw
          have es : mstW I w without (lgM I l) (waP (dayP (aW I t w) (gvS I w (I 3 w 8)) (c16 (I 29 w))) m s) = waP (dayP (aW I t w) (gvS I w (I 3 w 8)) (c16 (I 29 w))) m s := by
            unfold mstW mst3 lgM
            rw [if_neg c0, if_neg (fun z => cw z.1), if_neg (fun z => cw z.1)]
          rw [es]
          refine Eq.trans (r0 m s h0 (by rw [ey]; exact hm)) ?_
          show _ = @ite _ _ _ _ _
          rw [if_neg ow]
theorem Rel.erp (h : Rel I t) {i : Nat} (without : Int) (hi : (i : Int) < I 11 0 13) (h2 : I 6 i 2 ≠ 2) : mrpW I i without = rpW I t i without := by
  have L := h.pL
  have v := h.pV.2.2 i hi
  have hf := h.pF.1
  obtain ⟨⟨a1, a2, a3⟩, ⟨b1, b2, b3⟩, c, e97, e98, ⟨f1, _⟩, g, k, r, p⟩ := v
  have hw12 : (((I 6 i 1).toNat : Nat) : Int) < I 11 0 12 := by omega
  have ew : I 6 i 1 = (((I 6 i 1).toNat : Nat) : Int) := by omega
  have mi := h.pM.2.2 (I 6 i 1).toNat hw12
  obtain ⟨hbg, hby, hbo⟩ := L.2.2.2.2.1 (I 6 i 1).toNat hw12
  obtain ⟨l, l1, l2, l3, l4⟩ := L.2.2.2.2.2 i hi
  rw [a1] at l1
  have es : mrpS I (I 12 0 72).toNat i (I 6 i 1).toNat without = rpS I t i (I 6 i 1).toNat without := by
    unfold mrpS rpS
    have e0 := mrF_long (lgM I) (mstW I (I 6 i 1).toNat without) (i : Int) (l - (I 93 0 (I 6 i 1).toNat).toNat) ((I 12 0 72).toNat - (l - (I 93 0 (I 6 i 1).toNat).toNat)) (I 93 0 (I 6 i 1).toNat).toNat (seeP (mA I (I 6 i 1).toNat) (mG I (I 6 i 1).toNat) (nM I (I 82 0 (I 6 i 1).toNat).toNat), 0) (by rw [show (I 93 0 (I 6 i 1).toNat).toNat + (l - (I 93 0 (I 6 i 1).toNat).toNat) = l by omega]; exact l3) (by rw [show (I 93 0 (I 6 i 1).toNat).toNat + (l - (I 93 0 (I 6 i 1).toNat).toNat) = l by omega]; exact l4)
    rw [show l - (I 93 0 (I 6 i 1).toNat).toNat + ((I 12 0 72).toNat - (l - (I 93 0 (I 6 i 1).toNat).toNat)) = (I 12 0 72).toNat by omega] at e0
    rw [e0]
    have hd := dN_all (I 90 0) (I 93 0 (I 6 i 1).toNat).toNat
    have hdm := (dN_mono (I 90 0) (I 93 0 (I 6 i 1).toNat).toNat ((I 12 0 72).toNat - (I 93 0 (I 6 i 1).toNat).toNat)).2
    rw [show (I 93 0 (I 6 i 1).toNat).toNat + ((I 12 0 72).toNat - (I 93 0 (I 6 i 1).toNat).toNat) = (I 12 0 72).toNat by omega] at hdm
    have hl2 := L.2.2.1
    have sk := rpF_skip (own := fun k => whD I (I 46 0 k) = I 6 i 1) (dec := fun _ => inferInstance) (x := I 46 0) (dy := I 47 0) (wt := wtD (aW I t (I 6 i 1).toNat) (gvS I (I 6 i 1).toNat (I 3 (I 6 i 1).toNat 8)) (c16 (I 29 (I 6 i 1).toNat)) (I 3 (I 6 i 1).toNat 9)) (rep := rpD I t (I 6 i 1).toNat without) (i := i) (ddN (I 90 0) (I 93 0 (I 6 i 1).toNat).toNat).toNat 0 ((I 11 0 15).toNat - (ddN (I 90 0) (I 93 0 (I 6 i 1).toNat).toNat).toNat) (seeP (aW I t (I 6 i 1).toNat) (gvS I (I 6 i 1).toNat (I 3 (I 6 i 1).toNat 8)) (I 22 (I 3 (I 6 i 1).toNat 4).toNat), 0) (fun j q1 q2 => by
      obtain ⟨l', x1, x2, x3⟩ := dd_ex (I 90 0) (I 93 0 (I 6 i 1).toNat).toNat j (by omega)
      obtain ⟨o1, _⟩ := h.own (l := l') (by omega) x2
      rw [x3, Int.toNat_natCast] at o1
      rw [o1, ew]
      exact hbo l' (by omega) x2)
    rw [show (ddN (I 90 0) (I 93 0 (I 6 i 1).toNat).toNat).toNat + ((I 11 0 15).toNat - (ddN (I 90 0) (I 93 0 (I 6 i 1).toNat).toNat).toNat) = (I 11 0 15).toNat by omega, Nat.zero_add] at sk
    rw [sk]
    have sm := h.sim (i := i) (w := (I 6 i 1).toNat) (without := without) hi ew hw12 (l - (I 93 0 (I 6 i 1).toNat).toNat) (I 93 0 (I 6 i 1).toNat).toNat 0 ((I 11 0 15).toNat - (ddN (I 90 0) (I 93 0 (I 6 i 1).toNat).toNat).toNat) (seeP (aW I t (I 6 i 1).toNat) (gvS I (I 6 i 1).toNat (I 3 (I 6 i 1).toNat 8)) (I 22 (I 3 (I 6 i 1).toNat 4).toNat), 0) (by rw [show (I 93 0 (I 6 i 1).toNat).toNat + (l - (I 93 0 (I 6 i 1).toNat).toNat) = l by omega]; exact l2) (by rw [show (I 93 0 (I 6 i 1).toNat).toNat + (l - (I 93 0 (I 6 i 1).toNat).toNat) = l by omega]; exact l3) (by rw [show (I 93 0 (I 6 i 1).toNat).toNat + (l - (I 93 0 (I 6 i 1).toNat).toNat) = l by omega]; exact l4) (Int.le_refl _) (by
      rw [hby, mi.2.2.2.2.2.1.1]
      show _ - _ - (0 : Int) = _
      omega) (by omega)
    rw [← sm]
    have ese : seeP (mA I (I 6 i 1).toNat) (mG I (I 6 i 1).toNat) (nM I (I 82 0 (I 6 i 1).toNat).toNat) = seeP (aW I t (I 6 i 1).toNat) (gvS I (I 6 i 1).toNat (I 3 (I 6 i 1).toNat 8)) (I 22 (I 3 (I 6 i 1).toNat 4).toNat) := by
      have h82 := mi.2.2.1
      rw [h.eA hw12, h.eG hw12, h82.1]
      exact seeP_cg (h.pF.2.2.1 (I 3 (I 6 i 1).toNat 4).toNat (by omega)).2.1
    rw [ese]
    rfl
  unfold mrpW rpW
  rw [a1, es]
  unfold mopS opS
  rw [h.emfa hw12 rfl, h.eA hw12, h.eG hw12, (h.vw hi).2.2, e97, e98, f1, b1]
  have ed : decide (I 6 i 2 ≠ 0) = decide (I 6 i 2 = 1) := by
    by_cases q : I 6 i 2 = 1
    · rw [q]
      rfl
    · rw [decide_eq_false q, decide_eq_false (p := I 6 i 2 ≠ 0) (fun z => by omega)]
  rw [ed]
end RELREP
