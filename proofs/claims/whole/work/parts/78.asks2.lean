/-! number, fault, memory, showing -/
theorem both_0 {zc zm : Nat} {as : List MV} (h : ∀ (d : Nat) (I L : H3) (t : Nat → Nat), Rel I t → ∃ x : Int, Cal (d + 50) zc (vr 11 0 :: as) (mk I L t) = some (vi x, mk I L t) ∧ Cal (d + 50) zm (vr 12 0 :: as) (mk I L t) = some (vi x, mk I L t)) : Both zc zm as := fun d I L t hr => by
  obtain ⟨x, a, b⟩ := h d I L t hr
  exact ⟨x, I, L, I, L, t, a, b, hr⟩
theorem ix16w {f : Nat} {j : Int} (hf : f < 1000) (hj : 0 ≤ j ∧ j < 16) : w32 (w32 (16 * (f : Int)) + j) = ((16 * f + j.toNat : Nat) : Int) := by
  have e1 : w32 (16 * (f : Int)) = 16 * (f : Int) := w32_s (by omega)
  rw [e1, w32_s (by omega)]
  omega
theorem both_number (f j : Int) : Both 72 152 [vi f, vi j] := both_0 (fun d I L t h => by
  have F := h.pF
  have hb := F.1
  have e1 := F.2.1
  by_cases a : 0 ≤ f ∧ f < I 11 0 10
  · obtain ⟨g, rfl⟩ : ∃ g : Nat, f = (g : Int) := ⟨f.toNat, by omega⟩
    obtain ⟨a1, a2, a3, a4⟩ := F.2.2.1 g (by omega)
    by_cases b : 0 ≤ j ∧ j ≤ 15
    · refine ⟨_, P72_0_4 (d := d + 48) (by omega) a (by omega) b (by omega), ?_⟩
      have e := ix16w (f := g) (j := j) (by omega) (by omega)
      refine Eq.trans (P152_0_2 (d := d + 48) (by omega) (by omega) (by omega) (by omega) (by rw [e]; omega)) ?_
      rw [e, Int.toNat_natCast, Int.toNat_natCast, ← c16_of a2 (j := j.toNat) (by omega)]
      rfl
    · by_cases c : j = 16
      · refine ⟨_, P72_0_1 (d := d + 48) (by omega) a (by omega) b c, ?_⟩
        refine Eq.trans (P152_0_3 (d := d + 48) (by omega) (by omega) (by omega) (by omega) c (by omega)) ?_
        rw [Int.toNat_natCast, a3]
      · by_cases e : j = 17
        · refine ⟨_, P72_0_2 (d := d + 48) (by omega) a (by omega) b c e, ?_⟩
          refine Eq.trans (P152_0_4 (d := d + 48) (by omega) (by omega) (by omega) (by omega) c (by omega)) ?_
          rw [Int.toNat_natCast, F.2.2.2 g a.2]
        · exact ⟨_, P72_0_3 (d := d + 48) (by omega) a (by omega) b c e, P152_0_1 (d := d + 48) (by omega) (by omega) (by omega)⟩
  · exact ⟨_, P72_0_0 (d := d + 48) (by omega) a, P152_0_0 (d := d + 48) (by omega) (by omega)⟩)
theorem both_fault (x : Int) : Both 79 181 [vi x] := both_0 (fun d I L t h => by
  obtain ⟨b1, b2, b3, b4, b5⟩ := h.pB
  by_cases a : x = 0
  · refine ⟨_, P79_0_0 a, ?_⟩
    rw [← b4]
    exact P181_0_0 a
  · by_cases b : x = 1
    · refine ⟨_, P79_0_1 a b, ?_⟩
      rw [← b5]
      exact P181_0_1 a b
    · exact ⟨_, P79_0_2 a b, P181_0_2 a b⟩)
theorem both_memory (w j : Int) : Both 82 201 [vi w, vi j] := both_0 (fun d I L t h => by
  have M := h.pM
  have hb := M.2.1
  have e1 := M.1
  by_cases a : 0 ≤ w ∧ w < I 11 0 12
  · obtain ⟨g, rfl⟩ : ∃ g : Nat, w = (g : Int) := ⟨w.toNat, by omega⟩
    have m := (M.2.2 g a.2).2.2.2.2.2.2.2.1
    by_cases b : 0 ≤ j ∧ j ≤ 15
    · refine ⟨_, P82_0_2 (d := d + 48) (by omega) a b (by omega) (by omega), ?_⟩
      have e := ix16w (f := g) (j := j) (by omega) (by omega)
      refine Eq.trans (P201_0_2 (d := d + 48) (by omega) (by omega) b (by rw [e]; omega)) ?_
      rw [e, Int.toNat_natCast, Int.toNat_natCast, ← c16_of m.1 (j := j.toNat) (by omega)]
      rfl
    · exact ⟨_, P82_0_1 (d := d + 48) (by omega) a b, P201_0_1 (d := d + 48) (by omega) (by omega) b⟩
  · exact ⟨_, P82_0_0 (d := d + 48) (by omega) a, P201_0_0 (d := d + 48) (by omega) (by omega)⟩)
theorem both_showing (i x : Int) : Both 86 208 [vi i, vi x] := both_0 (fun d I L t h => by
  have V := h.pV
  have hb := V.2.1
  have e1 := V.1
  by_cases a : 0 ≤ i ∧ i < I 11 0 13
  · obtain ⟨g, rfl⟩ : ∃ g : Nat, i = (g : Int) := ⟨i.toNat, by omega⟩
    obtain ⟨⟨a1, a2, a3⟩, ⟨b1, b2, b3⟩, c, e97, e98, f1, e100, e101, r, p⟩ := V.2.2 g a.2
    have hg : 0 ≤ I 11 0 13 ∧ I 11 0 13 ≤ 2000 := by omega
    have hm : 0 ≤ I 12 0 3 ∧ I 12 0 3 ≤ 2000 := by omega
    have a' : 0 ≤ (g : Int) ∧ (g : Int) < I 12 0 3 := by omega
    have g1 : 0 ≤ (g : Int) ∧ (g : Int) < 100 := by omega
    by_cases h0 : x = 0
    · refine ⟨_, P86_0_1 (d := d + 48) hg a g1 h0, Eq.trans (P208_0_1 (d := d + 48) hm a' h0 g1) ?_⟩
      rw [Int.toNat_natCast, a1]
    · by_cases h1 : x = 1
      · refine ⟨_, P86_0_2 (d := d + 48) hg a g1 h1, Eq.trans (P208_0_2 (d := d + 48) hm a' h1 g1) ?_⟩
        rw [Int.toNat_natCast, b1]
      · by_cases h2 : x = 2
        · refine ⟨_, P86_0_3 (d := d + 48) hg a g1 h2, Eq.trans (P208_0_3 (d := d + 48) hm a' h2 g1) ?_⟩
          rw [Int.toNat_natCast, c]
        · by_cases h3 : x = 3
          · refine ⟨_, P86_0_4 (d := d + 48) hg a g1 h3, Eq.trans (P208_0_4 (d := d + 48) hm a' h3 g1) ?_⟩
            rw [Int.toNat_natCast, e97]
          · by_cases h4 : x = 4
            · refine ⟨_, P86_0_5 (d := d + 48) hg a g1 h4, Eq.trans (P208_0_5 (d := d + 48) hm a' h4 g1) ?_⟩
              rw [Int.toNat_natCast, e100]
            · by_cases h5 : x = 5
              · refine ⟨_, P86_0_6 (d := d + 48) hg a g1 h5, Eq.trans (P208_0_6 (d := d + 48) hm a' h5 g1) ?_⟩
                rw [Int.toNat_natCast, e101]
              · have h6 : x < 0 ∨ 5 < x := by omega
                have r9 := r.2.1
                have e0 : w32 (9 + I 103 0 g) = 9 + I 103 0 g := w32_s (by rw [r.1]; omega)
                by_cases h7 : 10 ≤ x ∧ x ≤ 18
                · have ex : w32 (x - 10) = x - 10 := w32_s (by omega)
                  have rr := P86_0_8 (d := d + 48) (I := I) (L := L) (t := t) hg a g1 h6 h7 (by rw [Int.toNat_natCast]; omega)
                  by_cases h8 : x ≤ 9 + I 103 0 g
                  · refine ⟨_, rr, ?_⟩
                    have e2 : w32 (9 * (g : Int)) = 9 * (g : Int) := w32_s (by omega)
                    have e3 : w32 (9 * (g : Int) + x) = 9 * (g : Int) + x := w32_s (by omega)
                    have e4 : w32 (9 * (g : Int) + x - 10) = ((9 * g + (x - 10).toNat : Nat) : Int) := by
                      rw [w32_s (by omega)]
                      omega
                    refine Eq.trans (P208_0_8 (d := d + 48) hm a' h6 g1 (by rw [Int.toNat_natCast, e0]; omega) (by rw [e2, e3, e4]; omega)) ?_
                    rw [e2, e3, e4, ex, Int.toNat_natCast, Int.toNat_natCast]
                    have q := (r.2.2 (x - 10).toNat (by have := r.1; omega)).1
                    have q2 : rvP (I 4 (6 + g) 1) (I 30 (6 + g)) (x - 10) = I 30 (6 + g) (x - 10).toNat := by
                      unfold rvP
                      rw [if_pos (by have := r.1; omega)]
                    rw [q2, ← q]
                  · refine ⟨-1, ?_, P208_0_7 (d := d + 48) hm a' h6 g1 (by rw [Int.toNat_natCast, e0]; omega)⟩
                    refine Eq.trans rr ?_
                    rw [Int.toNat_natCast, ex, rvP_neg (by have := r.1; omega)]
                · exact ⟨-1, P86_0_7 (d := d + 48) hg a g1 h6 h7, P208_0_7 (d := d + 48) hm a' h6 g1 (by rw [Int.toNat_natCast, e0, r.1]; omega)⟩
  · exact ⟨_, P86_0_0 (d := d + 48) (by omega) a, P208_0_0 (d := d + 48) (by omega) (by omega)⟩)
/-! far, odds, sure -/
theorem both_far (w f : Int) : Both 83 202 [vi w, vi f] := by
  refine both_q (fun I t => if (0 ≤ w ∧ w < I 11 0 12) ∧ 0 ≤ f ∧ f < I 11 0 10 then fW I t w.toNat f else -1) (fun I => if (0 ≤ w ∧ w < I 12 0 2) ∧ 0 ≤ f ∧ f < I 12 0 1 then mfa I (I 80 0 w.toNat).toNat (mG I w.toNat (w32 (I 12 0 0 - I 86 0 w.toNat))) (I 81 0 w.toNat) (c16 (kpM I w.toNat)) f else -1) (fun d I L t h => ?_) (fun d I L t h => ?_) (fun I t h => ?_) (fun I J => rfl)
  · have hb := h.pM.2.1
    have hf := h.pF.1
    by_cases a : 0 ≤ w ∧ w < I 11 0 12
    · by_cases b : 0 ≤ f ∧ f < I 11 0 10
      · have m := h.mn.2 w.toNat (by omega)
        obtain ⟨J, c, F⟩ := s115 (d := d + 46) (L := L) (f := f.toNat) m.1 (h.fc f.toNat (by omega)) m.2.1
        refine ⟨J, L, ?_, sT_q (sX_T (F.mo (fun r i c k => ?_))), sT_K (sX_T (F.mo (fun r i c k => ?_)))⟩
        · show _ = some (vi (if (0 ≤ w ∧ w < I 11 0 12) ∧ 0 ≤ f ∧ f < I 11 0 10 then fW I t w.toNat f else -1), _)
          rw [if_pos ⟨a, b⟩]
          have e : fW I t w.toNat f = farP (aW I t w.toNat) (gvW I w.toNat) (I 3 w.toNat 3) (I 28 w.toNat) (I 22 f.toNat) (I 1 f.toNat 1) := if_pos (by omega)
          rw [e]
          exact P83_0_2 (d := d + 48) (by omega) a (by omega) b (by omega) (by omega) c
        · unfold sX at k
          unfold sAsk
          simp only [Bool.or_eq_false_iff] at k ⊢
          exact ⟨k.1.1.1.1.1.1, k.2⟩
        · unfold sX at k
          unfold sAsk
          simp only [Bool.or_eq_false_iff] at k ⊢
          exact ⟨k.1.1.1.1.1.1, k.2⟩
      · refine ⟨I, L, ?_, Fr.rfl', Fr.rfl'⟩
        show _ = some (vi (if (0 ≤ w ∧ w < I 11 0 12) ∧ 0 ≤ f ∧ f < I 11 0 10 then fW I t w.toNat f else -1), _)
        rw [if_neg (fun q => b q.2)]
        exact P83_0_1 (d := d + 48) (by omega) a (by omega) b
    · refine ⟨I, L, ?_, Fr.rfl', Fr.rfl'⟩
      show _ = some (vi (if (0 ≤ w ∧ w < I 11 0 12) ∧ 0 ≤ f ∧ f < I 11 0 10 then fW I t w.toNat f else -1), _)
      rw [if_neg (fun q => a q.1)]
      exact P83_0_0 (d := d + 48) (by omega) a
  · have hb := h.pM.2.1
    have hf := h.pF.1
    have e1 := h.pM.1
    have e2 := h.pF.2.1
    show ∃ J, _ = some (vi (if (0 ≤ w ∧ w < I 12 0 2) ∧ 0 ≤ f ∧ f < I 12 0 1 then mfa I (I 80 0 w.toNat).toNat (mG I w.toNat (w32 (I 12 0 0 - I 86 0 w.toNat))) (I 81 0 w.toNat) (c16 (kpM I w.toNat)) f else -1), _) ∧ _
    by_cases a : 0 ≤ w ∧ w < I 12 0 2
    · by_cases b : 0 ≤ f ∧ f < I 12 0 1
      · rw [if_pos ⟨a, b⟩]
        obtain ⟨J, c, F, T, m⟩ := mtk (d := d + 48) (L := L) (t := t) (w := w.toNat) h.mm (by omega) Fr.rfl'
        obtain ⟨J2, c2, F2, m2⟩ := mfarA (d := d + 47) (L := L) (t := t) m (x := f) (by omega)
        rw [show ((w.toNat : Nat) : Int) = w by omega] at c
        rw [mfa_fr F (fun _ => ⟨rfl, rfl, rfl⟩) (fun _ => ⟨rfl, rfl⟩)] at c2
        exact ⟨J2, P202_0_2 (d := d + 48) (by omega) a (by omega) b c c2, sMs_q (F.tr (sF_s F2))⟩
      · rw [if_neg (fun q => b q.2)]
        exact ⟨I, P202_0_1 (d := d + 48) (by omega) a (by omega) b, Fr.rfl'⟩
    · rw [if_neg (fun q => a q.1)]
      exact ⟨I, P202_0_0 (d := d + 48) (by omega) a, Fr.rfl'⟩
  · show (if (0 ≤ w ∧ w < I 11 0 12) ∧ 0 ≤ f ∧ f < I 11 0 10 then fW I t w.toNat f else -1) = if (0 ≤ w ∧ w < I 12 0 2) ∧ 0 ≤ f ∧ f < I 12 0 1 then mfa I (I 80 0 w.toNat).toNat (mG I w.toNat (w32 (I 12 0 0 - I 86 0 w.toNat))) (I 81 0 w.toNat) (c16 (kpM I w.toNat)) f else -1
    rw [h.pM.1, h.pF.2.1]
    by_cases a : (0 ≤ w ∧ w < I 11 0 12) ∧ 0 ≤ f ∧ f < I 11 0 10
    · rw [if_pos a, if_pos a, h.efa (by omega)]
    · rw [if_neg a, if_neg a]
