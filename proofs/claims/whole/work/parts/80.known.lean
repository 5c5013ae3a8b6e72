/-! known, look -/
theorem sp11 {d f g : Nat} {I L : H3} {t : Nat → Nat} (hf : R31 (I 22 f)) (hg : R31 (I 22 g)) : Cal (d + 1) 11 [vr 1 f, vr 22 g] (mk I L t) = some (vi (difP (I 22 f) (I 22 g) 0 16 0), mk I L t) :=
  P11_0_0 (c1 := s125 (g := I 22 g) (k := 0) (n := 16) rfl (fun _ _ => rfl) hf hg (by decide))
def kpC (D : Nat → Int) (seen a : Int) (f : Nat) (c : Int) : Int := if (f : Int) = seen then c else if D f < a then c + 1 else c
theorem kpC_in {D : Nat → Int} {seen a : Int} : ∀ (n k : Nat) (c : Int), c ≤ fo (kpC D seen a) k n c ∧ fo (kpC D seen a) k n c ≤ c + n
  | 0, _, c => ⟨Int.le_refl _, by show c ≤ c + ((0 : Nat) : Int); omega⟩
  | n + 1, k, c => by
    rw [fo_s]
    have h := kpC_in (D := D) (seen := seen) (a := a) n (k + 1) (kpC D seen a k c)
    have s : c ≤ kpC D seen a k c ∧ kpC D seen a k c ≤ c + 1 := by
      unfold kpC
      split
      · omega
      · split <;> omega
    omega
section KNOWN
variable {d : Nat} {I L : H3} {t : Nat → Nat}
theorem l126 (hF : fcOk I) (hn : I 11 0 10 ≤ 120) {seen : Nat} (hs : seen < 120) {a : Int} : ∀ (n k : Nat) (c : Int), (k : Int) + n = I 11 0 10 → 0 ≤ c → c ≤ k → Res (d + 2) 126 5 [vr 11 0, vi (seen : Int), vi a, vi c, vi (k : Int)] [] (mk I L t) = some (vi (fo (kpC (fun f => difP (I 22 f) (I 22 seen) 0 16 0) seen a) k n c), mk I L t)
  | 0, k, c, hk, h0, h1 => P126_5_3 (by omega)
  | n + 1, k, c, hk, h0, h1 => by
    rw [fo_s]
    by_cases q : (k : Int) = (seen : Int)
    · have e : kpC (fun f => difP (I 22 f) (I 22 seen) 0 16 0) seen a k c = c := if_pos q
      rw [e]
      refine Eq.trans (P126_5_2 (h1 := by omega) (h2 := q)) ?_
      rw [lem_w32k (by omega)]
      exact l126 hF hn hs n (k + 1) c (by omega) h0 (by omega)
    · have c1 := sp11 (d := d) (f := k) (g := seen) (L := L) (t := t) (hF k (by omega)) (hF seen hs)
      by_cases r : difP (I 22 k) (I 22 seen) 0 16 0 < a
      · have e : kpC (fun f => difP (I 22 f) (I 22 seen) 0 16 0) seen a k c = c + 1 := by
          unfold kpC
          rw [if_neg q, if_pos r]
        rw [e]
        refine Eq.trans (P126_5_0 (h1 := by omega) (h2 := q) (g1 := by omega) (g2 := by omega) (c1 := c1) (h3 := r)) ?_
        rw [lem_w32k (by omega), w32_s (by omega)]
        exact l126 hF hn hs n (k + 1) (c + 1) (by omega) (by omega) (by omega)
      · have e : kpC (fun f => difP (I 22 f) (I 22 seen) 0 16 0) seen a k c = c := by
          unfold kpC
          rw [if_neg q, if_neg r]
        rw [e]
        refine Eq.trans (P126_5_1 (h1 := by omega) (h2 := q) (g1 := by omega) (g2 := by omega) (c1 := c1) (h3 := by omega)) ?_
        rw [lem_w32k (by omega)]
        exact l126 hF hn hs n (k + 1) c (by omega) h0 (by omega)
theorem l215 {f g : Nat} (hf : f < 132) (hg : g < 132) : ∀ (n k : Nat) (s : Int), k + n = 16 → Res (d + 1) 215 5 [vr 12 0, vi (f : Int), vi (g : Int), vi s, vi (k : Int)] [] (mk I L t) = some (vi (difP (nM I f) (nM I g) k n s), mk I L t)
  | 0, k, s, hk => P215_5_1 (by omega)
  | n + 1, k, s, hk => by
    have e1 := ix16 (f := f) (k := k) (by omega) (by omega)
    have e2 := ix16 (f := g) (k := k) (by omega) (by omega)
    refine Eq.trans (P215_5_0 (h1 := by omega) (g1 := by rw [e1]; omega) (g2 := by rw [e2]; omega)) ?_
    rw [e1, e2, lem_w32k (by omega), Int.toNat_natCast, Int.toNat_natCast]
    exact l215 hf hg n (k + 1) _ (by omega)
theorem sp215 {f g : Nat} (hf : f < 132) (hg : g < 132) : Cal (d + 1) 215 [vr 12 0, vi (f : Int), vi (g : Int)] (mk I L t) = some (vi (difP (nM I f) (nM I g) 0 16 0), mk I L t) := Eq.trans P215_0_0 (l215 hf hg 16 0 0 rfl)
theorem l216 {w seen : Nat} (hw : w < 20) (hn : I 12 0 1 ≤ 120) (hs : seen < 120) (es : I 82 0 w = (seen : Int)) {a x : Int} : ∀ (n k : Nat) (c : Int), (k : Int) + n = I 12 0 1 → 0 ≤ c → c ≤ k → ∀ x2, Res (d + 2) 216 53 [vr 12 0, vi (w : Int), vi x2, vi x, vi a, vi c, vi (k : Int)] [] (mk I L t) = some (vi (fo (kpC (fun f => difP (nM I f) (nM I seen) 0 16 0) seen a) k n c), mk I L t)
  | 0, k, c, hk, h0, h1, x2 => P216_53_3 (by omega)
  | n + 1, k, c, hk, h0, h1, x2 => by
    rw [fo_s]
    have es' : I 82 0 ((w : Int).toNat) = (seen : Int) := es
    by_cases q : (k : Int) = (seen : Int)
    · have e : kpC (fun f => difP (nM I f) (nM I seen) 0 16 0) seen a k c = c := if_pos q
      rw [e]
      refine Eq.trans (P216_53_2 (h1 := by omega) (g1 := by omega) (h2 := by rw [es']; exact q)) ?_
      rw [lem_w32k (by omega), Int.add_zero, w32_s (by omega)]
      exact l216 hw hn hs es n (k + 1) c (by omega) h0 (by omega) x2
    · have c1 := sp215 (d := d) (f := k) (g := seen) (I := I) (L := L) (t := t) (by omega) (by omega)
      by_cases r : difP (nM I k) (nM I seen) 0 16 0 < a
      · have e : kpC (fun f => difP (nM I f) (nM I seen) 0 16 0) seen a k c = c + 1 := by
          unfold kpC
          rw [if_neg q, if_pos r]
        rw [e]
        refine Eq.trans (P216_53_0 (h1 := by omega) (g1 := by omega) (h2 := by rw [es']; exact q) (c1 := by rw [es']; exact c1) (h3 := r)) ?_
        rw [lem_w32k (by omega), w32_s (by omega)]
        exact l216 hw hn hs es n (k + 1) (c + 1) (by omega) (by omega) (by omega) x2
      · have e : kpC (fun f => difP (nM I f) (nM I seen) 0 16 0) seen a k c = c := by
          unfold kpC
          rw [if_neg q, if_neg r]
        rw [e]
        refine Eq.trans (P216_53_1 (h1 := by omega) (g1 := by omega) (h2 := by rw [es']; exact q) (c1 := by rw [es']; exact c1) (h3 := by omega)) ?_
        rw [lem_w32k (by omega), Int.add_zero, w32_s (by omega)]
        exact l216 hw hn hs es n (k + 1) c (by omega) h0 (by omega) x2
end KNOWN
theorem both_known (w f what : Int) : Both 90 216 [vi w, vi f, vi what] := both_0 (fun d I L t h => by
  have M := h.pM
  have hm := M.2.1
  have F := h.pF
  have hf := F.1
  have em := M.1
  have ef := F.2.1
  by_cases a : 0 ≤ w ∧ w < I 11 0 12
  · by_cases b : 0 ≤ f ∧ f < I 11 0 10
    · obtain ⟨x, rfl⟩ : ∃ x : Nat, w = (x : Int) := ⟨w.toNat, by omega⟩
      obtain ⟨y, rfl⟩ : ∃ y : Nat, f = (y : Int) := ⟨f.toNat, by omega⟩
      obtain ⟨s1, s2, s3⟩ := (M.2.2 x a.2).2.2.1
      obtain ⟨z, hz⟩ : ∃ z : Nat, I 3 x 4 = (z : Int) := ⟨(I 3 x 4).toNat, by omega⟩
      have hz1 : z < 120 := by omega
      have hx20 : x < 20 := by omega
      have hy120 : y < 120 := by omega
      have cg : ∀ f, f < 120 → difP (nM I f) (nM I z) 0 16 0 = difP (I 22 f) (I 22 z) 0 16 0 := fun f hf => difP_cg (F.2.2.1 f hf).2.1 (F.2.2.1 z hz1).2.1 (by decide)
      have e3 : (I 3 ((x : Int).toNat) 4).toNat = z := by
        rw [Int.toNat_natCast, hz, Int.toNat_natCast]
      have c1 := sp11 (d := d + 48) (f := y) (g := z) (L := L) (t := t) (h.fc y hy120) (h.fc z hz1)
      have c1' : Cal (d + 49) 11 [vr 1 ((y : Int).toNat), vr 22 ((I 3 ((x : Int).toNat) 4).toNat)] (mk I L t) = some (vi (difP (I 22 y) (I 22 z) 0 16 0), mk I L t) := by
        rw [e3, Int.toNat_natCast]
        exact c1
      have m1 := sp215 (d := d + 48) (f := y) (g := z) (I := I) (L := L) (t := t) (by omega) (by omega)
      have m1' : Cal (d + 49) 215 [vr 12 0, vi (y : Int), vi (I 82 0 ((x : Int).toNat))] (mk I L t) = some (vi (difP (nM I y) (nM I z) 0 16 0), mk I L t) := by
        rw [Int.toNat_natCast, s1, hz]
        exact m1
      have g3 : 0 ≤ I 3 ((x : Int).toNat) 4 ∧ I 3 ((x : Int).toNat) 4 < 120 := by
        rw [Int.toNat_natCast]
        omega
      by_cases c : what = 0
      · refine ⟨_, P90_0_2 (d := d + 48) (g1 := by omega) (h1 := a) (g2 := by omega) (h2 := b) (g3 := by omega) (g4 := by omega) (g5 := g3) (c1 := c1') (h3 := c), ?_⟩
        rw [← cg y hy120]
        exact P216_0_3 (d := d + 48) (g1 := by omega) (h1 := by omega) (g2 := by omega) (h2 := by omega) (h3 := by omega) (g3 := by omega) (c1 := m1') (h4 := c)
      · by_cases e : what = 1
        · have c2 := l126 (d := d + 47) (I := I) (L := L) (t := t) h.fc hf.2 hz1 (a := difP (I 22 y) (I 22 z) 0 16 0) (I 11 0 10).toNat 0 0 (by omega) (Int.le_refl _) (Int.le_refl _)
          have c2' : Cal (d + 49) 126 [vr 11 0, vi (I 3 ((x : Int).toNat) 4), vi (difP (I 22 y) (I 22 z) 0 16 0)] (mk I L t) = some (vi (fo (kpC (fun f => difP (I 22 f) (I 22 z) 0 16 0) z (difP (I 22 y) (I 22 z) 0 16 0)) 0 (I 11 0 10).toNat 0), mk I L t) := by
            rw [Int.toNat_natCast, hz]
            exact Eq.trans P126_0_0 c2
          refine ⟨_, P90_0_3 (d := d + 48) (g1 := by omega) (h1 := a) (g2 := by omega) (h2 := b) (g3 := by omega) (g4 := by omega) (g5 := g3) (c1 := c1') (h3 := c) (h4 := e) (c2 := c2'), ?_⟩
          refine Eq.trans (P216_0_4 (d := d + 48) (g1 := by omega) (h1 := by omega) (g2 := by omega) (h2 := by omega) (h3 := by omega) (g3 := by omega) (c1 := m1') (h4 := c)) ?_
          have m2 := l216 (d := d + 48) (L := L) (t := t) (w := x) (seen := z) (I := I) hx20 (by omega) hz1 (by omega) (a := difP (nM I y) (nM I z) 0 16 0) (x := what) (I 12 0 1).toNat 0 0 (by omega) (Int.le_refl _) (Int.le_refl _) (y : Int)
          refine Eq.trans m2 ?_
          rw [ef, cg y hy120]
          have q : fo (kpC (fun f => difP (nM I f) (nM I z) 0 16 0) z (difP (I 22 y) (I 22 z) 0 16 0)) 0 (I 11 0 10).toNat 0 = fo (kpC (fun f => difP (I 22 f) (I 22 z) 0 16 0) z (difP (I 22 y) (I 22 z) 0 16 0)) 0 (I 11 0 10).toNat 0 := fo_cg _ 0 0 (fun j b _ hj => by
            have e := cg j (by omega)
            unfold kpC
            show (if _ then _ else if difP (nM I j) (nM I z) 0 16 0 < _ then _ else _) = if _ then _ else if difP (I 22 j) (I 22 z) 0 16 0 < _ then _ else _
            rw [e])
          rw [q]
        · exact ⟨_, P90_0_4 (d := d + 48) (g1 := by omega) (h1 := a) (g2 := by omega) (h2 := b) (g3 := by omega) (g4 := by omega) (g5 := g3) (c1 := c1') (h3 := c) (h4 := e), P216_0_2 (d := d + 48) (g1 := by omega) (h1 := by omega) (g2 := by omega) (h2 := by omega) (h3 := by omega)⟩
    · exact ⟨_, P90_0_1 (d := d + 48) (g1 := by omega) (h1 := a) (g2 := by omega) (h2 := b), P216_0_1 (d := d + 48) (g1 := by omega) (h1 := by omega) (g2 := by omega) (h2 := by omega)⟩
  · exact ⟨_, P90_0_0 (d := d + 48) (g1 := by omega) (h1 := a), P216_0_0 (d := d + 48) (g1 := by omega) (h1 := by omega)⟩)
theorem l242 {d : Nat} {I L : H3} {t : Nat → Nat} {x : Int} (hn : I 12 0 1 ≤ 120) : ∀ (n k : Nat) (c : Int), (k : Int) + n = I 12 0 1 → 0 ≤ c → c ≤ k → Res d 242 76 [vr 12 0, vi x, vi c, vi (k : Int)] [] (mk I L t) = some (vi (fo (fun f (a : Int) => if I 50 0 f = -1 then a else a + 1) k n c), mk I L t)
  | 0, k, c, hk, h0, h1 => P242_76_2 (by omega)
  | n + 1, k, c, hk, h0, h1 => by
    rw [fo_s]
    by_cases q : I 50 0 k = -1
    · rw [if_pos q]
      refine Eq.trans (P242_76_0 (h1 := by omega) (g1 := by omega) (h2 := q)) ?_
      rw [lem_w32k (by omega), Int.add_zero, w32_s (by omega)]
      exact l242 hn n (k + 1) c (by omega) h0 (by omega)
    · rw [if_neg q]
      refine Eq.trans (P242_76_1 (h1 := by omega) (g1 := by omega) (h2 := q)) ?_
      rw [lem_w32k (by omega), w32_s (by omega)]
      exact l242 hn n (k + 1) (c + 1) (by omega) (by omega) (by omega)
theorem both_look (x : Int) : Both 101 242 [vi x] := both_0 (fun d I L t h => by
  by_cases h0 : x = 0
  · exact ⟨_, P101_0_0 h0, by rw [← h.pN.1]; exact P242_0_0 h0⟩
  · by_cases h1 : x = 1
    · exact ⟨_, P101_0_1 h1, by rw [← h.pF.2.1]; exact P242_0_1 h1⟩
    · by_cases h2 : x = 2
      · exact ⟨_, P101_0_2 h2, by rw [← h.pM.1]; exact P242_0_2 h2⟩
      · by_cases h3 : x = 3
        · exact ⟨_, P101_0_3 h3, by rw [← h.pV.1]; exact P242_0_3 h3⟩
        · by_cases h4 : x = 4
          · exact ⟨_, P101_0_4 h4, by rw [← h.pO.1]; exact P242_0_4 h4⟩
          · by_cases h5 : x = 5
            · exact ⟨_, P101_0_5 h5, by rw [← h.pS.1]; exact P242_0_5 h5⟩
            · by_cases h6 : x = 6
              · have F := h.pF
                have hf := F.1
                have ef := F.2.1
                refine ⟨_, P101_0_6 h6, Eq.trans (P242_0_6 h6) (Eq.trans (l242 (by omega) (I 12 0 1).toNat 0 0 (by omega) (Int.le_refl _) (Int.le_refl _)) ?_)⟩
                have q : fo (fun f (a : Int) => if I 50 0 f = -1 then a else a + 1) 0 (I 12 0 1).toNat 0 = I 11 0 11 := by
                  rw [ef]
                  refine Eq.trans (fo_cg _ 0 0 (fun f b _ hb => ?_)) h.pC.symm
                  rw [F.2.2.2 f (by omega)]
                rw [q]
              · exact ⟨_, P101_0_7 (by omega), P242_0_7 (by omega)⟩)
