/-! breeding: the model, rounds -/
theorem cnN_id {rv : Int → Int} : ∀ p : Nat, (∀ q : Nat, q < p → rv (q : Nat) ≠ -1) → cnN rv p = p
  | 0, _ => rfl
  | p + 1, h => by
    rw [cnN_s, if_neg (h p (by omega)), cnN_id p (fun q hq => h q (by omega))]
def s9m (r i c : Nat) : Bool := r == 48 && i == 0 && Nat.ble 2080 c
section BREDM2
variable {d w : Nat} {I0 L : H3} {t : Nat → Nat}
theorem s9m_B {I J : H3} (h : Fr s9m I J) : Fr sBm I J := h.mo (fun r i c k => by
  unfold sBm at k
  unfold s9m
  simp only [Bool.or_eq_false_iff, Bool.and_eq_false_iff, beq_eq_false_iff_ne] at k ⊢
  rcases k.1.2 with z | z
  · exact Or.inl (Or.inl z)
  · refine Or.inr (Bool.eq_false_iff.mpr (fun y => ?_))
    have := Nat.le_of_ble_eq_true y
    rw [Nat.ble_eq_true_of_le (show 1920 ≤ c by omega)] at z
    cases z)
theorem l219c {p q fp fq : Nat} (hp : p < 9) (hq : q < 9) (hfp : fp < 130) (hfq : fq < 130) {x1 x2 x3 x4 x7 : Int} {a b : Nat → Int} : ∀ (n j : Nat) (J : H3) (u9 u10 : MV), j + n = 16 → J 54 0 p = (fp : Int) → J 54 0 q = (fq : Int) → (∀ c, c < 16 → nM J fp c = a c ∧ nM J fq c = b c) → (∀ c, c < j → nM J 130 c = a c ∧ nM J 131 c = b c) →
    ∃ J' u9' u10', Res (d + 2) 219 99 [vr 12 0, vi x1, vi x2, vi x3, vi x4, vi (p : Int), vi (q : Int), vi x7, vi (j : Int), u9, u10] [] (mk J L t) = Res (d + 2) 219 99 [vr 12 0, vi x1, vi x2, vi x3, vi x4, vi (p : Int), vi (q : Int), vi x7, vi 16, u9', u10'] [] (mk J' L t) ∧ Fr s9m J J' ∧ ∀ c, c < 16 → nM J' 130 c = a c ∧ nM J' 131 c = b c
  | 0, j, J, u9, u10, hj, h1, h2, hs, hv => by
    have h16 : j = 16 := by omega
    subst h16
    exact ⟨J, u9, u10, rfl, Fr.rfl', hv⟩
  | n + 1, j, J, u9, u10, hj, h1, h2, hs, hv => by
    obtain ⟨e2, e3⟩ := ix2 (j := j) (by omega)
    have h1' : J 54 0 ((p : Int).toNat) = (fp : Int) := h1
    have h2' : J 54 0 ((q : Int).toNat) = (fq : Int) := h2
    have x5 := ix16 (f := fp) (k := j) (by omega) (by omega)
    have x6 := ix16 (f := fq) (k := j) (by omega) (by omega)
    have sa : J 48 0 (16 * fp + j) = a j := (hs j (by omega)).1
    have sb' : J 48 0 (16 * fq + j) = b j := (hs j (by omega)).2
    have ble0 : ∀ c, 2080 ≤ c → s9m 48 0 c = true := fun c hc => by
      unfold s9m
      rw [Nat.ble_eq_true_of_le hc]
      rfl
    have F1 : Fr s9m J (up3 (up3 J 48 0 (16 * 130 + j) (a j)) 48 0 (16 * 131 + j) (b j)) := (Fr.rfl'.up (ble0 _ (by omega))).up (ble0 _ (by omega))
    have keep : ∀ f c, f < 130 → c < 16 → nM (up3 (up3 J 48 0 (16 * 130 + j) (a j)) 48 0 (16 * 131 + j) (b j)) f c = nM J f c := fun f c hf hc => by
      unfold nM
      rw [up_s (by omega), up_s (by omega)]
    obtain ⟨J', u9', u10', r, F, hJ⟩ := l219c hp hq hfp hfq (x1 := x1) (x2 := x2) (x3 := x3) (x4 := x4) (x7 := x7) (a := a) (b := b) n (j + 1) (up3 (up3 J 48 0 (16 * 130 + j) (a j)) 48 0 (16 * 131 + j) (b j)) (vi (a j)) (vi (b j)) (by omega) (by rw [up_r (show (54 : Nat) ≠ 48 by decide), up_r (show (54 : Nat) ≠ 48 by decide)]; exact h1) (by rw [up_r (show (54 : Nat) ≠ 48 by decide), up_r (show (54 : Nat) ≠ 48 by decide)]; exact h2) (fun c hc => by
      rw [keep fp c hfp hc, keep fq c hfq hc]
      exact hs c hc) (fun c hc => by
      unfold nM
      by_cases z : c = j
      · subst z
        rw [up_s (by omega), up_e, up_e]
        exact ⟨rfl, rfl⟩
      · rw [up_s (by omega), up_s (by omega), up_s (by omega), up_s (by omega)]
        exact hv c (by omega))
    refine ⟨J', u9', u10', Eq.trans (P219_99_0 (h1 := by omega) (g1 := by omega) (g2 := by rw [h1', x5]; omega) (g3 := by omega) (g4 := by rw [h2', x6]; omega) (g5 := by rw [e2]; omega) (g6 := by rw [e3]; omega)) ?_, F1.tr F, hJ⟩
    rw [h1', h2', x5, x6, e2, e3, lem_w32k (k := j) (by omega), Int.toNat_natCast, Int.toNat_natCast, Int.toNat_natCast, Int.toNat_natCast, sa, sb']
    exact r
theorem nM_keep {I J : H3} (F : Fr sBm I J) {f : Nat} (h : f < 120) : c16 (nM J f) = c16 (nM I f) := c16_cg (fun j hj => F 48 0 (16 * f + j) (by
  have : Nat.ble 1920 (16 * f + j) = false := ble_f (by omega)
  simp [sBm, sMs, this]))
theorem l219 {seen : Nat} (hw : w < 20) (hsn : seen < 120) (es : I0 82 0 w = (seen : Int)) {x2 reach : Int} : ∀ (f r n : Nat) (N : Nat → Nat → Int) (K : Nat → Int) (I : H3) (u5 u6 u7 u8 u9 u10 : MV), r + f = 31 → 0 < n → n = cnN (mrv I) 9 → Fr sBm I0 I → MW I0 I w → lnG I N K →
    ∃ J, Res (d + 5) 219 50 [vr 12 0, vi (w : Int), vi x2, vi reach, vi (r : Int), u5, u6, u7, u8, u9, u10] [] (mk I L t) = some (vi (brP (dsM I0 w) (nM I0 seen) reach f r n N K), mk J L t) ∧ Fr sBm I0 J
  | 0, r, n, N, K, I, u5, u6, u7, u8, u9, u10, hr, h0, hn, F, a, hl => ⟨I, P219_50_2 (h1 := by omega), F⟩
  | f + 1, r, n, N, K, I, u5, u6, u7, u8, u9, u10, hr, h0, hn, F, a, hl => by
    have a1 := nrF_1 (D := fun i => dsM I0 w (N i) (K i)) h0
    have b1 := nl_F (Dm := fun p => dsM I0 w (N (cnN (mrv I) p)) (K (cnN (mrv I) p))) (Dc := fun i => dsM I0 w (N i) (K i)) (rv := mrv I) (bm := -1) (bc := -1) (fun p _ _ => rfl) (Or.inl ⟨rfl, rfl⟩)
    rw [← hn] at b1
    obtain ⟨p, hp9, hpr, hp1, hp2⟩ : ∃ p : Nat, p < 9 ∧ mrv I (p : Nat) ≠ -1 ∧ nlF (fun p => dsM I0 w (N (cnN (mrv I) p)) (K (cnN (mrv I) p))) (mrv I) (-1) = (p : Int) ∧ nrF (fun i => dsM I0 w (N i) (K i)) (-1) n = ((cnN (mrv I) p : Nat) : Int) := by
      rcases b1 with ⟨z1, z2⟩ | z
      · omega
      · exact z
    have b2 := nl_F (Dm := fun p => dsM I0 w (N (cnN (mrv I) p)) (K (cnN (mrv I) p))) (Dc := fun i => dsM I0 w (N i) (K i)) (rv := mrv I) (bm := (p : Int)) (bc := ((cnN (mrv I) p : Nat) : Int)) (fun p _ _ => rfl) (Or.inr ⟨p, hp9, hpr, rfl, rfl⟩)
    rw [← hn] at b2
    obtain ⟨J1, c1, F1, m1, l1, r1⟩ := sp217 (d := d + 1) (L := L) (t := t) (but := -1) F a hl rfl
    rw [hp1] at c1
    obtain ⟨J2, c2, F2, m2, l2, r2⟩ := sp217 (d := d + 1) (L := L) (t := t) (but := (p : Int)) F1 m1 l1 r1
    -- the two places
    have h54 : ∀ x : Nat, mrv I (x : Nat) ≠ -1 → J2 54 0 x = mrv I (x : Nat) := fun x hx => by
      rw [← r2] at hx ⊢
      by_cases z : (x : Int) < J2 12 0 12
      · exact (mrv_at z).symm
      · exact absurd (mrv_ge (by omega)) hx
    have line : ∀ x : Nat, x < 9 → mrv I (x : Nat) ≠ -1 → (0 ≤ mrv I (x : Nat) ∧ mrv I (x : Nat) < 130) ∧ c16 (nM J2 (mrv I (x : Nat)).toNat) = N (cnN (mrv I) x) ∧ J2 49 0 (mrv I (x : Nat)).toNat = K (cnN (mrv I) x) := fun x hx9 hx => by
      have := l2.2 x hx9
      rw [r2] at this
      exact this.resolve_left hx
    obtain ⟨q, hq9, hqr, hq2, c3⟩ : ∃ q : Nat, q < 9 ∧ mrv I (q : Nat) ≠ -1 ∧ nrG (fun i => dsM I0 w (N i) (K i)) n = cnN (mrv I) q ∧ Res (d + 5) 219 50 [vr 12 0, vi (w : Int), vi x2, vi reach, vi (r : Int), u5, u6, u7, u8, u9, u10] [] (mk I L t) = Res (d + 5) 219 99 [vr 12 0, vi (w : Int), vi x2, vi reach, vi (r : Int), vi (p : Int), vi (q : Int), vi (J2 49 0 (J2 54 0 p).toNat), vi 0, u9, u10] [] (mk J2 L t) := by
      have g2 : 0 ≤ J2 54 0 ((p : Int).toNat) ∧ J2 54 0 ((p : Int).toNat) < 132 := by
        have := (line p hp9 hpr).1
        rw [Int.toNat_natCast, h54 p hpr]
        omega
      rcases b2 with ⟨z1, z2⟩ | ⟨q, q1, q2, q3, q4⟩
      · refine ⟨p, hp9, hpr, ?_, ?_⟩
        · unfold nrG
          rw [hp2, if_pos z2, Int.toNat_natCast]
        · rw [z1] at c2
          exact P219_50_0 (d := d + 3) (h1 := by omega) (c1 := c1) (c2 := c2) (h2 := rfl) (g1 := by omega) (g2 := g2)
      · refine ⟨q, q1, q2, ?_, ?_⟩
        · unfold nrG
          rw [hp2, q4, if_neg (by omega), Int.toNat_natCast]
        · rw [q3] at c2
          exact P219_50_1 (d := d + 3) (h1 := by omega) (c1 := c1) (c2 := c2) (h2 := by omega) (g1 := by omega) (g2 := g2)
    obtain ⟨p1, p2, p3⟩ := line p hp9 hpr
    obtain ⟨q1, q2, q3⟩ := line q hq9 hqr
    obtain ⟨J3, u9', u10', c4, F3, e3⟩ := l219c (d := d + 3) (L := L) (t := t) (p := p) (q := q) (fp := (mrv I (p : Nat)).toNat) (fq := (mrv I (q : Nat)).toNat) hp9 hq9 (by omega) (by omega) (x1 := (w : Int)) (x2 := x2) (x3 := reach) (x4 := (r : Int)) (x7 := J2 49 0 (J2 54 0 p).toNat) (a := nM J2 (mrv I (p : Nat)).toNat) (b := nM J2 (mrv I (q : Nat)).toNat) 16 0 J2 u9 u10 rfl (by rw [h54 p hpr]; omega) (by rw [h54 q hqr]; omega) (fun c _ => ⟨rfl, rfl⟩) (fun c hc => by omega)
    have G3 : Fr sBm I0 J3 := F2.tr (s9m_B F3)
    have eP : c16 (nM J3 130) = N (cnN (mrv I) p) := by rw [← p2]; exact c16_cg (fun c hc => (e3 c hc).1)
    have eQ : c16 (nM J3 131) = N (cnN (mrv I) q) := by rw [← q2]; exact c16_cg (fun c hc => (e3 c hc).2)
    have cP : c16 (N (cnN (mrv I) p)) = N (cnN (mrv I) p) := by rw [← eP, c16_c]
    have cQ : c16 (N (cnN (mrv I) q)) = N (cnN (mrv I) q) := by rw [← eQ, c16_c]
    have m3 : MW I0 J3 w := by
      have m2' : MAt J2 (I0 80 0 w).toNat (I0 81 0 w) (gvT (I0 83 0 w) (I0 84 0 w) (I0 85 0 w) (I0 87 0 w)) (c16 (kpM I0 w)) (c16 (ktM I0 w)) (w32 (I0 12 0 0 - I0 86 0 w)) := m2
      exact m2'.fr F3 rfl rfl (fun _ => ⟨rfl, rfl, rfl⟩) (fun _ => ⟨rfl, rfl⟩) (gvM_cg (F3.ri (fun _ => rfl)))
    have e82 : J3 82 0 ((w : Int).toNat) = (seen : Int) := (G3 82 0 w rfl).trans es
    have c5 := sp215 (d := d + 3) (f := 130) (g := seen) (I := J3) (L := L) (t := t) (by decide) (by omega)
    rw [difP_cg (f' := N (cnN (mrv I) p)) (g' := nM I0 seen) (by rw [eP, cP]) (nM_keep G3 hsn) (by decide)] at c5
    have e130 : ((130 : Nat) : Int) = 130 := rfl
    rw [e130] at c5
    unfold brP
    rw [hp2, Int.toNat_natCast, hq2]
    by_cases z : difP (N (cnN (mrv I) p)) (nM I0 seen) 0 16 0 ≤ reach
    · rw [if_pos z]
      exact ⟨J3, c3.trans (c4.trans (P219_99_1 (d := d + 3) (h1 := by decide) (g1 := by omega) (c1 := by rw [e82]; exact c5) (h2 := z))), G3⟩
    · rw [if_neg z]
      have ek : J2 49 0 (J2 54 0 p).toNat = K (cnN (mrv I) p) := by rw [h54 p hpr]; exact p3
      rw [ek] at c3 c4
      obtain ⟨J4, c6, F4, e12, e4⟩ := sp218 (d := d + 3) (I := J3) (L := L) (t := t) (r := r) (by omega) (k := K (cnN (mrv I) p))
      have hv4 : ∀ x : Nat, x < 9 → mrv J4 (x : Nat) = ((120 + x : Nat) : Int) := fun x hx => by
        rw [mrv_at (by omega)]
        exact (e4 x hx).2.2
      have hid : ∀ x : Nat, x ≤ 9 → cnN (mrv J4) x = x := fun x hx => cnN_id x (fun y hy => by
        rw [hv4 y (by omega)]
        omega)
      have hl4 : lnG J4 (fun i => chP (N (cnN (mrv I) p)) (N (cnN (mrv I) q)) i r) (fun _ => K (cnN (mrv I) p)) := by
        refine ⟨by omega, fun x hx => Or.inr ?_⟩
        rw [hv4 x hx, hid x (by omega), Int.toNat_natCast]
        refine ⟨by omega, ?_, (e4 x hx).2.1⟩
        rw [(e4 x hx).1]
        exact chP_cg (by rw [eP, cP]) (by rw [eQ, cQ])
      have m4 : MW I0 J4 w := by
        have m3' : MAt J3 (I0 80 0 w).toNat (I0 81 0 w) (gvT (I0 83 0 w) (I0 84 0 w) (I0 85 0 w) (I0 87 0 w)) (c16 (kpM I0 w)) (c16 (ktM I0 w)) (w32 (I0 12 0 0 - I0 86 0 w)) := m3
        exact m3'.fr F4 rfl rfl (fun _ => ⟨rfl, rfl, rfl⟩) (fun _ => ⟨rfl, rfl⟩) (gvM_cg (F4.ri (fun _ => rfl)))
      obtain ⟨J5, c7, F5⟩ := l219 hw hsn es (x2 := x2) (reach := reach) f (r + 1) 9 (fun i => chP (N (cnN (mrv I) p)) (N (cnN (mrv I) q)) i r) (fun _ => K (cnN (mrv I) p)) J4 (vi (p : Int)) (vi (q : Int)) (vi (K (cnN (mrv I) p))) (vi 16) u9' u10' (by omega) (by decide) (hid 9 (Nat.le_refl _)).symm (G3.tr (sBd_B F4)) m4 hl4
      refine ⟨J5, c3.trans (c4.trans (Eq.trans (P219_99_2 (d := d + 3) (h1 := by decide) (g1 := by omega) (c1 := by rw [e82]; exact c5) (h2 := by omega) (c2 := c6)) ?_)), F5⟩
      rw [lem_w32k (k := r) (by omega)]
      exact c7
theorem cnt_cn {rv : Int → Int} : cntP rv = (cnN rv 9 : Nat) := by
  have key : ∀ n, fo (fun k (a : Int) => if rv (k : Nat) = -1 then a else a + 1) 0 n 0 = ((cnN rv n : Nat) : Int) := by
    intro n
    induction n with
    | zero => rfl
    | succ n ih =>
      rw [fo_e, ih, cnN_s, Nat.zero_add]
      by_cases c : rv (n : Nat) = -1
      · rw [if_pos c, if_pos c]
      · rw [if_neg c, if_neg c]
        omega
  exact key 9
theorem sp219 {I : H3} (h : Rel I t) (x r reach : Int) : ∃ J, Cal (d + 50) 219 [vr 12 0, vi x, vi r, vi reach] (mk I L t) = some (vi (brV (I 12 0 2) (mrw I) (fun w r reach => brP (dsM I w) (nM I (I 82 0 w).toNat) reach 30 1 (cnN (mrw I r) 9) (nF (nM I) (mrw I r)) (nK (I 49 0) (mrw I r))) x r reach), mk J L t) ∧ Fr sBm I J := by
  have hb := h.pM.2.1
  have em2 := h.pM.1
  unfold brV
  by_cases a : 0 ≤ x ∧ x < I 12 0 2
  · by_cases b : 0 ≤ r ∧ r < 6
    · by_cases c : 0 ≤ reach ∧ reach ≤ 999
      · have hr := h.rw' (r := r.toNat) (by omega)
        obtain ⟨J1, c1, F1, e12, em, ln⟩ := sp156 (d := d + 49) (L := L) (t := t) (r := r.toNat) (I := I) (by omega) hr.2.1
        rw [show ((r.toNat : Nat) : Int) = r by omega] at c1
        have hr9 := hr.2.1.1
        have c2 := sp158 (d := d + 49) (I := J1) (L := L) (t := t) (by omega)
        rw [em, cnt_cn] at c2
        by_cases e : 0 < cnN (mrw I r.toNat) 9
        · rw [if_pos ⟨a, b, c, e⟩]
          obtain ⟨J2, c3, F2, T2, m2⟩ := mtk (d := d + 48) (L := L) (t := t) (w := x.toNat) h.mm (by omega) (sLn_s F1)
          have c3' := c3
          rw [show ((x.toNat : Nat) : Int) = x by omega] at c3'
          have ln2 := lnOk_fr T2 rfl (fun _ => rfl) ln
          have em2' : mrv J2 = mrw I r.toNat := (sTk_ln T2).trans em
          have hmi := h.pM.2.2 x.toNat (by omega)
          have hf := h.pF.1
          have hl : lnG J2 (nF (nM I) (mrw I r.toNat)) (nK (I 49 0) (mrw I r.toNat)) := by
            refine ⟨ln2.1, fun p hp => ?_⟩
            by_cases z : mrv J2 (p : Nat) = -1
            · exact Or.inl z
            · have zb := (ln2.2 (p : Int)).resolve_left z
              refine Or.inr ⟨by omega, ?_, ?_⟩
              · rw [s_nM F2, em2']
                unfold nF
                rw [nPl_at hp (by rw [← em2']; exact z)]
              · rw [F2.ri (r := 49) (i := 0) (fun _ => rfl), em2']
                unfold nK
                rw [nPl_at hp (by rw [← em2']; exact z)]
          have hmi2 := hmi.2.2.1
          obtain ⟨J3, c4, F3⟩ := l219 (d := d + 45) (L := L) (t := t) (I0 := I) (w := x.toNat) (seen := (I 82 0 x.toNat).toNat) (by omega) (by omega) (by omega) (x2 := r) (reach := reach) 30 1 (cnN (mrw I r.toNat) 9) _ _ J2 vx vx vx vx vx vx rfl e (by rw [em2']) (sMs_B F2) m2 hl
          rw [show ((x.toNat : Nat) : Int) = x by omega] at c4
          exact ⟨J3, (P219_0_4 (d := d + 48) (g1 := by omega) (h1 := a) (h2 := b) (h3 := c) (c1 := c1) (c2 := c2) (h4 := by omega) (c3 := c3')).trans c4, F3⟩
        · rw [if_neg (fun q => e q.2.2.2)]
          exact ⟨J1, P219_0_3 (d := d + 48) (g1 := by omega) (h1 := a) (h2 := b) (h3 := c) (c1 := c1) (c2 := c2) (h4 := by omega), sMs_B (sLn_s F1)⟩
      · rw [if_neg (fun q => c q.2.2.1)]
        exact ⟨I, P219_0_2 (d := d + 48) (g1 := by omega) (h1 := a) (h2 := b) (h3 := c), Fr.rfl'⟩
    · rw [if_neg (fun q => b q.2.1)]
      exact ⟨I, P219_0_1 (d := d + 48) (g1 := by omega) (h1 := a) (h2 := b), Fr.rfl'⟩
  · rw [if_neg (fun q => a q.1)]
    exact ⟨I, P219_0_0 (d := d + 48) (g1 := by omega) (h1 := a), Fr.rfl'⟩
end BREDM2
theorem brP_cg {dist dist' : (Nat → Int) → Int → Int} {seen seen' : Nat → Int} {reach : Int} (hd : dist = dist') (hs : c16 seen = c16 seen') : ∀ (f r n : Nat) (N N' : Nat → Nat → Int) (K K' : Nat → Int), 0 < n → (∀ i, i < n → N i = N' i ∧ K i = K' i) → brP dist seen reach f r n N K = brP dist' seen' reach f r n N' K'
  | 0, r, n, N, N', K, K', h0, h => rfl
  | f + 1, r, n, N, N', K, K', h0, h => by
    subst hd
    have eS : ∀ but, nrF (fun i => dist (N i) (K i)) but n = nrF (fun i => dist (N' i) (K' i)) but n := fun but => by
      refine congrArg Prod.fst (fo_cg n 0 _ (fun j s _ hj => ?_))
      obtain ⟨h1, h2⟩ := h j (by omega)
      have e : dist (N j) (K j) = dist (N' j) (K' j) := by rw [h1, h2]
      unfold nrS
      simp only [e]
    have eG : nrG (fun i => dist (N i) (K i)) n = nrG (fun i => dist (N' i) (K' i)) n := by
      unfold nrG
      rw [eS, eS]
    have a1 := nrF_1 (D := fun i => dist (N' i) (K' i)) h0
    have a2 := nrG_in (D := fun i => dist (N' i) (K' i)) h0
    obtain ⟨h1, h2⟩ := h (nrF (fun i => dist (N' i) (K' i)) (-1) n).toNat (by omega)
    obtain ⟨h3, _⟩ := h (nrG (fun i => dist (N' i) (K' i)) n) a2
    unfold brP
    rw [eS, eG, h1, h2, h3, difP_cg (f' := N' (nrF (fun i => dist (N' i) (K' i)) (-1) n).toNat) rfl hs (by decide)]
    rw [brP_cg rfl hs f (r + 1) 9 _ _ _ _ (by decide) (fun i _ => ⟨rfl, rfl⟩)]
theorem both_bred (w r reach : Int) : Both 91 219 [vi w, vi r, vi reach] := by
  refine both_q (fun I t => brV (I 11 0 12) (rv I) (fun w r reach => brP (dsC I t w) (I 22 (I 3 w 4).toNat) reach 30 1 (cnN (rv I r) 9) (nF (I 22) (rv I r)) (nK (fun f => I 1 f 1) (rv I r))) w r reach) (fun I => brV (I 12 0 2) (mrw I) (fun w r reach => brP (dsM I w) (nM I (I 82 0 w).toNat) reach 30 1 (cnN (mrw I r) 9) (nF (nM I) (mrw I r)) (nK (I 49 0) (mrw I r))) w r reach) (fun d I L t h => ?_) (fun d I L t h => ?_) (fun I t h => ?_) (fun I J => rfl)
  · obtain ⟨J, c, F⟩ := sp91 (d := d) (L := L) h w r reach
    exact ⟨J, L, c, sBr_q F, sBr_K F⟩
  · obtain ⟨J, c, F⟩ := sp219 (d := d) (L := L) h w r reach
    exact ⟨J, c, sBm_q F⟩
  · have hf := h.pF.1
    show brV (I 11 0 12) (rv I) (fun w r reach => brP (dsC I t w) (I 22 (I 3 w 4).toNat) reach 30 1 (cnN (rv I r) 9) (nF (I 22) (rv I r)) (nK (fun f => I 1 f 1) (rv I r))) w r reach = brV (I 12 0 2) (mrw I) (fun w r reach => brP (dsM I w) (nM I (I 82 0 w).toNat) reach 30 1 (cnN (mrw I r) 9) (nF (nM I) (mrw I r)) (nK (I 49 0) (mrw I r))) w r reach
    rw [h.pM.1]
    unfold brV
    by_cases a : (0 ≤ w ∧ w < I 11 0 12) ∧ 0 ≤ r ∧ r < 6
    · have hr := h.rw' (r := r.toNat) (by omega)
      rw [hr.2.2]
      by_cases b : (0 ≤ reach ∧ reach ≤ 999) ∧ 0 < cnN (rv I r.toNat) 9
      · rw [if_pos ⟨a.1, a.2, b.1, b.2⟩, if_pos ⟨a.1, a.2, b.1, b.2⟩]
        have m := h.pM.2.2 w.toNat (by omega)
        have m2 := m.2.2.1
        have ed : dsC I t w.toNat = dsM I w.toNat := by
          funext x k
          unfold dsC dsM
          rw [h.eA (by omega), h.eG2 (by omega), m.2.1]
          exact farP_cg rfl (by rw [c16_c, m.2.2.2.2.2.2.2.1.1])
        have es : c16 (I 22 (I 3 w.toNat 4).toNat) = c16 (nM I (I 82 0 w.toNat).toNat) := by
          rw [m2.1]
          exact (h.pF.2.2.1 _ (by omega)).2.1.symm
        have en : ∀ i, i < cnN (rv I r.toNat) 9 → nF (I 22) (rv I r.toNat) i = nF (nM I) (rv I r.toNat) i ∧ nK (fun f => I 1 f 1) (rv I r.toNat) i = nK (I 49 0) (rv I r.toNat) i := fun i hi => by
          obtain ⟨p, p1, p2, p3⟩ := nPl_ex (rv := rv I r.toNat) 9 i hi
          have hp := nPl_at (rv := rv I r.toNat) p1 p2
          rw [p3] at hp
          have hg : 0 ≤ rv I r.toNat (p : Int) ∧ rv I r.toNat (p : Int) < 120 := (hr.1.2 (p : Int)).resolve_left p2
          unfold nF nK
          rw [hp]
          obtain ⟨f1, f2, f3, f4⟩ := h.pF.2.2.1 (rv I r.toNat (p : Int)).toNat (by omega)
          exact ⟨f2.symm, f3.symm⟩
        show brP (dsC I t w.toNat) (I 22 (I 3 w.toNat 4).toNat) reach 30 1 (cnN (rv I r.toNat) 9) (nF (I 22) (rv I r.toNat)) (nK (fun f => I 1 f 1) (rv I r.toNat)) = brP (dsM I w.toNat) (nM I (I 82 0 w.toNat).toNat) reach 30 1 (cnN (mrw I r.toNat) 9) (nF (nM I) (mrw I r.toNat)) (nK (I 49 0) (mrw I r.toNat))
        rw [hr.2.2]
        exact brP_cg (dist := dsC I t w.toNat) (dist' := dsM I w.toNat) (seen := I 22 (I 3 w.toNat 4).toNat) (seen' := nM I (I 82 0 w.toNat).toNat) (reach := reach) ed es 30 1 (cnN (rv I r.toNat) 9) (nF (I 22) (rv I r.toNat)) (nF (nM I) (rv I r.toNat)) (nK (fun f => I 1 f 1) (rv I r.toNat)) (nK (I 49 0) (rv I r.toNat)) b.2 en
      · rw [if_neg (fun z => b ⟨z.2.2.1, z.2.2.2⟩), if_neg (fun z => b ⟨z.2.2.1, z.2.2.2⟩)]
    · rw [if_neg (fun z => a ⟨z.1, z.2.1⟩), if_neg (fun z => a ⟨z.1, z.2.1⟩)]
