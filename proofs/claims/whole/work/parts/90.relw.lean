/-! what stays when other things are written -/
section RELW
variable {I J : H3} {t : Nat → Nat}
theorem reF_cg (a : ∀ f, f < 120 → J 22 f = I 22 f ∧ J 1 f = I 1 f) (b : ∀ f, f < 120 → c16 (nM J f) = c16 (nM I f)) (c : ∀ f, f < 120 → J 49 0 f = I 49 0 f ∧ J 50 0 f = I 50 0 f) (d : J 11 0 10 = I 11 0 10) (e : J 12 0 1 = I 12 0 1) (h : reF I) : reF J := by
  obtain ⟨h1, h2, h3, h4⟩ := h
  refine ⟨by rw [d]; exact h1, by rw [d, e]; exact h2, fun f hf => ?_, fun f hf => ?_⟩
  · rw [(a f hf).1, (a f hf).2, b f hf, (c f hf).1]
    exact h3 f hf
  · rw [d] at hf
    rw [(a f (by omega)).2, (c f (by omega)).2]
    exact h4 f hf
theorem reT_cg (a : J 115 = I 115) (b : J 51 = I 51) (h : reT I) : reT J := by
  unfold reT mT
  rw [a, b]
  exact h
theorem reR_cg {nf nf' : Int} (hn : nf ≤ nf') (a : ∀ r, r < 6 → J 4 r = I 4 r ∧ J 30 r = I 30 r) (b : J 52 = I 52) (c : J 53 = I 53) (h : reR nf I) : reR nf' J := fun r hr => by
  rw [(a r hr).1, (a r hr).2, b, c]
  exact (h r hr).mono hn
theorem reH_cg (a3 : J 23 = I 23) (a4 : J 24 = I 24) (a5 : J 25 = I 25) (a6 : J 26 = I 26) (b5 : J 55 = I 55) (b6 : J 56 = I 56) (b7 : J 57 = I 57) (h : reH t I) : reH t J := fun k hk => by
  obtain ⟨x, y, z, w⟩ := h k hk
  rw [hC_cg a3 a4 a5 a6, mH_cg (by rw [b5]) (by rw [b6]) (by rw [b7])]
  exact ⟨x, hOk_cg a5 a6 y, mhOk_cg (by rw [b6]) (by rw [b7]) z, w⟩
theorem reS_cg (a : J 5 = I 5) (b : J 31 = I 31) (c : J 32 = I 32) (d : J 33 = I 33) (e : J 64 = I 64) (f : J 65 = I 65) (g : J 66 = I 66) (i : J 12 0 33 = I 12 0 33) (h : reS t I) : reS t J := by
  unfold reS
  rw [a, b, c, d, e, f, g, i]
  exact h
theorem reW_cg (a : J 9 = I 9) (b : J 70 = I 70) (c : J 71 = I 71) (d : J 72 = I 72) (e : J 73 = I 73) (h : reW t I) : reW t J := by
  unfold reW wyOk
  rw [a, b, c, d, e]
  exact h
theorem reB_cg (a : J 7 = I 7) (b : J 34 = I 34) (c : J 62 = I 62) (d : J 12 0 36 = I 12 0 36) (e : J 12 0 43 = I 12 0 43) (f : J 12 0 50 = I 12 0 50) (h : reB I) : reB J := by
  unfold reB
  rw [a, b, c, d, e, f]
  exact h
theorem rmi_cg {nf nf' now : Int} {w : Nat} (hn : nf ≤ nf') (a : J 3 w = I 3 w) (b : J 28 w = I 28 w) (c : J 29 w = I 29 w) (e : ∀ r, 80 ≤ r → r ≤ 87 → J r 0 w = I r 0 w) (f : kpM J w = kpM I w) (g : ktM J w = ktM I w) (h : rmi nf now I w) : rmi nf' now J w := by
  unfold rmi
  rw [a, b, c, f, g, e 80 (by decide) (by decide), e 81 (by decide) (by decide), e 82 (by decide) (by decide), e 83 (by decide) (by decide), e 84 (by decide) (by decide), e 85 (by decide) (by decide), e 86 (by decide) (by decide), e 87 (by decide) (by decide)]
  obtain ⟨h1, h2, h3, h4, h5⟩ := h
  exact ⟨h1, h2, by omega, h4, h5⟩
theorem reM_cg {nf nf' now : Int} (hn : nf ≤ nf') (a : ∀ w, w < 20 → J 3 w = I 3 w ∧ J 28 w = I 28 w ∧ J 29 w = I 29 w) (e : ∀ r, 80 ≤ r → r ≤ 89 → J r = I r) (c : J 11 0 12 = I 11 0 12) (d : J 12 0 2 = I 12 0 2) (h : reM nf now I) : reM nf' now J := by
  obtain ⟨h1, h2, h3⟩ := h
  refine ⟨by rw [c, d]; exact h1, by rw [c]; exact h2, fun w hw => ?_⟩
  rw [c] at hw
  obtain ⟨a1, a2, a3⟩ := a w (by omega)
  refine rmi_cg hn a1 a2 a3 (fun r r1 r2 => by rw [e r r1 (by omega)]) ?_ ?_ (h3 w hw)
  · unfold kpM
    rw [e 88 (by decide) (by decide)]
  · unfold ktM
    rw [e 89 (by decide) (by decide)]
theorem rsi_cg {nf nf' nm nm' : Int} {i : Nat} (hn : nf ≤ nf') (hm : nm ≤ nm') (a : J 6 i = I 6 i) (b : J 4 (6 + i) = I 4 (6 + i)) (c : J 30 (6 + i) = I 30 (6 + i)) (e : ∀ r, 94 ≤ r → r ≤ 101 → J r 0 i = I r 0 i) (f : J 103 0 i = I 103 0 i) (g : ∀ p, p < 9 → J 102 0 (9 * i + p) = I 102 0 (9 * i + p)) (h : rsi nf nm I i) : rsi nf' nm' J i := by
  unfold rsi rv
  rw [a, b, c, f, e 94 (by decide) (by decide), e 95 (by decide) (by decide), e 96 (by decide) (by decide), e 97 (by decide) (by decide), e 98 (by decide) (by decide), e 99 (by decide) (by decide), e 100 (by decide) (by decide), e 101 (by decide) (by decide)]
  obtain ⟨h1, h2, h3, h4, h5, h6, h7, h8, h9, h10⟩ := h
  refine ⟨by omega, h2, h3, h4, h5, h6, h7, h8, ⟨h9.1, h9.2.1, fun p hp => ?_⟩, h10⟩
  have x := h9.2.2 p hp
  have y := h9.2.1
  show J 102 0 (9 * i + p) = _ ∧ _
  rw [g p (by omega)]
  have x1 : I 102 0 (9 * i + p) = I 30 (6 + i) p := x.1
  omega
theorem reV_cg {nf nf' nm nm' : Int} (hn : nf ≤ nf') (hm : nm ≤ nm') (a : J 6 = I 6) (b : ∀ i, 6 ≤ i → i < 106 → J 4 i = I 4 i ∧ J 30 i = I 30 i) (e : ∀ r, 94 ≤ r → r ≤ 103 → J r = I r) (c : J 11 0 13 = I 11 0 13) (d : J 12 0 3 = I 12 0 3) (h : reV nf nm I) : reV nf' nm' J := by
  obtain ⟨h1, h2, h3⟩ := h
  refine ⟨by rw [c, d]; exact h1, by rw [c]; exact h2, fun i hi => ?_⟩
  rw [c] at hi
  obtain ⟨b1, b2⟩ := b (6 + i) (by omega) (by omega)
  exact rsi_cg hn hm (by rw [a]) b1 b2 (fun r r1 r2 => by rw [e r r1 (by omega)]) (by rw [e 103 (by decide) (by decide)]) (fun p _ => by rw [e 102 (by decide) (by decide)]) (h3 i hi)
theorem rwi_cg {nf nf' : Int} {i : Nat} (hn : nf ≤ nf') (a : J 3 (20 + i) = I 3 (20 + i)) (a2 : J 10 i = I 10 i) (b : J 4 (106 + i) = I 4 (106 + i)) (c : J 30 (106 + i) = I 30 (106 + i)) (e : ∀ r, 105 ≤ r → r ≤ 111 → J r 0 i = I r 0 i) (f : J 113 0 i = I 113 0 i) (f2 : J 114 0 i = I 114 0 i) (g : ∀ p, p < 9 → J 112 0 (9 * i + p) = I 112 0 (9 * i + p)) (h : rwi nf I i) : rwi nf' J i := by
  unfold rwi
  rw [a, a2, b, c, f, f2, e 105 (by decide) (by decide), e 106 (by decide) (by decide), e 107 (by decide) (by decide), e 108 (by decide) (by decide), e 109 (by decide) (by decide), e 110 (by decide) (by decide), e 111 (by decide) (by decide)]
  obtain ⟨h1, h2, h3, h4, h5, h6, h7⟩ := h
  refine ⟨h1, h2, by omega, h4, h5, ⟨h6.1, h6.2.1, fun p hp => ?_⟩, h7⟩
  have x := h6.2.2 p hp
  have y := h6.2.1
  show J 112 0 (9 * i + p) = _ ∧ _
  rw [g p (by omega)]
  have x1 : I 112 0 (9 * i + p) = I 30 (106 + i) p := x.1
  omega
theorem reO_cg {nf nf' : Int} (hn : nf ≤ nf') (a : ∀ i, 20 ≤ i → i < 60 → J 3 i = I 3 i) (a2 : J 10 = I 10) (b : ∀ i, 106 ≤ i → J 4 i = I 4 i ∧ J 30 i = I 30 i) (e : ∀ r, 105 ≤ r → r ≤ 114 → J r = I r) (c : J 11 0 14 = I 11 0 14) (d : J 12 0 4 = I 12 0 4) (h : reO nf I) : reO nf' J := by
  obtain ⟨h1, h2, h3⟩ := h
  refine ⟨by rw [c, d]; exact h1, by rw [c]; exact h2, fun i hi => ?_⟩
  rw [c] at hi
  obtain ⟨b1, b2⟩ := b (106 + i) (by omega)
  exact rwi_cg hn (a (20 + i) (by omega) (by omega)) (by rw [a2]) b1 b2 (fun r r1 r2 => by rw [e r r1 (by omega)]) (by rw [e 113 (by decide) (by decide)]) (by rw [e 114 (by decide) (by decide)]) (fun p _ => by rw [e 112 (by decide) (by decide)]) (h3 i hi)
theorem reN_cg (a : J 11 0 16 = I 11 0 16) (b : J 12 0 0 = I 12 0 0) (h : reN I) : reN J := by
  unfold reN
  rw [a, b]
  exact h
theorem reL_cg {nf nf' nm ns now made : Int} (hn : nf ≤ nf') (hm : 0 ≤ nf) (a1 : J 46 = I 46) (a2 : J 47 = I 47) (a3 : J 90 = I 90) (a4 : J 91 = I 91) (a5 : J 92 = I 92) (a6 : J 93 = I 93) (a7 : J 94 = I 94) (a8 : J 86 = I 86) (b : ∀ f : Nat, (f : Int) < nf → J 50 0 f = I 50 0 f) (c : J 11 0 15 = I 11 0 15) (d : J 12 0 72 = I 12 0 72) (h : reL nf nm ns now made I) : reL nf' nm ns now made J := by
  unfold reL rli at *
  rw [a1, a2, a3, a4, a5, a6, a7, a8, c, d]
  obtain ⟨h1, h2, h3, h4, h5, h6⟩ := h
  refine ⟨h1, h2, h3, fun l hl => ?_, h5, h6⟩
  rcases h4 l hl with q | q | ⟨q1, q2, q3, q4⟩
  · exact Or.inl q
  · exact Or.inr (Or.inl q)
  · refine Or.inr (Or.inr ⟨q1, by omega, ?_, q4⟩)
    rw [b _ (by omega)]
    exact q3
theorem reC_cg {nf : Int} (a : ∀ f : Nat, (f : Int) < nf → J 1 f 2 = I 1 f 2) (c : J 11 0 11 = I 11 0 11) (h : reC nf I) : reC nf J := by
  unfold reC at *
  rw [c, h]
  exact fo_cg _ 0 0 (fun f b _ hf => by rw [a f (by omega)])
theorem reU_cg {nm : Int} (a : ∀ w, w < 20 → J 3 w 8 = I 3 w 8 ∧ J 87 0 w = I 87 0 w) (b : J 90 = I 90) (c : J 91 = I 91) (d : J 12 0 72 = I 12 0 72) (e : J 60 = I 60) (h : reU nm I) : reU nm J := by
  unfold reU at *
  rw [b, c, d, e]
  refine ⟨fun w w1 w2 => ?_, h.2⟩
  rw [(a w w2).1, (a w w2).2]
  exact h.1 w w1 w2
end RELW
theorem vIand_m (x : Int) {m : Nat} (hm : m < 1000) : 0 ≤ vIand x (m : Int) ∧ vIand x (m : Int) ≤ m := by
  have e1 : (Int32.ofInt (m : Int)).toBitVec = BitVec.ofNat 32 m := BitVec.ofInt_natCast 32 m
  have e2 : (Int32.ofInt x &&& Int32.ofInt (m : Int)).toBitVec = (Int32.ofInt x).toBitVec &&& BitVec.ofNat 32 m := by
    rw [← e1]
    rfl
  have e3 : ((Int32.ofInt x).toBitVec &&& BitVec.ofNat 32 m).toNat ≤ m := by
    rw [BitVec.toNat_and, BitVec.toNat_ofNat, Nat.mod_eq_of_lt (by omega)]
    exact Nat.and_le_right
  have e4 : vIand x (m : Int) = (((Int32.ofInt x).toBitVec &&& BitVec.ofNat 32 m).toNat : Int) := by
    show (Int32.ofInt x &&& Int32.ofInt (m : Int)).toBitVec.toInt = _
    rw [e2]
    exact BitVec.toInt_eq_toNat_of_lt (by omega)
  rw [e4]
  omega
