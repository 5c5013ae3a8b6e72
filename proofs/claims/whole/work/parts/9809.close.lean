/-! before and after a text -/
section PREP
variable {d : Nat} {L : H3} {t : Nat → Nat}
def sPc (r i c : Nat) : Bool := sTok r i c || (r == 7 && (c == 11 || c == 12))
theorem c_prep {I : H3} {n : Nat} (h400 : n ≤ 400) (e4 : I 7 0 4 = (n : Int)) (hb : ∀ c, c < n → 0 ≤ I 34 0 c ∧ I 34 0 c ≤ 255) : ∃ J1 J N, Cal (d + 9) 36 [vr 7 0] (mk I L t) = some (vx, mk J1 L t) ∧ Cal (d + 9) 39 [vr 7 0] (mk J1 L t) = some (vx, mk J L t) ∧ Fr sPc I J ∧ Cur (I 34 0) n N J 0 ∧ TokH (I 34 0) n N ∧ J 7 0 11 = 0 ∧ J 7 0 12 = -1 := by
  have F1 : Fr (fun r _ c => r == 7 && (c == 11 || c == 12)) I (up3 (up3 I 7 0 11 0) 7 0 12 (-1)) := (Fr.rfl'.up rfl).up rfl
  obtain ⟨J, N, r, F, hc, h1, h2, h3⟩ := sp39 (d := d) (L := L) (t := t) (b := I 34 0) (I := up3 (up3 I 7 0 11 0) 7 0 12 (-1)) h400 (by rw [F1 7 0 4 rfl]; exact e4) (F1.ri (fun _ => rfl)) ⟨by rw [up_s (by decide), up_e], up_e⟩
  refine ⟨_, J, N, P36_0_0, r, (F1.mo fun r i c k => ?_).tr (F.mo fun r i c k => ?_), hc, ⟨h400, h3, h1, h2, hb⟩, ?_, ?_⟩
  · unfold sPc at k
    simp only [Bool.or_eq_false_iff] at k
    exact k.2
  · unfold sPc at k
    simp only [Bool.or_eq_false_iff] at k
    exact k.1
  · rw [F 7 0 11 rfl, up_s (by decide), up_e]
  · rw [F 7 0 12 rfl, up_e]
def sPm (r _ c : Nat) : Bool := r == 61 || (r == 12 && (c == 34 || c == 35 || decide (37 ≤ c ∧ c ≤ 42) || decide (45 ≤ c ∧ c ≤ 49)))
theorem l179 {x1 x2 : Int} : ∀ (m w : Nat) (I : H3), w + m = 8 → ∃ J, Res (d + 1) 179 110 [vr 12 0, vi x1, vi x2, vi 1, vi (w : Int)] [] (mk I L t) = Res (d + 1) 179 110 [vr 12 0, vi x1, vi x2, vi 1, vi 8] [] (mk J L t) ∧ Fr (fun r _ _ => r == 61) I J ∧ (∀ v, w ≤ v → v < 8 → J 61 0 v = 0) ∧ ∀ v, v < w → J 61 0 v = I 61 0 v
  | 0, w, I, hw => by
    have : w = 8 := by omega
    subst this
    exact ⟨I, rfl, Fr.rfl', fun v a b => by omega, fun _ _ => rfl⟩
  | m + 1, w, I, hw => by
    have FK : Fr (fun r _ _ => r == 61) I (up3 I 61 0 w 0) := Fr.rfl'.up rfl
    obtain ⟨J, r, F, a, b⟩ := l179 (x1 := x1) (x2 := x2) m (w + 1) (up3 I 61 0 w 0) (by omega)
    refine ⟨J, Eq.trans (P179_110_0 (h1 := by omega) (g1 := by omega)) ?_, FK.tr F, fun v h1 h2 => ?_, fun v h1 => ?_⟩
    · rw [Int.toNat_natCast, lem_w32k (k := w) (by omega)]
      exact r
    · by_cases q : v = w
      · subst q
        rw [b v (by omega), up_e]
      · exact a v (by omega) h2
    · rw [b v (by omega), up_s (by omega)]
theorem m_prep {K : H3} {b : Nat → Int} {n : Nat} {so k : Int} (h400 : n ≤ 400) (hso : so = 0 ∨ so = 1 ∨ so = 2) (hk : (so = 1 ∧ k = 0) ∨ (¬ so = 1 ∧ 0 ≤ k ∧ k ≤ 3)) (hb : ∀ c, c < n → 0 ≤ b c ∧ b c ≤ 255) (e36 : K 12 0 36 = (n : Int)) (e62 : ∀ c, c < n → K 62 0 c = b c) : ∃ M0 M, Cal (d + 11) 179 [vr 12 0, vi so, vi k] (mk K L t) = Res (d + 11) 179 110 [vr 12 0, vi so, vi k, vi 1, vi 8] [] (mk M0 L t) ∧ Cal (d + 10) 168 [vr 12 0] (mk M0 L t) = some (vx, mk M L t) ∧ Fr sPm K M ∧ MCur b n so M 0 ∧ M 12 0 35 = 0 ∧ M 12 0 34 = 0 ∧ M 12 0 46 = -1 ∧ M 12 0 47 = -1 ∧ M 12 0 48 = 0 ∧ M 12 0 49 = 0 ∧ ∀ w, w < 8 → M 61 0 w = 0 := by
  obtain ⟨A, hA⟩ : ∃ A : H3, A = up3 (up3 (up3 (up3 (up3 (up3 (up3 (up3 (up3 K 12 0 41 0) 12 0 45 so) 12 0 37 0) 12 0 34 0) 12 0 35 0) 12 0 48 0) 12 0 49 0) 12 0 46 (-1)) 12 0 47 (-1) := ⟨_, rfl⟩
  have FA : Fr sPm K A := by
    rw [hA]
    exact ((((((((Fr.rfl'.up rfl).up rfl).up rfl).up rfl).up rfl).up rfl).up rfl).up rfl).up rfl
  have a41 : A 12 0 41 = 0 := by rw [hA]; simp [up3]
  have a45 : A 12 0 45 = so := by rw [hA]; simp [up3]
  have a37 : A 12 0 37 = 0 := by rw [hA]; simp [up3]
  have a34 : A 12 0 34 = 0 := by rw [hA]; simp [up3]
  have a35 : A 12 0 35 = 0 := by rw [hA]; simp [up3]
  have a48 : A 12 0 48 = 0 := by rw [hA]; simp [up3]
  have a49 : A 12 0 49 = 0 := by rw [hA]; simp [up3]
  have a46 : A 12 0 46 = -1 := by rw [hA]; simp [up3]
  have a47 : A 12 0 47 = -1 := by rw [hA]; simp [up3]
  obtain ⟨B, r, FB, q, _⟩ := l179 (d := d + 10) (L := L) (t := t) (x1 := so) (x2 := k) 8 0 A rfl
  obtain ⟨M, s, FM, w⟩ := sp168' (d := d) (L := L) (t := t) (so := so) (I := B) (p := 0) h400 hso hb (by rw [FB 12 0 36 rfl, FA 12 0 36 rfl]; exact e36) (fun c hc => by rw [FB 62 0 c rfl, FA 62 0 c rfl]; exact e62 c hc) (by rw [FB 12 0 45 rfl]; exact a45) (by rw [FB 12 0 37 rfl]; exact a37) (Nat.zero_le _)
  refine ⟨B, M, ?_, s, FA.tr ((FB.mo fun r i c k => ?_).tr (FM.mo fun r i c k => ?_)), ⟨⟨?_, ?_⟩, fun c hc => ?_, ?_, w⟩, ?_, ?_, ?_, ?_, ?_, ?_, fun v hv => ?_⟩
  · rcases hk with ⟨k1, k2⟩ | ⟨k1, k2⟩
    · refine Eq.trans (P179_0_0 (d := d + 10) (h1 := k1) (h2 := k2)) ?_
      rw [← hA]
      exact r
    · refine Eq.trans (P179_0_4 (d := d + 10) (h1 := k1) (h2 := by omega) (h3 := k2)) ?_
      rw [← hA]
      exact r
  · unfold sPm at k
    simp only [Bool.or_eq_false_iff] at k
    exact k.1
  · unfold sPm at k
    unfold s37
    simp only [Bool.or_eq_false_iff, Bool.and_eq_false_iff, beq_eq_false_iff_ne, decide_eq_false_iff_not] at k ⊢
    omega
  · rw [FM 12 0 36 rfl, FB 12 0 36 rfl, FA 12 0 36 rfl]; exact e36
  · rw [FM 12 0 41 rfl, FB 12 0 41 rfl]; exact a41
  · rw [FM 62 0 c rfl, FB 62 0 c rfl, FA 62 0 c rfl]; exact e62 c hc
  · rw [FM 12 0 45 rfl, FB 12 0 45 rfl]; exact a45
  · rw [FM 12 0 35 rfl, FB 12 0 35 rfl]; exact a35
  · rw [FM 12 0 34 rfl, FB 12 0 34 rfl]; exact a34
  · rw [FM 12 0 46 rfl, FB 12 0 46 rfl]; exact a46
  · rw [FM 12 0 47 rfl, FB 12 0 47 rfl]; exact a47
  · rw [FM 12 0 48 rfl, FB 12 0 48 rfl]; exact a48
  · rw [FM 12 0 49 rfl, FB 12 0 49 rfl]; exact a49
  · rw [FM 61 0 v rfl]
    exact q v (Nat.zero_le _) hv
end PREP
/-! frames -/
def sTb (t : Nat → Nat) (r i c : Nat) : Bool := (r == 2 && i == t 4 && (c == 5 || c == 6)) || (decide (23 ≤ r ∧ r ≤ 26) && i == t 4) || (r == 5 && i == t 11 && c == 3) || (decide (31 ≤ r ∧ r ≤ 33) && i == t 11) || (r == 9 && i == t 9) || (r == 7 && decide (4 ≤ c ∧ c ≤ 12)) || decide (35 ≤ r ∧ r ≤ 37) || (r == 12 && decide (34 ≤ c ∧ c ≤ 50)) || decide (59 ≤ r ∧ r ≤ 61) || decide (67 ≤ r ∧ r ≤ 69)
section FRS
variable {t : Nat → Nat} {I J : H3}
theorem in_pc (F : Fr sPc I J) : Fr (sTb t) I J := F.mo fun r i c k => by
  unfold sTb at k
  unfold sPc sTok
  simp only [Bool.or_eq_false_iff, Bool.and_eq_false_iff, beq_eq_false_iff_ne, decide_eq_false_iff_not] at k ⊢
  omega
theorem in_pm (F : Fr sPm I J) : Fr (sTb t) I J := F.mo fun r i c k => by
  unfold sTb at k
  unfold sPm
  simp only [Bool.or_eq_false_iff, Bool.and_eq_false_iff, beq_eq_false_iff_ne, decide_eq_false_iff_not] at k ⊢
  omega
theorem in_hd (F : Fr (sHd (t 4)) I J) : Fr (sTb t) I J := F.mo fun r i c k => by
  unfold sTb at k
  unfold sHd sSu sAd
  simp only [Bool.or_eq_false_iff, Bool.and_eq_false_iff, beq_eq_false_iff_ne, decide_eq_false_iff_not] at k ⊢
  omega
theorem in_sd (F : Fr (sSd (t 11)) I J) : Fr (sTb t) I J := F.mo fun r i c k => by
  unfold sTb at k
  unfold sSd sC7
  simp only [Bool.or_eq_false_iff, Bool.and_eq_false_iff, beq_eq_false_iff_ne, decide_eq_false_iff_not] at k ⊢
  omega
theorem in_wy (F : Fr (sWy (t 9)) I J) : Fr (sTb t) I J := F.mo fun r i c k => by
  unfold sTb at k
  unfold sWy sC7
  simp only [Bool.or_eq_false_iff, Bool.and_eq_false_iff, beq_eq_false_iff_ne, decide_eq_false_iff_not] at k ⊢
  omega
theorem in_hw (F : Fr sHw I J) : Fr (sTb t) I J := F.mo fun r i c k => by
  unfold sTb at k
  unfold sHw sSw
  simp only [Bool.or_eq_false_iff, Bool.and_eq_false_iff, beq_eq_false_iff_ne, decide_eq_false_iff_not] at k ⊢
  omega
theorem in_se (F : Fr sSe' I J) : Fr (sTb t) I J := F.mo fun r i c k => by
  unfold sTb at k
  unfold sSe' sM12
  simp only [Bool.or_eq_false_iff, Bool.and_eq_false_iff, beq_eq_false_iff_ne, decide_eq_false_iff_not] at k ⊢
  omega
theorem in_wz (F : Fr sWz I J) : Fr (sTb t) I J := F.mo fun r i c k => by
  unfold sTb at k
  unfold sWz sM12
  simp only [Bool.or_eq_false_iff, Bool.and_eq_false_iff, beq_eq_false_iff_ne, decide_eq_false_iff_not] at k ⊢
  omega
/-- with what is kept -/
def sTp (t : Nat → Nat) (k r i c : Nat) : Bool := sTb t r i c || decide (55 ≤ r ∧ r ≤ 58) || decide (64 ≤ r ∧ r ≤ 66) || decide (70 ≤ r ∧ r ≤ 74) || (r == 12 && c == 33)
theorem sTp_x {k : Nat} (F : Fr (sTp t k) I J) : Fr sTx I J := F.mo fun r i c q => by
  unfold sTx at q
  unfold sTp sTb
  simp only [Bool.or_eq_false_iff, Bool.and_eq_false_iff, beq_eq_false_iff_ne, decide_eq_false_iff_not] at q ⊢
  omega
theorem sTb_p {k : Nat} (F : Fr (sTb t) I J) : Fr (sTp t k) I J := F.mo fun r i c q => by
  unfold sTp at q
  simp only [Bool.or_eq_false_iff] at q
  exact q.1.1.1.1
end FRS
/-! what Rel says of one head, of what is said, of a way -/
def hd1 (I : H3) (x j : Nat) : Prop := hC I x = mH I j ∧ hOk I x ∧ mhOk I j ∧ okH (mH I j)
theorem hC_cgi {I K : H3} {x : Nat} (h : ∀ r, 23 ≤ r → r ≤ 26 → K r x = I r x) : hC K x = hC I x := by
  unfold hC
  rw [h 23 (by decide) (by decide), h 24 (by decide) (by decide), h 25 (by decide) (by decide), h 26 (by decide) (by decide)]
theorem hd1_cg {I K : H3} {x j : Nat} (h1 : ∀ r, 23 ≤ r → r ≤ 26 → K r x = I r x) (h2 : ∀ w, w < 8 → K 56 0 (8 * j + w) = I 56 0 (8 * j + w) ∧ K 57 0 (8 * j + w) = I 57 0 (8 * j + w)) (h3 : ∀ c, c < 800 → K 55 0 (800 * j + c) = I 55 0 (800 * j + c)) (h : hd1 I x j) : hd1 K x j := by
  obtain ⟨a, b, c, e⟩ := h
  have em : mH K j = mH I j := by
    funext w
    unfold mH
    by_cases hw : w < 8
    · rw [if_pos hw, if_pos hw, (h2 w hw).1, (h2 w hw).2]
      rcases c w hw with ⟨c1, c2⟩ | ⟨c1, c2, c3⟩
      · rw [show (I 57 0 (8 * j + w) - I 56 0 (8 * j + w)).toNat = 0 by omega]
        rfl
      · refine slc_cg _ _ fun a h1 h4 => ?_
        unfold mS1 mS2
        have e1 := h3 (2 * a) (by omega)
        have e2 := h3 (2 * a + 1) (by omega)
        rw [← Nat.add_assoc] at e2
        rw [e1, e2]
        exact ⟨rfl, rfl⟩
    · rw [if_neg hw, if_neg hw]
  refine ⟨by rw [hC_cgi h1, em]; exact a, fun w hw => ?_, fun w hw => ?_, by rw [em]; exact e⟩
  · rw [h1 25 (by decide) (by decide), h1 26 (by decide) (by decide)]
    exact b w hw
  · rw [(h2 w hw).1, (h2 w hw).2]
    exact c w hw
def sd1 (I : H3) (x : Nat) : Prop := I 12 0 33 = I 5 x 3 ∧ (0 ≤ I 5 x 3 ∧ I 5 x 3 ≤ 12) ∧ ∀ i : Nat, (i : Int) < I 5 x 3 → (I 64 0 i = I 31 x i ∧ 0 ≤ I 31 x i ∧ I 31 x i < 16) ∧ I 65 0 i = I 32 x i ∧ I 66 0 i = I 33 x i
theorem sd1_cg {I K : H3} {x : Nat} (h1 : K 5 x 3 = I 5 x 3) (h2 : ∀ r, 31 ≤ r → r ≤ 33 → K r x = I r x) (h3 : ∀ r, 64 ≤ r → r ≤ 66 → K r = I r) (h4 : K 12 0 33 = I 12 0 33) (h : sd1 I x) : sd1 K x := by
  unfold sd1
  rw [h1, h2 31 (by decide) (by decide), h2 32 (by decide) (by decide), h2 33 (by decide) (by decide), h3 64 (by decide) (by decide), h3 65 (by decide) (by decide), h3 66 (by decide) (by decide), h4]
  exact h
def wy1 (I : H3) (x y : Nat) : Prop := I 70 0 y = I 9 x 0 ∧ I 71 0 y = I 9 x 1 ∧ I 72 0 y = I 9 x 2 ∧ I 73 0 y = I 9 x 3 ∧ wyOk I x
theorem wy1_cg {I K : H3} {x y : Nat} (h1 : K 9 x = I 9 x) (h2 : ∀ r, 70 ≤ r → r ≤ 73 → K r 0 y = I r 0 y) (h : wy1 I x y) : wy1 K x y := by
  unfold wy1 wyOk
  rw [h1, h2 70 (by decide) (by decide), h2 71 (by decide) (by decide), h2 72 (by decide) (by decide), h2 73 (by decide) (by decide)]
  exact h
def tb4 (K : H3) : Prop := K 7 0 4 = 0 ∧ K 12 0 36 = 0 ∧ K 12 0 43 = K 7 0 11 ∧ K 12 0 50 = K 7 0 12 ∧ ∀ w, w < 8 → 0 ≤ K 60 0 w
theorem tx_any {I K : H3} {t t' : Nat → Nat} {k : Nat} (h : Rel I t) (F : Fr (sTp t k) I K) (b : tb4 K) (pP : reP t') (pH : ∀ j, j < 4 → hd1 K (t' j) j) (pS : sd1 K (t' 10)) (pW : ∀ y, y < 4 → wy1 K (t' (5 + y)) y) : Rel K t' := by
  have big : ∀ r, 75 ≤ r → K r = I r := fun r hr => F.rg fun i c => by
    unfold sTp sTb
    simp only [Bool.or_eq_false_iff, Bool.and_eq_false_iff, beq_eq_false_iff_ne, decide_eq_false_iff_not]
    omega
  obtain ⟨b1, b2, b3, b4, b5⟩ := b
  refine rel_X h (sTp_x F) pP pH pS pW ⟨by rw [b1, b2], by rw [b1]; decide, fun c hc => ?_, b3, b4⟩ ?_
  · rw [b1] at hc
    omega
  · obtain ⟨u1, u2, u3⟩ := h.pU
    unfold reU
    rw [big 87 (by decide), big 90 (by decide), big 91 (by decide), F 12 0 72 rfl]
    exact ⟨fun w w1 w2 => by rw [F 3 w 8 rfl]; exact u1 w w1 w2, u2, b5⟩
section CLOSE
variable {I K : H3} {t : Nat → Nat} {k : Nat}
theorem tb_H (h : Rel I t) (F : Fr (sTp t k) I K) (q : (∀ r i c, 55 ≤ r → r ≤ 57 → K r i c = I r i c)) {j : Nat} (hj : j < 4) : hd1 K (t j) j := by
  have ne : t j ≠ t 4 := fun z => by have := h.pP.1 j 4 (by omega) (by omega) z; omega
  exact hd1_cg (fun r r1 r2 => F.ri fun c => by
    unfold sTp sTb
    simp only [Bool.or_eq_false_iff, Bool.and_eq_false_iff, beq_eq_false_iff_ne, decide_eq_false_iff_not]
    omega) (fun w _ => ⟨q _ _ _ (by decide) (by decide), q _ _ _ (by decide) (by decide)⟩) (fun c _ => q _ _ _ (by decide) (by decide)) (h.pH j hj)
theorem tb_S (h : Rel I t) (F : Fr (sTp t k) I K) (q : (∀ r, 64 ≤ r → r ≤ 66 → K r = I r)) (q2 : K 12 0 33 = I 12 0 33) : sd1 K (t 10) := by
  have ne : t 10 ≠ t 11 := h.pP.2.2
  exact sd1_cg (F 5 (t 10) 3 (by simp [sTp, sTb, ne])) (fun r r1 r2 => F.ri fun c => by
    unfold sTp sTb
    simp only [Bool.or_eq_false_iff, Bool.and_eq_false_iff, beq_eq_false_iff_ne, decide_eq_false_iff_not]
    omega) q q2 h.pS
theorem tb_W (h : Rel I t) (F : Fr (sTp t k) I K) {y : Nat} (hy : y < 4) (q : ∀ r, 70 ≤ r → r ≤ 73 → K r 0 y = I r 0 y) : wy1 K (t (5 + y)) y := by
  have ne : t (5 + y) ≠ t 9 := fun z => by have := h.pP.2.1 y 4 (by omega) (by omega) z; omega
  exact wy1_cg (F.ri fun c => by
    unfold sTp sTb
    simp only [Bool.or_eq_false_iff, Bool.and_eq_false_iff, beq_eq_false_iff_ne, decide_eq_false_iff_not]
    omega) q (h.pW y hy)
/-- nothing is kept -/
theorem tx_none (h : Rel I t) (F : Fr (sTb t) I K) (b : tb4 K) : Rel K t := by
  have G : Fr (sTp t 0) I K := sTb_p F
  have z : ∀ r i c, (55 ≤ r ∧ r ≤ 57) ∨ (64 ≤ r ∧ r ≤ 66) ∨ (70 ≤ r ∧ r ≤ 73) → K r i c = I r i c := fun r i c hr => F r i c (by
    unfold sTb
    simp only [Bool.or_eq_false_iff, Bool.and_eq_false_iff, beq_eq_false_iff_ne, decide_eq_false_iff_not]
    omega)
  exact tx_any h G b h.pP (fun j hj => tb_H h G (fun r i c r1 r2 => z r i c (Or.inl ⟨r1, r2⟩)) hj) (tb_S h G (fun r r1 r2 => funext fun i => funext fun c => z r i c (Or.inr (Or.inl ⟨r1, r2⟩))) (F 12 0 33 rfl)) (fun y hy => tb_W h G hy (fun r r1 r2 => z r 0 y (Or.inr (Or.inr ⟨r1, r2⟩))))
theorem reP_h (hk : k < 4) (h : reP t) : reP (ut (ut t k (t 4)) 4 (t k)) := by
  have e : ∀ a, ut (ut t k (t 4)) 4 (t k) a = t (if a = 4 then k else if a = k then 4 else a) := fun a => by
    unfold ut
    by_cases p : a = 4
    · rw [if_pos p, if_pos p]
    · rw [if_neg p, if_neg p]
      by_cases q : a = k
      · rw [if_pos q, if_pos q]
      · rw [if_neg q, if_neg q]
  have o : ∀ a, 4 < a → ut (ut t k (t 4)) 4 (t k) a = t a := fun a ha => by rw [ut_n (by omega), ut_n (by omega)]
  refine ⟨fun a b ha hb z => ?_, fun a b ha hb z => ?_, ?_⟩
  · rw [e a, e b] at z
    have := h.1 _ _ (by (repeat' split) <;> omega) (by (repeat' split) <;> omega) z
    revert this
    (repeat' split) <;> intro this <;> omega
  · rw [o _ (by omega), o _ (by omega)] at z
    exact h.2.1 a b ha hb z
  · rw [o _ (by omega), o _ (by omega)]
    exact h.2.2
theorem reP_s (h : reP t) : reP (ut (ut t 10 (t 11)) 11 (t 10)) := by
  have o : ∀ a, a < 10 → ut (ut t 10 (t 11)) 11 (t 10) a = t a := fun a ha => by rw [ut_n (by omega), ut_n (by omega)]
  refine ⟨fun a b ha hb z => ?_, fun a b ha hb z => ?_, ?_⟩
  · rw [o _ (by omega), o _ (by omega)] at z
    exact h.1 a b ha hb z
  · rw [o _ (by omega), o _ (by omega)] at z
    exact h.2.1 a b ha hb z
  · rw [ut_e, ut_n (show (10 : Nat) ≠ 11 by decide), ut_e]
    exact fun z => h.2.2 z.symm
theorem reP_w (hk : k < 4) (h : reP t) : reP (ut (ut t (5 + k) (t 9)) 9 (t (5 + k))) := by
  have e : ∀ a, ut (ut t (5 + k) (t 9)) 9 (t (5 + k)) (5 + a) = t (5 + (if a = 4 then k else if a = k then 4 else a)) := fun a => by
    unfold ut
    by_cases p : a = 4
    · rw [if_pos (by omega), if_pos p]
    · rw [if_neg (by omega), if_neg p]
      by_cases q : a = k
      · rw [if_pos (by omega), if_pos q]
      · rw [if_neg (by omega), if_neg q]
  have o : ∀ a, a < 5 ∨ 9 < a → ut (ut t (5 + k) (t 9)) 9 (t (5 + k)) a = t a := fun a ha => by rw [ut_n (by omega), ut_n (by omega)]
  refine ⟨fun a b ha hb z => ?_, fun a b ha hb z => ?_, ?_⟩
  · rw [o _ (by omega), o _ (by omega)] at z
    exact h.1 a b ha hb z
  · rw [e a, e b] at z
    have := h.2.1 _ _ (by (repeat' split) <;> omega) (by (repeat' split) <;> omega) z
    revert this
    (repeat' split) <;> intro this <;> omega
  · rw [o _ (by omega), o _ (by omega)]
    exact h.2.2
end CLOSE
