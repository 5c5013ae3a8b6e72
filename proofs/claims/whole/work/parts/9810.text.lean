/-! a text is taken, on both sides -/
theorem some_inj2 {a b : Int} {J K L : H3} {t : Nat → Nat} (e : (some (vi a, mk J L t) : Option (MV × MS)) = some (vi b, mk K L t)) : a = b ∧ J = K :=
  ⟨congrArg (fun r : MV × MS => match r.1 with | .inl x => x | _ => 0) (Option.some.inj e), congrArg (fun r : MV × MS => r.2.1) (Option.some.inj e)⟩
theorem slc_tk {s v : Nat → Int} : ∀ (m n b : Nat), m ≤ n → (slc s v b n).take m = slc s v b m
  | 0, n, b, h => by rw [List.take_zero]; rfl
  | m + 1, 0, b, h => by omega
  | m + 1, n + 1, b, h => by
    show (s b, v b) :: (slc s v (b + 1) n).take m = (s b, v b) :: slc s v (b + 1) m
    rw [slc_tk m n (b + 1) (by omega)]
theorem slc_sub {s v : Nat → Int} : ∀ (a m n b : Nat), a + m ≤ n → ((slc s v b n).drop a).take m = slc s v (b + a) m
  | 0, m, n, b, h => by
    rw [List.drop_zero]
    exact slc_tk m n b (by omega)
  | a + 1, m, 0, b, h => by omega
  | a + 1, m, n + 1, b, h => by
    show ((slc s v (b + 1) n).drop a).take m = _
    rw [slc_sub a m n (b + 1) (by omega), show b + 1 + a = b + (a + 1) by omega]
theorem hd1_new {J J' G : H3} {D k : Nat} {X : List (Int × Int)} {ln : Nat} (hc : StpC J D X) (hm : StpM J' X) (hd : DL J J' D X ln) (h4 : X.length ≤ 400) (g1 : ∀ r, 23 ≤ r → r ≤ 26 → G r D = J r D) (g2 : ∀ v, v < 8 → G 56 0 (8 * k + v) = J' 60 0 v ∧ G 57 0 (8 * k + v) = J' 61 0 v) (g3 : ∀ v, v < 2 * X.length → G 55 0 (800 * k + v) = J' 59 0 v) : hd1 G D k := by
  have key : ∀ w, w < 8 → (hC G D w = [] ∧ mH G k w = []) ∨ (hC G D w = mH G k w ∧ okL (mH G k w) 0 = true) := fun w hw => by
    unfold hC mH
    rw [if_pos hw, if_pos hw, g1 23 (by decide) (by decide), g1 24 (by decide) (by decide), g1 25 (by decide) (by decide), g1 26 (by decide) (by decide), (g2 w hw).1, (g2 w hw).2]
    obtain ⟨p, c⟩ := hd.1 w hw
    rcases c with ⟨c1, c2, c3⟩ | ⟨a, z, c1, c2, c3, c4, c5, c6, c7⟩
    · left
      rw [c1, c2, c3, show (0 - J' 60 0 w).toNat = 0 by omega]
      exact ⟨rfl, rfl⟩
    · right
      have ez : ((z : Int) - (a : Int)).toNat = z - a := by omega
      rw [c1, c2, c3, c4, ez, Int.toNat_natCast]
      have s1 := slc_sub (s := J 23 D) (v := J 24 D) a (z - a) X.length 0 (by omega)
      rw [hc.2, Nat.zero_add] at s1
      have s2 := slc_sub (s := fS1 J') (v := fS2 J') a (z - a) X.length 0 (by omega)
      rw [hm.2, Nat.zero_add] at s2
      have s3 : slc (mS1 G k) (mS2 G k) a (z - a) = slc (fS1 J') (fS2 J') a (z - a) := slc_cg _ _ fun c h1 h2 => by
        unfold mS1 mS2 fS1 fS2
        have e1 := g3 (2 * c) (by omega)
        have e2 := g3 (2 * c + 1) (by omega)
        rw [← Nat.add_assoc] at e2
        rw [e1, e2]
        exact ⟨rfl, rfl⟩
      rw [s3, ← s1, ← s2]
      exact ⟨rfl, c7⟩
  refine ⟨?_, fun w hw => ?_, fun w hw => ?_, fun w hw => ?_⟩
  · funext w
    by_cases hw : w < 8
    · rcases key w hw with ⟨a, b⟩ | ⟨a, b⟩
      · rw [a, b]
      · exact a
    · unfold hC mH
      rw [if_neg hw, if_neg hw]
  · rw [g1 25 (by decide) (by decide), g1 26 (by decide) (by decide)]
    obtain ⟨p, c⟩ := hd.1 w hw
    rcases c with ⟨c1, c2, c3⟩ | ⟨a, z, c1, c2, c3, c4, c5, c6, c7⟩ <;> omega
  · rw [(g2 w hw).1, (g2 w hw).2]
    obtain ⟨p, c⟩ := hd.1 w hw
    rcases c with ⟨c1, c2, c3⟩ | ⟨a, z, c1, c2, c3, c4, c5, c6, c7⟩ <;> omega
  · rcases key w hw with ⟨a, b⟩ | ⟨a, b⟩
    · exact Or.inl b
    · exact Or.inr b
def TxB (so k : Int) : Prop := ∀ (d : Nat) (I L : H3) (t : Nat → Nat), Rel I t → ∃ (x : Int) (C K : H3) (t1 : Nat → Nat), Cal (d + 50) 78 [vr 11 0, vi so, vi k] (mk I L t) = some (vi x, mk C L t1) ∧ Cal (d + 50) 179 [vr 12 0, vi so, vi k] (mk C L t1) = some (vi x, mk K L t1) ∧ Rel K t1
/-- how the tape begins -/
theorem Rel.tape {I : H3} {t : Nat → Nat} (h : Rel I t) : ∃ n : Nat, n ≤ 400 ∧ I 7 0 4 = (n : Int) ∧ I 12 0 36 = (n : Int) ∧ (∀ c, c < n → I 62 0 c = I 34 0 c) ∧ ∀ c, c < n → 0 ≤ I 34 0 c ∧ I 34 0 c ≤ 255 := by
  obtain ⟨b1, ⟨b2, b3⟩, b4, b5, b6⟩ := h.pB
  exact ⟨(I 7 0 4).toNat, by omega, by omega, by omega, fun c hc => (b4 c (by omega)).1, fun c hc => (b4 c (by omega)).2⟩
/-- the marks that the model leaves -/
def mkG (J : H3) (x : Int) : H3 := up3 (up3 (up3 J 12 0 36 0) 12 0 43 (J 12 0 41)) 12 0 50 x
theorem mkG_f {J : H3} {x : Int} : Fr (fun r _ c => r == 12 && (c == 36 || c == 43 || c == 50)) J (mkG J x) := ((Fr.rfl'.up rfl).up rfl).up rfl
theorem mkG_36 {J : H3} {x : Int} : mkG J x 12 0 36 = 0 := by
  unfold mkG
  rw [up_s (by decide), up_s (by decide), up_e]
theorem mkG_43 {J : H3} {x : Int} : mkG J x 12 0 43 = J 12 0 41 := by
  unfold mkG
  rw [up_s (by decide), up_e]
theorem mkG_50 {J : H3} {x : Int} : mkG J x 12 0 50 = x := up_e
theorem in_g {t : Nat → Nat} {I J : H3} (F : Fr (fun r _ c => r == 12 && (c == 36 || c == 43 || c == 50)) I J) : Fr (sTb t) I J := F.mo fun r i c k => by
  unfold sTb at k
  simp only [Bool.or_eq_false_iff, Bool.and_eq_false_iff, beq_eq_false_iff_ne, decide_eq_false_iff_not] at k ⊢
  omega
theorem in_c4 {t : Nat → Nat} {I J : H3} (F : Fr (fun r _ c => r == 7 && c == 4) I J) : Fr (sTb t) I J := F.mo fun r i c k => by
  unfold sTb at k
  simp only [Bool.or_eq_false_iff, Bool.and_eq_false_iff, beq_eq_false_iff_ne, decide_eq_false_iff_not] at k ⊢
  omega
theorem text_head {k : Nat} (hk : k < 4) : TxB 0 (k : Int) := fun d I L t h => by
  obtain ⟨n, n4, en, en', e62, hb⟩ := h.tape
  have kz : ((0 : Int) = 1 ∧ (k : Int) = 0) ∨ (¬ (0 : Int) = 1 ∧ 0 ≤ (k : Int) ∧ (k : Int) ≤ 3) := Or.inr ⟨by decide, by omega⟩
  have k3 : 0 ≤ (k : Int) ∧ (k : Int) ≤ 3 := by omega
  obtain ⟨J1, A, N, r1, r2, FA, hc, hT, ef1, ef2⟩ := c_prep (d := d + 39) (L := L) (t := t) n4 en hb
  obtain ⟨_, M', _, _, FM', hm', m35', m34', _, _, _, _, m61'⟩ := m_prep (d := d + 39) (L := L) (t := t) (K := I) (b := I 34 0) (so := 0) (k := (k : Int)) n4 (Or.inl rfl) kz hb en' e62
  have h60 := h.pU.2.2
  obtain ⟨ok, J, J0', s, _, FJ, _, out0⟩ := head_ok (e := d + 19) (e' := d + 9) (t := t) (t' := t) hT L L A M' hc hm' m35' m34' (fun w hw => by rw [FM' 60 0 w rfl]; exact h60 w hw) m61'
  obtain ⟨C, hC⟩ : ∃ C : H3, C = up3 J 7 0 4 0 := ⟨_, rfl⟩
  have FC1 : Fr (fun r _ c => r == 7 && c == 4) J C := by
    rw [hC]
    exact Fr.rfl'.up rfl
  have FIC : Fr (sTb t) I C := ((in_pc FA).tr (in_hd FJ)).tr (in_c4 FC1)
  have c4 : C 7 0 4 = 0 := by rw [hC, up_e]
  have c36 : C 12 0 36 = (n : Int) := by rw [FC1 12 0 36 rfl, FJ 12 0 36 rfl, FA 12 0 36 rfl]; exact en'
  have c62 : ∀ c, c < n → C 62 0 c = I 34 0 c := fun c hc => by rw [FC1 62 0 c rfl, FJ 62 0 c rfl, FA 62 0 c rfl]; exact e62 c hc
  have c60 : ∀ w, w < 8 → 0 ≤ C 60 0 w := fun w hw => by rw [FC1 60 0 w rfl, FJ 60 0 w rfl, FA 60 0 w rfl]; exact h60 w hw
  have again : ∀ t1 : Nat → Nat, ∃ M0 M J', Cal (d + 50) 179 [vr 12 0, vi 0, vi (k : Int)] (mk C L t1) = Res (d + 50) 179 110 [vr 12 0, vi 0, vi (k : Int), vi 1, vi 8] [] (mk M0 L t1) ∧ Cal (d + 49) 168 [vr 12 0] (mk M0 L t1) = some (vx, mk M L t1) ∧ Cal (d + 49) 178 [vr 12 0] (mk M L t1) = some (vi ok, mk J' L t1) ∧ Fr sPm C M ∧ Fr sHw M J' ∧ M 12 0 45 = 0 ∧ ((ok = 1 ∧ Rh J J' (t 4)) ∨ (ok = 0 ∧ FlH (t 4) J J')) := fun t1 => by
    obtain ⟨M0, M, q1, q2, FM, hm, m35, m34, _, _, _, _, m61⟩ := m_prep (d := d + 39) (L := L) (t := t1) (K := C) (b := I 34 0) (so := 0) (k := (k : Int)) n4 (Or.inl rfl) kz hb c36 c62
    obtain ⟨ok2, J2, J', s2, s', FJ2, FJ', out⟩ := head_ok (e := d + 19) (e' := d + 9) (t := t) (t' := t1) hT L L A M hc hm m35 m34 (fun w hw => by rw [FM 60 0 w rfl]; exact c60 w hw) m61
    obtain ⟨z1, z2⟩ := some_inj2 (s.symm.trans s2)
    subst z1
    subst z2
    exact ⟨M0, M, J', q1, q2, s', FM, FJ', hm.2.2.1, out⟩
  rcases out0 with ⟨rfl, _⟩ | ⟨rfl, _⟩
  · obtain ⟨M0, M, J', q1, q2, s', FM, FJ', m45, out⟩ := again (ut (ut t k (t 4)) 4 (t k))
    rcases out with ⟨_, ⟨o1, o2, o3⟩, X, ln, hX, hX', hd, hl⟩ | ⟨z, _⟩
    · have FG := mkG_f (J := J') (x := -1)
      obtain ⟨G, r3, FK, g2, g3⟩ := sp180h (d := d + 49) (L := L) (t := ut (ut t k (t 4)) 4 (t k)) (I := mkG J' (-1)) (k := k) (s := X.length) hk hl (by rw [FG 12 0 45 rfl, FJ' 12 0 45 rfl]; exact m45) (by rw [FG 12 0 35 rfl]; exact hX'.1)
      have ans : G 12 0 34 = J 2 (t 4) 6 := by
        rw [FK 12 0 34 rfl, FG 12 0 34 rfl, hd.2.2, hd.2.1]
      have rr := P179_110_1 (d := d + 49) (x1 := 0) (x2 := (k : Int)) (x3 := 1) (x4 := 8) (h1 := by decide) (c1 := q2) (c2 := s') (c3 := r3)
      rw [ans] at rr
      have FB : Fr (sTb t) I (mkG J' (-1)) := ((FIC.tr (in_pm FM)).tr (in_hw FJ')).tr (in_g FG)
      have FI : Fr (sTp t k) I G := (sTb_p FB).tr (FK.mo fun r i c q => by
        unfold sTp at q
        unfold sKh sK1 sK2
        simp only [Bool.or_eq_false_iff, Bool.and_eq_false_iff, beq_eq_false_iff_ne, decide_eq_false_iff_not] at q ⊢
        omega)
      have o : ∀ a, a ≠ k → a ≠ 4 → ut (ut t k (t 4)) 4 (t k) a = t a := fun a h1 h2 => by rw [ut_n h2, ut_n h1]
      refine ⟨J 2 (t 4) 6, C, G, ut (ut t k (t 4)) 4 (t k), ?_, Eq.trans q1 rr, tx_any h FI ⟨?_, ?_, ?_, ?_, fun w hw => ?_⟩ (reP_h hk h.pP) (fun j hj => ?_) ?_ (fun y hy => ?_)⟩
      · rw [hC]
        exact P78_0_0 (d := d + 49) (c1 := P49_0_1 (d := d + 48) (c1 := r1) (c2 := r2) (h1 := rfl) (h2 := k3) (c3 := s) (c4 := sp50 hk))
      · rw [FK 7 0 4 rfl, FG 7 0 4 rfl, FJ' 7 0 4 rfl, FM 7 0 4 rfl]; exact c4
      · rw [FK 12 0 36 rfl]; exact mkG_36
      · rw [FK 12 0 43 rfl, mkG_43, FK 7 0 11 rfl, FG 7 0 11 rfl, FJ' 7 0 11 rfl, FM 7 0 11 rfl, FC1 7 0 11 rfl, o1, o3]
      · rw [FK 12 0 50 rfl, mkG_50, FK 7 0 12 rfl, FG 7 0 12 rfl, FJ' 7 0 12 rfl, FM 7 0 12 rfl, FC1 7 0 12 rfl, o2]
      · rw [FK 60 0 w rfl, FG 60 0 w rfl]
        exact (hd.1 w hw).1
      · by_cases e : j = k
        · subst e
          rw [ut_n (show j ≠ 4 by omega), ut_e]
          have cl : ∀ r, 23 ≤ r → r ≤ 26 → G r (t 4) = J r (t 4) := fun r h1 h2 => funext fun c => by
            rw [FK r (t 4) c (by unfold sKh sK1 sK2; simp; omega), FG r (t 4) c (by simp; omega), FJ' r (t 4) c (by unfold sHw sSw; simp; omega), FM r (t 4) c (by unfold sPm; simp; omega), FC1 r (t 4) c (by simp; omega)]
          refine hd1_new hX hX' hd hl cl (fun v hv => ?_) (fun v hv => ?_)
          · rw [(g2 v hv).1, (g2 v hv).2, FG 60 0 v rfl, FG 61 0 v rfl]
            exact ⟨rfl, rfl⟩
          · rw [g3 v hv, FG 59 0 v rfl]
        · rw [o j e (by omega)]
          have ne : t j ≠ t 4 := fun z => by have := h.pP.1 j 4 (by omega) (by omega) z; omega
          refine hd1_cg (fun r r1 r2 => funext fun c => ?_) (fun w hw => ?_) (fun c hc => ?_) (h.pH j hj)
          · rw [FK r (t j) c (by unfold sKh sK1 sK2; simp; omega)]
            refine FB r (t j) c ?_
            unfold sTb
            simp only [Bool.or_eq_false_iff, Bool.and_eq_false_iff, beq_eq_false_iff_ne, decide_eq_false_iff_not]
            omega
          · rw [FK 56 0 (8 * j + w) (by unfold sKh sK1 sK2; simp; omega), FK 57 0 (8 * j + w) (by unfold sKh sK1 sK2; simp; omega)]
            exact ⟨FB 56 0 _ rfl, FB 57 0 _ rfl⟩
          · rw [FK 55 0 (800 * j + c) (by unfold sKh sK1 sK2; simp; omega)]
            exact FB 55 0 _ rfl
      · rw [o 10 (by omega) (by omega)]
        exact tb_S h FI (fun r r1 r2 => funext fun i => funext fun c => by
          rw [FK r i c (by unfold sKh sK1 sK2; simp; omega)]
          refine FB r i c ?_
          unfold sTb
          simp only [Bool.or_eq_false_iff, Bool.and_eq_false_iff, beq_eq_false_iff_ne, decide_eq_false_iff_not]
          omega) (by rw [FK 12 0 33 rfl]; exact FB 12 0 33 rfl)
      · rw [o (5 + y) (by omega) (by omega)]
        exact tb_W h FI hy (fun r r1 r2 => by
          rw [FK r 0 y (by unfold sKh sK1 sK2; simp; omega)]
          refine FB r 0 y ?_
          unfold sTb
          simp only [Bool.or_eq_false_iff, Bool.and_eq_false_iff, beq_eq_false_iff_ne, decide_eq_false_iff_not]
          omega)
    · cases z
  · obtain ⟨M0, M, J', q1, q2, s', FM, FJ', m45, out⟩ := again t
    rcases out with ⟨z, _⟩ | ⟨_, fl, f60⟩
    · cases z
    · have FG := mkG_f (J := J') (x := J' 12 0 42)
      refine ⟨-1, C, mkG J' (J' 12 0 42), t, ?_, Eq.trans q1 (P179_110_2 (d := d + 49) (h1 := by decide) (c1 := q2) (c2 := s')), tx_none h (((FIC.tr (in_pm FM)).tr (in_hw FJ')).tr (in_g FG)) ⟨?_, mkG_36, ?_, ?_, fun w hw => ?_⟩⟩
      · rw [hC]
        exact P78_0_0 (d := d + 49) (c1 := P49_0_2 (d := d + 48) (c1 := r1) (c2 := r2) (h1 := rfl) (h2 := k3) (c3 := s))
      · rw [FG 7 0 4 rfl, FJ' 7 0 4 rfl, FM 7 0 4 rfl]; exact c4
      · rw [mkG_43, FG 7 0 11 rfl, FJ' 7 0 11 rfl, FM 7 0 11 rfl, FC1 7 0 11 rfl]; exact fl.1.symm
      · rw [mkG_50, FG 7 0 12 rfl, FJ' 7 0 12 rfl, FM 7 0 12 rfl, FC1 7 0 12 rfl]; exact fl.2.1.symm
      · rw [FG 60 0 w rfl]
        exact f60 w hw
