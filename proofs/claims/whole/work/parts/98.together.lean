/-! together -/
def sTc (w n r i c : Nat) : Bool := ((r == 1 || r == 22) && i == n) || r == 13 || r == 16 || r == 27 || (r == 28 && i == w) || r == 46 || r == 47 || (r == 11 && (c == 10 || c == 11 || c == 15))
def cmW (I : H3) (t : Nat → Nat) (w r : Nat) : Nat → Int := cmP (I 22) (npW I t w (rv I r))
def TgC (I J : H3) (t : Nat → Nat) (w r n : Nat) : Prop :=
  Fr (sTc w n) I J ∧ (J 1 n 1 = I 1 (I 3 w 4).toNat 1 ∧ J 1 n 2 = (w : Int)) ∧ c16 (J 22 n) = cmW I t w r ∧ (c16 (J 28 w) = pulP (aW I t w 3 (gvW I w)) (cmW I t w r) (I 28 w) ∧ R31 (J 28 w)) ∧ (∀ c, c ≠ (I 11 0 15).toNat → J 46 0 c = I 46 0 c ∧ J 47 0 c = I 47 0 c) ∧ (J 46 0 (I 11 0 15).toNat = -1 - (n : Int) ∧ J 47 0 (I 11 0 15).toNat = I 11 0 16) ∧ J 11 0 15 = I 11 0 15 + 1 ∧ J 11 0 10 = ((n + 1 : Nat) : Int) ∧ J 11 0 11 = I 11 0 11 + 1
section TOGC
variable {d : Nat} {I L : H3} {t : Nat → Nat} {w r n : Nat}
theorem sp89 (h : Rel I t) (hw : (w : Int) < I 11 0 12) (hr : r < 6) (hh : hasF (rv I r)) (hn : I 11 0 10 = (n : Int)) (h120 : n < 120) (hdc : I 11 0 15 < 220) :
    ∃ J, Cal (d + 5) 89 [vr 11 0, vi (w : Int), vi (r : Int)] (mk I L t) = some (vi (n : Int), mk J L t) ∧ TgC I J t w r n := by
  have hf := h.pF.1
  have mb := h.pM.2.1
  have m := h.mn.2 w hw
  have w20 : w < 20 := by omega
  have rr := (h.rw' hr).1
  have hmd := h.made
  have hds := h.ds.1
  obtain ⟨dc, edc⟩ : ∃ dc : Nat, I 11 0 15 = (dc : Int) := ⟨(I 11 0 15).toNat, by omega⟩
  obtain ⟨md, emd⟩ : ∃ md : Nat, I 11 0 11 = (md : Int) := ⟨(I 11 0 11).toNat, by omega⟩
  have rm := (h.pM.2.2 w hw).2.2.1
  obtain ⟨sn, esn⟩ : ∃ sn : Nat, I 3 w 4 = (sn : Int) := ⟨(I 3 w 4).toNat, by omega⟩
  have snn : sn < n := by omega
  have cR : R31 (cmW I t w r) := cmP_in h.fc (fun p _ => nbP_in rr.2 hh)
  have c1 : Cal (d + 4) 27 [vr 4 r] (mk I L t) = some (vi (cntP (rv I r)), mk I L t) := sp27 rr
  have cp := cntP_pos.mpr hh
  obtain ⟨J2, c2, F2, v2⟩ := s122 (d := d + 1) (L := L) (r := r) m.1 h.fc rr m.2.1 hh
  obtain ⟨A, hA⟩ : ∃ A : H3, A = cpI (up3 (up3 J2 1 n 1 (I 1 sn 1)) 1 n 2 (w : Int)) 16 0 0 22 n 0 16 := ⟨_, rfl⟩
  have hA' : A = sr (up3 (up3 J2 1 n 1 (I 1 sn 1)) 1 n 2 (w : Int)) 22 n 16 (J2 16 0) := by
    rw [hA, cp_sr, up_r (show (16 : Nat) ≠ 1 by decide), up_r (show (16 : Nat) ≠ 1 by decide)]
  have FA : Fr (fun r i _ => (r == 1 || r == 22) && i == n) J2 A := by
    rw [hA']
    exact ((Fr.rfl'.up (by simp)).up (by simp)).wr (fun c _ => by simp)
  have F : Fr (fun r i c => sCm r i c || ((r == 1 || r == 22) && i == n)) I A := (F2.mo (fun r i c k => by
    simp only [Bool.or_eq_false_iff] at k
    exact k.1)).tr (FA.mo (fun r i c k => by
    simp only [Bool.or_eq_false_iff] at k
    simp only [Bool.or_eq_false_iff, k.2]))
  have a11 : A 1 n 1 = I 1 sn 1 := by rw [hA', sr_r (show (1 : Nat) ≠ 22 by decide), up_s (by decide), up_e]
  have a12 : A 1 n 2 = (w : Int) := by rw [hA', sr_r (show (1 : Nat) ≠ 22 by decide), up_e]
  have a22 : c16 (A 22 n) = cmW I t w r := by
    rw [hA', sr_c16]
    exact v2
  have e3 : A 3 = I 3 := F.rg (fun _ _ => rfl)
  have e23 : A 23 = I 23 := F.rg (fun _ _ => rfl)
  have e24 : A 24 = I 24 := F.rg (fun _ _ => rfl)
  have e25 : A 25 = I 25 := F.rg (fun _ _ => rfl)
  have e26 : A 26 = I 26 := F.rg (fun _ _ => rfl)
  have e28 : A 28 = I 28 := F.rg (fun _ _ => rfl)
  have eA : aW A t w = aW I t w := by
    unfold aW
    rw [hC_cg e23 e24 e25 e26, e3]
  obtain ⟨J3, c3, F3⟩ := s114 (d := d + 2) (L := L) (k := 3) (by decide) (mOk_cg e3 e23 e24 e25 e26 m.1)
  rw [eA, gvW_cg e3] at c3
  have j22 : J3 22 = A 22 := F3.rg (fun _ _ => rfl)
  have j28 : J3 28 = I 28 := (F3.rg (fun _ _ => rfl)).trans e28
  have c4 := s23 (d := d + 4) (w := w) (I := J3) (L := L) (t := t) (r1 := 22) (i1 := n) (o := cmW I t w r) (b := aW I t w 3 (gvW I w)) (by rw [j28]; exact m.2.1) rfl (fun k f c hc => by
    show sr J3 28 w k f 22 _ c = _
    rw [sr_r (by decide), j22]
    have := congrFun a22 c
    rwa [c16_lt hc] at this)
  rw [j28] at c4
  obtain ⟨D, hD⟩ : ∃ D : H3, D = sr J3 28 w 16 (pulP (aW I t w 3 (gvW I w)) (cmW I t w r) (I 28 w)) := ⟨_, rfl⟩
  rw [← hD] at c4
  have FD : Fr (fun r i _ => r == 28 && i == w) J3 D := by
    rw [hD]
    exact Fr.rfl'.wr (fun c _ => by simp)
  have d11 : ∀ c, D 11 0 c = I 11 0 c := fun c => by rw [FD 11 0 c rfl, F3 11 0 c rfl, F 11 0 c rfl]
  have ew : w32 (-1 - (n : Int)) = -1 - (n : Int) := w32_s (by omega)
  have c5 := P139_0_0 (d := d + 4) (x1 := -1 - (n : Int)) (I := D) (L := L) (t := t) (h1 := by rw [d11, edc]; omega) (g1 := by rw [d11, edc]; omega)
  rw [d11, d11, edc, Int.toNat_natCast, lem_w32k (k := dc) (by omega)] at c5
  obtain ⟨E, hE⟩ : ∃ E : H3, E = up3 (up3 (up3 D 46 0 dc (-1 - (n : Int))) 47 0 dc (I 11 0 16)) 11 0 15 ((dc + 1 : Nat) : Int) := ⟨_, rfl⟩
  rw [← hE] at c5
  have FE : Fr (fun r _ c => r == 46 || r == 47 || (r == 11 && c == 15)) D E := by
    rw [hE]
    exact ((Fr.rfl'.up rfl).up rfl).up rfl
  have e10 : E 11 0 10 = (n : Int) := by rw [FE 11 0 10 rfl, d11, hn]
  have e11 : E 11 0 11 = (md : Int) := by rw [FE 11 0 11 rfl, d11, emd]
  have g2 : 0 ≤ (w : Int) ∧ (w : Int) < I 11 0 12 := by omega
  have j2n : J2 11 0 10 = (n : Int) := by rw [F2 11 0 10 rfl, hn]
  have j2s : J2 3 w 4 = (sn : Int) := by rw [F2 3 w 4 rfl, esn]
  have j2k : J2 1 sn 1 = I 1 sn 1 := F2 1 sn 1 rfl
  have c := P89_0_3 (d := d + 3) (x1 := (w : Int)) (x2 := (r : Int)) (g1 := by omega) (h1 := g2) (h2 := by omega) (c1 := by rw [Int.toNat_natCast]; exact c1) (h3 := by omega) (h4 := by rw [hn]; omega) (g2 := by omega) (c2 := by rw [Int.toNat_natCast, Int.toNat_natCast]; exact c2) (g3 := by rw [j2n]; omega) (g4 := by rw [Int.toNat_natCast, j2s]; omega) (c3 := by rw [Int.toNat_natCast, j2n, j2s, Int.toNat_natCast, Int.toNat_natCast, j2k, ← hA]; exact c3) (c4 := by rw [Int.toNat_natCast, j2n, Int.toNat_natCast]; exact c4) (c5 := by rw [d11, hn, ew]; exact c5)
  rw [e10, lem_w32k (k := n) (by omega), w32_m2 (k := n) (by omega), e11, lem_w32k (k := md) (by omega)] at c
  have K0 : ∀ r, r ≠ 11 → up3 (up3 E 11 0 10 ((n + 1 : Nat) : Int)) 11 0 11 ((md + 1 : Nat) : Int) r = E r := fun r hr => by rw [up_r hr, up_r hr]
  refine ⟨_, c, ?_, ⟨?_, ?_⟩, ?_, ⟨?_, ?_⟩, fun c hc => ?_, ⟨?_, ?_⟩, ?_, ?_, ?_⟩
  · refine ((((F.mo (fun r i c k => ?_)).tr (F3.mo (fun r i c k => ?_))).tr (FD.mo (fun r i c k => ?_))).tr (FE.mo (fun r i c k => ?_))).up (by simp [sTc]) |>.up (by simp [sTc])
    all_goals
      unfold sTc at k
      try unfold sCm
      try unfold sAsk
      simp only [Bool.or_eq_false_iff, Bool.and_eq_false_iff, beq_eq_false_iff_ne] at k ⊢
      omega
  · rw [K0 1 (by decide), FE 1 n 1 rfl, FD 1 n 1 rfl, F3 1 n 1 rfl, a11, esn, Int.toNat_natCast]
  · rw [K0 1 (by decide), FE 1 n 2 rfl, FD 1 n 2 rfl, F3 1 n 2 rfl, a12]
  · rw [K0 22 (by decide), FE.rg (r := 22) (fun _ _ => rfl), FD.rg (r := 22) (fun _ _ => rfl), j22, a22]
  · rw [K0 28 (by decide), FE.rg (r := 28) (fun _ _ => rfl), hD, sr_c16, c16_pul]
  · rw [K0 28 (by decide), FE.rg (r := 28) (fun _ _ => rfl), hD]
    intro j hj
    rw [sr_lt hj]
    exact pul_in aW_3 cR m.2.1 j hj
  · rw [edc, Int.toNat_natCast] at hc
    rw [K0 46 (by decide), K0 47 (by decide), hE, up_r (show (46 : Nat) ≠ 11 by decide), up_r (show (46 : Nat) ≠ 47 by decide), up_s hc, up_r (show (47 : Nat) ≠ 11 by decide), up_s hc, up_r (show (47 : Nat) ≠ 46 by decide), FD 46 0 c rfl, FD 47 0 c rfl, F3 46 0 c rfl, F3 47 0 c rfl, F 46 0 c rfl, F 47 0 c rfl]
    exact ⟨rfl, rfl⟩
  · rw [edc, Int.toNat_natCast, K0 46 (by decide), hE, up_r (show (46 : Nat) ≠ 11 by decide), up_r (show (46 : Nat) ≠ 47 by decide), up_e]
  · rw [edc, Int.toNat_natCast, K0 47 (by decide), hE, up_r (show (47 : Nat) ≠ 11 by decide), up_e]
  · rw [up_s (by decide), up_s (by decide), hE, up_e, edc]
    omega
  · rw [up_s (by decide), up_e]
  · rw [up_e, emd]
    omega
end TOGC
def sTm (w n lg r i c : Nat) : Bool := sMs r i c || (r == 48 && decide (16 * n ≤ c ∧ c < 16 * n + 16)) || ((r == 49 || r == 50) && c == n) || (r == 88 && decide (16 * w ≤ c ∧ c < 16 * w + 16)) || ((r == 90 || r == 91 || r == 92) && c == lg) || (r == 12 && (c == 1 || c == 72))
def cmM (I : H3) (w r : Nat) : Nat → Int := cmP (nM I) (fun p => nbP (nM I) (mrw I r) (c16 (kpM I w)) (2 * p) (mA I w 7 (mG I w (w32 (I 12 0 0 - I 86 0 w)))))
def TgM (I K : H3) (w r n lg : Nat) : Prop :=
  Fr (sTm w n lg) I K ∧ c16 (nM K n) = cmM I w r ∧ (K 49 0 n = I 49 0 (I 82 0 w).toNat ∧ K 50 0 n = (w : Int)) ∧ c16 (kpM K w) = pulP (mA I w 3 (mG I w (w32 (I 12 0 0 - I 86 0 w)))) (cmM I w r) (c16 (kpM I w)) ∧ (K 90 0 lg = 2 ∧ K 91 0 lg = (w : Int) ∧ K 92 0 lg = (n : Int)) ∧ K 12 0 72 = ((lg + 1 : Nat) : Int) ∧ K 12 0 1 = ((n + 1 : Nat) : Int)
theorem sTm_p {w n lg r i c : Nat} (h : sTm w n lg r i c = false) : sMs r i c = false ∧ (r ≠ 48 ∨ ¬ (16 * n ≤ c ∧ c < 16 * n + 16)) ∧ ((r ≠ 49 ∧ r ≠ 50) ∨ c ≠ n) ∧ (r ≠ 88 ∨ ¬ (16 * w ≤ c ∧ c < 16 * w + 16)) ∧ (((r ≠ 90 ∧ r ≠ 91) ∧ r ≠ 92) ∨ c ≠ lg) ∧ (r ≠ 12 ∨ (c ≠ 1 ∧ c ≠ 72)) := by
  unfold sTm at h
  simp only [Bool.or_eq_false_iff, Bool.and_eq_false_iff, beq_eq_false_iff_ne, decide_eq_false_iff_not] at h
  exact ⟨h.1.1.1.1.1, h.1.1.1.1.2, h.1.1.1.2, h.1.1.2, h.1.2, h.2⟩
section TOGM
variable {d : Nat} {I L : H3} {t : Nat → Nat} {w r n lg : Nat}
theorem l214 {x1 x2 : Int} (hn : I 12 0 1 = (n : Int)) (h120 : n < 120) : ∀ (k j : Nat), j + k = 16 → Res (d + 2) 214 51 [vr 12 0, vi x1, vi x2, vi (j : Int)] [] (mk (sb I 48 0 (16 * n) j (I 104 0)) L t) = Res (d + 2) 214 51 [vr 12 0, vi x1, vi x2, vi 16] [] (mk (sb I 48 0 (16 * n) 16 (I 104 0)) L t)
  | 0, j, hj => by
    have h16 : j = 16 := by omega
    subst h16
    rfl
  | k + 1, j, hj => by
    have e1 := ix16 (f := n) (k := j) (by omega) (by omega)
    have e12 : sb I 48 0 (16 * n) j (I 104 0) 12 0 1 = (n : Int) := by rw [sb_r (show (12 : Nat) ≠ 48 by decide), hn]
    have r := P214_51_0 (d := d) (I := sb I 48 0 (16 * n) j (I 104 0)) (L := L) (t := t) (x1 := x1) (x2 := x2) (x3 := (j : Int)) (h1 := by omega) (g1 := by omega) (g2 := by rw [e12, e1]; omega)
    rw [e12, e1, lem_w32k (k := j) (by omega), Int.toNat_natCast, Int.toNat_natCast, sb_r (show (104 : Nat) ≠ 48 by decide), sb_s (I := I) (r := 48) (i := 0) (b := 16 * n) (n := j) (f := I 104 0)] at r
    exact Eq.trans r (l214 hn h120 k (j + 1) (by omega))
theorem sp214 (hmm : mmOk I) (hfm : fmOk I) (hw : (w : Int) < I 12 0 2) (hr : r < 6) (hro : mrOk I r) (hh : hasF (mrw I r)) (hn : I 12 0 1 = (n : Int)) (h120 : n < 120) (hlg : I 12 0 72 = (lg : Int)) (h19 : lg < 1900) :
    ∃ K, Cal (d + 6) 214 [vr 12 0, vi (w : Int), vi (r : Int)] (mk I L t) = some (vi (n : Int), mk K L t) ∧ TgM I K w r n lg := by
  have w20 : w < 20 := by have := hmm.1; omega
  have mb := hmm.1
  have wi := hmm.2 w hw
  obtain ⟨sn, esn⟩ : ∃ sn : Nat, I 82 0 w = (sn : Int) := ⟨(I 82 0 w).toNat, by have := wi.2.1; omega⟩
  have sn120 : sn < 120 := by have := wi.2.1; omega
  obtain ⟨J1, c1, F1, e12, em, ln⟩ := sp156 (d := d + 5) (L := L) (t := t) (I := I) hr hro
  have ln9 := ln.1
  have G1 : Fr sMs I J1 := sLn_s F1
  have c2 := sp158 (d := d + 5) (I := J1) (L := L) (t := t) ln9.2
  have cp := cntP_pos.mpr hh
  obtain ⟨J3, c3, F3, T3, m3⟩ := mtk (d := d + 4) (L := L) (t := t) hmm hw G1
  have l3 : lnOk J3 := lnOk_fr T3 rfl (fun _ => rfl) ln
  have v3 : mrv J3 = mrw I r := (sTk_ln T3).trans em
  obtain ⟨J4, c4, F4, m4, v4⟩ := mput (d := d + 2) (L := L) (t := t) m3 l3 (by rw [v3]; exact hh)
  have G4 : Fr sMs I J4 := F3.tr (sPt_s F4)
  rw [s_nM F3, v3, s_mH F3] at v4
  have v4' : c16 (J4 104 0) = cmM I w r := v4
  have e1 : J4 12 0 1 = (n : Int) := by rw [G4 12 0 1 rfl, hn]
  have r0 := P214_0_4 (d := d + 4) (x1 := (w : Int)) (x2 := (r : Int)) (g1 := by omega) (h1 := by omega) (h2 := by omega) (h3 := by omega) (c1 := c1) (c2 := c2) (h4 := by rw [em]; omega) (c3 := c3) (c4 := c4)
  have r1 := l214 (d := d + 4) (I := J4) (L := L) (t := t) (x1 := (w : Int)) (x2 := (r : Int)) e1 h120 16 0 rfl
  rw [sb_0] at r1
  obtain ⟨A, hA⟩ : ∃ A : H3, A = sb J4 48 0 (16 * n) 16 (J4 104 0) := ⟨_, rfl⟩
  rw [← hA] at r1
  have FA : Fr (fun r _ c => r == 48 && decide (16 * n ≤ c ∧ c < 16 * n + 16)) J4 A := by
    rw [hA]
    exact Fr.rfl'.st (fun c c1 c2 => by simp [c1, c2])
  have a1 : A 12 0 1 = (n : Int) := by rw [FA 12 0 1 rfl, e1]
  have a82 : A 82 0 w = (sn : Int) := by rw [FA 82 0 w rfl, G4 82 0 w rfl, esn]
  have a49 : A 49 0 sn = I 49 0 sn := by rw [FA 49 0 sn rfl, G4 49 0 sn rfl]
  obtain ⟨B, hB⟩ : ∃ B : H3, B = up3 (up3 A 49 0 n (I 49 0 sn)) 50 0 n (w : Int) := ⟨_, rfl⟩
  have FB : Fr (fun r _ c => (r == 49 || r == 50) && c == n) A B := by
    rw [hB]
    exact (Fr.rfl'.up (by simp)).up (by simp)
  have mA' := (m4.fr FA rfl rfl (fun _ => ⟨rfl, rfl, rfl⟩) (fun _ => ⟨rfl, rfl⟩) (gvM_cg (FA.ri (fun _ => rfl)))).fr FB rfl rfl (fun _ => ⟨rfl, rfl, rfl⟩) (fun _ => ⟨rfl, rfl⟩) (gvM_cg (FB.ri (fun _ => rfl)))
  have b104 : c16 (B 104 0) = cmM I w r := by rw [FB.ri (r := 104) (i := 0) (fun _ => rfl), FA.ri (r := 104) (i := 0) (fun _ => rfl), v4']
  have cmR : R31 (cmM I w r) := cmP_in hfm (fun p _ => nbP_in hro.2 hh)
  obtain ⟨C, c5, FC, mC⟩ := mpullm (d := d + 3) (L := L) (t := t) mA' b104 cmR
  have eH : mH B (I 80 0 w).toNat = mH I (I 80 0 w).toNat := by rw [mH_fr FB (fun _ => ⟨rfl, rfl, rfl⟩), mH_fr FA (fun _ => ⟨rfl, rfl, rfl⟩), s_mH G4]
  have c6 := sp197 (d := d + 5) (I := C) (L := L) (t := t) w20
  obtain ⟨H, hH⟩ : ∃ H : H3, H = sb C 88 0 (16 * w) 16 (C 76 0) := ⟨_, rfl⟩
  rw [← hH] at c6
  have FH : Fr (fun r _ c => r == 88 && decide (16 * w ≤ c ∧ c < 16 * w + 16)) C H := by
    rw [hH]
    exact Fr.rfl'.st (fun c c1 c2 => by simp [c1, c2])
  have h72 : H 12 0 72 = (lg : Int) := by rw [FH 12 0 72 rfl, FC 12 0 72 rfl, FB 12 0 72 rfl, FA 12 0 72 rfl, G4 12 0 72 rfl, hlg]
  have h1 : H 12 0 1 = (n : Int) := by rw [FH 12 0 1 rfl, FC 12 0 1 rfl, FB 12 0 1 rfl, a1]
  have c7 := P195_0_0 (d := d + 5) (x1 := 2) (x2 := (w : Int)) (x3 := (n : Int)) (I := H) (L := L) (t := t) (g1 := by rw [h72]; omega)
  rw [h72, Int.toNat_natCast, lem_w32k (k := lg) (by omega)] at c7
  obtain ⟨M, hM⟩ : ∃ M : H3, M = up3 (up3 (up3 (up3 H 90 0 lg 2) 91 0 lg (w : Int)) 92 0 lg (n : Int)) 12 0 72 ((lg + 1 : Nat) : Int) := ⟨_, rfl⟩
  rw [← hM] at c7
  have FM : Fr (fun r _ c => ((r == 90 || r == 91 || r == 92) && c == lg) || (r == 12 && c == 72)) H M := by
    rw [hM]
    exact (((Fr.rfl'.up (by simp)).up (by simp)).up (by simp)).up (by simp)
  have r2 := P214_51_1 (d := d + 4) (x1 := (w : Int)) (x2 := (r : Int)) (x3 := 16) (I := A) (L := L) (t := t) (h1 := by decide) (g1 := by omega) (g2 := by rw [Int.toNat_natCast, a82]; omega) (g3 := by rw [a1]; omega) (g4 := by rw [a1]; omega) (c1 := by rw [Int.toNat_natCast, a82, Int.toNat_natCast, a1, Int.toNat_natCast, a49, ← hB]; exact c5) (c2 := c6) (c3 := by rw [h1]; exact c7)
  have m1 : M 12 0 1 = (n : Int) := by rw [FM 12 0 1 rfl, h1]
  rw [m1, lem_w32k (k := n) (by omega), w32_m2 (k := n) (by omega)] at r2
  refine ⟨_, Eq.trans r0 (Eq.trans r1 r2), ?_, ?_, ⟨?_, ?_⟩, ?_, ⟨?_, ?_, ?_⟩, ?_, up_e⟩
  · refine Fr.up (((((((G4.mo (fun r i c k => (sTm_p k).1)).tr (FA.mo (fun r i c k => ?_))).tr (FB.mo (fun r i c k => ?_))).tr ((sMy_s FC).mo (fun r i c k => (sTm_p k).1))).tr (FH.mo (fun r i c k => ?_))).tr (FM.mo (fun r i c k => ?_)))) (by simp [sTm])
    · simp only [Bool.and_eq_false_iff, beq_eq_false_iff_ne, decide_eq_false_iff_not]
      exact (sTm_p k).2.1
    · simp only [Bool.or_eq_false_iff, Bool.and_eq_false_iff, beq_eq_false_iff_ne]
      exact (sTm_p k).2.2.1
    · simp only [Bool.and_eq_false_iff, beq_eq_false_iff_ne, decide_eq_false_iff_not]
      exact (sTm_p k).2.2.2.1
    · simp only [Bool.or_eq_false_iff, Bool.and_eq_false_iff, beq_eq_false_iff_ne]
      refine ⟨(sTm_p k).2.2.2.2.1, ?_⟩
      rcases (sTm_p k).2.2.2.2.2 with q | q
      · exact Or.inl q
      · exact Or.inr q.2
  · rw [← v4']
    refine c16_cg (fun j hj => ?_)
    unfold nM
    rw [up_r (show (48 : Nat) ≠ 12 by decide), FM 48 0 _ rfl, FH 48 0 _ rfl, FC 48 0 _ rfl, FB 48 0 _ rfl, hA, sb_in hj]
  · rw [up_r (show (49 : Nat) ≠ 12 by decide), FM 49 0 _ rfl, FH 49 0 _ rfl, FC 49 0 _ rfl, hB, up_r (show (49 : Nat) ≠ 50 by decide), up_e, esn, Int.toNat_natCast]
  · rw [up_r (show (50 : Nat) ≠ 12 by decide), FM 50 0 _ rfl, FH 50 0 _ rfl, FC 50 0 _ rfl, hB, up_e]
  · have e76 := mC.2.2.2.1
    rw [eH] at e76
    have : c16 (kpM (up3 M 12 0 1 ((n + 1 : Nat) : Int)) w) = c16 (C 76 0) := c16_cg (fun j hj => by
      unfold kpM
      rw [up_r (show (88 : Nat) ≠ 12 by decide), FM 88 0 _ rfl, hH, sb_in hj])
    rw [this, e76]
    rfl
  · rw [up_r (show (90 : Nat) ≠ 12 by decide), hM]; simp [up3]
  · rw [up_r (show (91 : Nat) ≠ 12 by decide), hM]; simp [up3]
  · rw [up_r (show (92 : Nat) ≠ 12 by decide), hM]; simp [up3]
  · rw [up_s (by decide), hM, up_e]
end TOGM
theorem both_together (w r : Int) : Both 89 214 [vi w, vi r] := fun d I L t h => by
  have M := h.pM
  have mb := M.2.1
  have m0 := M.1
  have hf := h.pF.1
  have ef := h.pF.2.1
  have gw : 0 ≤ I 11 0 12 ∧ I 11 0 12 ≤ 2000 := by omega
  have gm : 0 ≤ I 12 0 2 ∧ I 12 0 2 ≤ 2000 := by omega
  by_cases a : 0 ≤ w ∧ w < I 11 0 12
  · have am2 : 0 ≤ w ∧ w < I 12 0 2 := by omega
    by_cases b : 0 ≤ r ∧ r < 6
    · obtain ⟨w, rfl⟩ : ∃ x : Nat, w = (x : Int) := ⟨w.toNat, by omega⟩
      obtain ⟨r, rfl⟩ : ∃ x : Nat, r = (x : Int) := ⟨r.toNat, by omega⟩
      have hr : r < 6 := by omega
      have w20 : w < 20 := by omega
      obtain ⟨q1, q2, q3⟩ := h.rw' hr
      have rB : rvB (rv I r) := q1.2
      have cr : Cal (d + 49) 27 [vr 4 r] (mk I L t) = some (vi (cntP (rv I r)), mk I L t) := sp27 q1
      by_cases e : hasF (rv I r)
      · have cp := cntP_pos.mpr e
        by_cases f : I 11 0 10 < 120
        · obtain ⟨n, hn⟩ : ∃ n : Nat, I 11 0 10 = (n : Int) := ⟨(I 11 0 10).toNat, by omega⟩
          have h120 : n < 120 := by omega
          obtain ⟨l1, l2, l3, l4, l5, l6⟩ := id h.pL
          obtain ⟨lg, elg⟩ : ∃ lg : Nat, I 12 0 72 = (lg : Int) := ⟨(I 12 0 72).toNat, by omega⟩
          rw [elg, Int.toNat_natCast] at l2 l3
          have hall := dN_all (I 90 0) lg
          have hnow := h.pN.2
          have hmade := h.made
          have hvb := h.pV.2.1
          have hdc : I 11 0 15 < 220 := by omega
          have hlg : lg + 1 ≤ 1900 := by omega
          obtain ⟨dc, edc⟩ : ∃ dc : Nat, I 11 0 15 = (dc : Int) := ⟨(I 11 0 15).toNat, by omega⟩
          obtain ⟨J, cc, FJ, ⟨j1, j2⟩, j22, ⟨jm, jR⟩, jo, ⟨jd, je⟩, j15, j10, j11⟩ := sp89 (d := d + 45) (L := L) h a.2 hr e hn h120 hdc
          rw [edc, Int.toNat_natCast] at jo jd je
          have am : ∀ r, r = 12 ∨ 48 ≤ r → J r = I r := fun r hr => FJ.rg (fun i c => by
            unfold sTc
            simp only [Bool.or_eq_false_iff, Bool.and_eq_false_iff, beq_eq_false_iff_ne]
            omega)
          have hK : Fr sK I J := fun r i c hc => by
            have := sK_mo hc
            rw [am r (by omega)]
          have hJ := ov_of hK
          have xmm : mmOk J := by rw [hJ]; exact h.mm
          have xfm : fmOk J := by rw [hJ]; exact h.fm
          have xmr : mrw J r = mrw I r := by rw [hJ]; rfl
          have xro : mrOk J r := by rw [hJ]; exact q2
          have xcm : cmM J w r = cmM I w r := by rw [hJ]; rfl
          have xA : mA J w = mA I w := by rw [hJ]; rfl
          have xG : mG J w (w32 (J 12 0 0 - J 86 0 w)) = mG I w (w32 (I 12 0 0 - I 86 0 w)) := by rw [hJ]; rfl
          have xkp : kpM J = kpM I := by rw [hJ]; rfl
          obtain ⟨K, cm, FK, kn, ⟨k49, k50⟩, kkp, ⟨k90, k91, k92⟩, k72, k1⟩ := sp214 (d := d + 44) (L := L) (t := t) (n := n) (lg := lg) xmm xfm (by rw [am 12 (by omega)]; exact am2.2) hr xro (by rw [xmr, q3]; exact e) (by rw [am 12 (by omega), ef, hn]) h120 (by rw [am 12 (by omega)]; exact elg) (by omega)
          have rm := M.2.2 w a.2
          have ekm : c16 (kpM I w) = c16 (I 28 w) := rm.2.2.2.2.2.2.2.1.1
          have ecm : cmM I w r = cmW I t w r := by
            unfold cmM cmW
            refine cmP_cg (fun f hf => (h.eF f hf).symm) (fun p hp => ?_)
            have e1 : nbP (nM I) (mrw I r) (c16 (kpM I w)) (2 * p) (mA I w 7 (mG I w (w32 (I 12 0 0 - I 86 0 w)))) = npW I t w (rv I r) p := by
              unfold npW
              rw [q3, h.eA a.2, h.eG2 a.2]
              exact nbP_cg (fun f hf => (h.eF f hf).symm) rB (by rw [c16_c, ekm]) (by omega)
            show nbP _ _ _ _ _ = _ ∧ 0 ≤ nbP _ _ _ _ _ ∧ nbP _ _ _ _ _ < 120
            rw [e1]
            exact ⟨rfl, nbP_in q1.2 e⟩
          rw [xcm, ecm] at kn kkp
          rw [xA, xG, xkp, h.eA a.2, h.eG2 a.2, pul_c2] at kkp
          have cR : R31 (cmW I t w r) := cmP_in h.fc (fun p _ => nbP_in q1.2 e)
          have kJ : ∀ r i, r < 12 ∨ r = 22 ∨ r = 28 ∨ r = 29 ∨ r = 46 ∨ r = 47 → K r i = J r i := fun r i hr => FK.ri (fun c => by
            unfold sTm sMs
            simp only [Bool.or_eq_false_iff, Bool.and_eq_false_iff, beq_eq_false_iff_ne, decide_eq_false_iff_not]
            omega)
          have kI : ∀ r, 80 ≤ r → r ≤ 87 ∨ r = 89 ∨ (93 ≤ r ∧ r ≤ 103) → K r = I r := fun r r0 hr => by
            rw [← am r (by omega)]
            exact FK.rg (fun i c => by
              unfold sTm sMs
              simp only [Bool.or_eq_false_iff, Bool.and_eq_false_iff, beq_eq_false_iff_ne, decide_eq_false_iff_not]
              omega)
          have klog : ∀ c, c < lg → K 90 0 c = I 90 0 c ∧ K 91 0 c = I 91 0 c ∧ K 92 0 c = I 92 0 c := fun c hc => by
            have z : ∀ r, r = 90 ∨ r = 91 ∨ r = 92 → K r 0 c = I r 0 c := fun r hr => by
              rw [← am r (by omega)]
              exact FK r 0 c (by
                unfold sTm sMs
                simp only [Bool.or_eq_false_iff, Bool.and_eq_false_iff, beq_eq_false_iff_ne, decide_eq_false_iff_not]
                omega)
            exact ⟨z 90 (by omega), z 91 (by omega), z 92 (by omega)⟩
          have kf : ∀ r c, r = 49 ∨ r = 50 → c ≠ n → K r 0 c = I r 0 c := fun r c hr hc => by
            rw [← am r (by omega)]
            exact FK r 0 c (by
              unfold sTm sMs
              simp only [Bool.or_eq_false_iff, Bool.and_eq_false_iff, beq_eq_false_iff_ne, decide_eq_false_iff_not]
              omega)
          have jf : ∀ r f, r = 1 ∨ r = 22 → f ≠ n → J r f = I r f := fun r f hr hf' => FJ.ri (fun c => by
            unfold sTc
            simp only [Bool.or_eq_false_iff, Bool.and_eq_false_iff, beq_eq_false_iff_ne]
            omega)
          have G : Fr (sNf n) I K := (FJ.mo (fun r i c k => by
            unfold sNf sMi sQ sT at k
            unfold sTc
            simp only [Bool.or_eq_false_iff, Bool.and_eq_false_iff, beq_eq_false_iff_ne] at k ⊢
            obtain ⟨⟨⟨⟨⟨⟨⟨⟨⟨⟨⟨ka, k48⟩, k49⟩, k50⟩, k11⟩, k12⟩, k46⟩, k47⟩, k90⟩, k91⟩, k92⟩, ⟨⟨⟨k87, k88⟩, k3⟩, ⟨⟨⟨⟨kt, kms⟩, kb⟩, ka48⟩, ka49⟩⟩⟩ := k
            have h28 : r ≠ 28 ∨ i ≠ w := by
              rcases k3 with k3 | k3
              · exact Or.inl k3.1.2
              · right
                intro hi
                have : Nat.ble i 19 = true := Nat.ble_eq_true_of_le (by omega)
                rw [this] at k3
                cases k3
            exact ⟨⟨⟨⟨⟨⟨⟨ka, kt.1.1.1.1.1.1.1.1.1⟩, kt.1.1.1.1.1.1.2⟩, kt.1.1.1.2⟩, h28⟩, k46⟩, k47⟩, k11⟩)).tr (FK.mo (fun r i c k => by
            unfold sNf sMi sQ at k
            unfold sTm
            simp only [Bool.or_eq_false_iff, Bool.and_eq_false_iff, beq_eq_false_iff_ne, decide_eq_false_iff_not] at k ⊢
            obtain ⟨⟨⟨⟨⟨⟨⟨⟨⟨⟨⟨ka, k48⟩, k49⟩, k50⟩, k11⟩, k12⟩, k46⟩, k47⟩, k90⟩, k91⟩, k92⟩, ⟨⟨⟨k87, k88⟩, k3⟩, ⟨⟨⟨⟨kt, kms⟩, kb⟩, ka48⟩, ka49⟩⟩⟩ := k
            exact ⟨⟨⟨⟨⟨kms, Or.inl k48⟩, Or.inl ⟨k49, k50⟩⟩, Or.inl k88⟩, Or.inl ⟨⟨k90, k91⟩, k92⟩⟩, k12⟩))
          have k10 : K 11 0 10 = ((n + 1 : Nat) : Int) := by rw [kJ 11 0 (by omega), j10]
          have k11 : K 11 0 11 = I 11 0 11 + 1 := by rw [kJ 11 0 (by omega), j11]
          have hfsn : (I 3 w 4).toNat < 120 := by have := rm.2.2.1; omega
          have fsn := h.pF.2.2.1 (I 3 w 4).toNat hfsn
          refine ⟨_, _, L, _, L, t, cc, cm, rel_F h hn G k10 ⟨by rw [k10]; omega, by rw [k1, k10], fun f hf' => ?_, fun f hf' => ?_⟩ ⟨by rw [G 12 0 2 rfl, G 11 0 12 rfl]; exact m0, by rw [G 11 0 12 rfl]; exact mb, fun x hx => ?_⟩ ?_ ?_ ?_⟩
          · rw [kJ 22 f (by omega), kJ 1 f (by omega)]
            by_cases q : f = n
            · subst q
              refine ⟨R31.c (by rw [j22]; exact cR), by rw [kn, j22], ?_, ?_⟩
              · rw [k49, am 49 (by omega), am 82 (by omega), j1, rm.2.2.1.1]
                exact fsn.2.2.1
              · rw [j1]
                exact fsn.2.2.2
            · rw [jf 22 f (by omega) q, jf 1 f (by omega) q, kf 49 f (by omega) q]
              have old := h.pF.2.2.1 f hf'
              have : c16 (nM K f) = c16 (nM I f) := c16_cg (fun j hj => by
                unfold nM
                rw [← am 48 (by omega)]
                exact FK 48 0 _ (by
                  unfold sTm sMs
                  simp only [Bool.or_eq_false_iff, Bool.and_eq_false_iff, beq_eq_false_iff_ne, decide_eq_false_iff_not]
                  omega))
              rw [this]
              exact old
          · rw [k10] at hf'
            rw [kJ 1 f (by omega)]
            by_cases q : f = n
            · subst q
              rw [k50, j2]
            · rw [kf 50 f (by omega) q, jf 1 f (by omega) q]
              exact h.pF.2.2.2 f (by omega)
          · rw [G 11 0 12 rfl] at hx
            obtain ⟨o1, o2, o3, o4, o5, o6, o7, o8, o9⟩ := M.2.2 x hx
            have e3 : K 3 x = I 3 x := by
              rw [kJ 3 x (by omega)]
              exact FJ.ri (fun c => rfl)
            have e29 : K 29 x = I 29 x := by
              rw [kJ 29 x (by omega)]
              exact FJ.ri (fun c => rfl)
            have ekt : ktM K x = ktM I x := by unfold ktM; rw [kI 89 (by decide) (by omega)]
            unfold rmi
            rw [e3, e29, ekt, kI 80 (by decide) (by omega), kI 81 (by decide) (by omega), kI 82 (by decide) (by omega), kI 83 (by decide) (by omega), kI 84 (by decide) (by omega), kI 85 (by decide) (by omega), kI 86 (by decide) (by omega), kI 87 (by decide) (by omega)]
            refine ⟨o1, o2, ⟨o3.1, o3.2.1, by omega⟩, o4, o5, o6, o7, ?_, o9⟩
            by_cases z : x = w
            · subst z
              rw [kJ 28 x (by omega)]
              refine ⟨?_, jR⟩
              rw [kkp, jm]
              exact pul_cg rfl ekm
            · have e28 : K 28 x = I 28 x := by
                rw [kJ 28 x (by omega)]
                exact FJ.ri (fun c => by
                  unfold sTc
                  simp only [Bool.or_eq_false_iff, Bool.and_eq_false_iff, beq_eq_false_iff_ne]
                  omega)
              have ek : c16 (kpM K x) = c16 (kpM I x) := c16_cg (fun j hj => by
                unfold kpM
                rw [← am 88 (by omega)]
                exact FK 88 0 _ (by
                  unfold sTm sMs
                  simp only [Bool.or_eq_false_iff, Bool.and_eq_false_iff, beq_eq_false_iff_ne, decide_eq_false_iff_not]
                  omega))
              rw [e28, ek]
              exact o8
          · rw [k11]
            refine reL_app (lg := lg) (dc := dc) h.pL elg k72 hlg klog (by rw [k90]; decide) edc (by rw [kJ 11 0 (by omega), j15]) (fun c hc => by rw [kJ 46 0 (by omega), kJ 47 0 (by omega)]; exact jo c hc) (kI 93 (by decide) (by omega)) (kI 86 (by decide) (by omega)) (fun c _ => by rw [kI 94 (by decide) (by omega)]) (fun f hf' => kf 50 f (by omega) (by omega)) (by omega) (Int.le_refl _) (by omega) (fun i hi => by have := (h.pV.2.2 i hi).1; omega) (fun dy dd => ?_) (fun i i1 i2 => by omega)
            unfold rli
            rw [k90, k92, k91, dy, dd, Int.toNat_natCast, Int.toNat_natCast, k50, kJ 46 0 (by omega), kJ 47 0 (by omega), jd, je]
            exact Or.inr (Or.inr ⟨rfl, by omega, ⟨rfl, by omega⟩, rfl, rfl⟩)
          · unfold reC
            rw [k11, Int.toNat_natCast, fo_e, Nat.zero_add, kJ 1 n (by omega), j2, if_neg (by omega)]
            have hc : I 11 0 11 = _ := h.pC
            rw [hc, hn, Int.toNat_natCast]
            rw [fo_cg (f := fun f (a : Int) => if I 1 f 2 = -1 then a else a + 1) (g := fun f a => if K 1 f 2 = -1 then a else a + 1) n 0 0 (fun f b _ hf' => by rw [kJ 1 f (by omega), jf 1 f (by omega) (by omega)])]
          · have U := h.pU
            unfold reU
            rw [k72]
            refine ⟨fun x x1 x2 => ?_, fun l hl h0 => ?_, fun w hw => by rw [G 60 0 w rfl]; exact U.2.2 w hw⟩
            · rw [kJ 3 x (by omega), FJ 3 x 8 rfl, kI 87 (by decide) (by omega)]
              exact U.1 x x1 x2
            · by_cases z : l < lg
              · rw [(klog l z).2.1]
                rw [(klog l z).1] at h0
                exact U.2.1 l (by omega) h0
              · have : l = lg := by omega
                subst this
                rw [k91]
                exact a.2
        · refine ⟨-1, I, L, I, L, t, P89_0_2 (d := d + 48) (g1 := gw) (h1 := a) (h2 := b) (c1 := by rw [Int.toNat_natCast]; exact cr) (h3 := by omega) (h4 := by omega), ?_, h⟩
          exact P214_0_2 (d := d + 48) (g1 := gm) (h1 := am2) (h2 := b) (h3 := by omega)
      · have c0 : cntP (rv I r) = 0 := by
          have := cntP_in (rv := rv I r)
          have : ¬ 0 < cntP (rv I r) := fun z => e (cntP_pos.mp z)
          omega
        have cc := P89_0_4 (d := d + 48) (I := I) (L := L) (t := t) (x1 := (w : Int)) (x2 := (r : Int)) (g1 := gw) (h1 := a) (h2 := b) (c1 := by rw [Int.toNat_natCast]; exact cr) (h3 := c0)
        by_cases f : I 12 0 1 = 120
        · exact ⟨-1, I, L, I, L, t, cc, P214_0_2 (d := d + 48) (g1 := gm) (h1 := am2) (h2 := b) (h3 := f), h⟩
        · obtain ⟨J1, t1, F1, e1, v1, ln1⟩ := sp156 (d := d + 49) (L := L) (t := t) hr q2
          have c2 := sp158 (d := d + 49) (I := J1) (L := L) (t := t) ln1.1.2
          rw [v1, q3, c0] at c2
          exact ⟨-1, I, L, J1, L, t, cc, P214_0_3 (d := d + 48) (g1 := gm) (h1 := am2) (h2 := b) (h3 := f) (c1 := t1) (c2 := c2) (h4 := rfl), q_rel (sLn_q F1) h⟩
    · exact ⟨-1, I, L, I, L, t, P89_0_1 (d := d + 48) (g1 := gw) (h1 := a) (h2 := b), P214_0_1 (d := d + 48) (g1 := gm) (h1 := am2) (h2 := b), h⟩
  · exact ⟨-1, I, L, I, L, t, P89_0_0 (d := d + 48) (g1 := gw) (h1 := a), P214_0_0 (d := d + 48) (g1 := gm) (h1 := by omega), h⟩
