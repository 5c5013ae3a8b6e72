/-! show: the model -/
def sSm (w n lg r i c : Nat) : Bool := sMs r i c || (r == 88 && decide (16 * w ≤ c ∧ c < 16 * w + 16)) || ((r == 90 || r == 91 || r == 92) && c == lg) || (r == 12 && (c == 3 || c == 72)) || (decide (94 ≤ r ∧ r ≤ 103 ∧ r ≠ 102) && c == n) || (r == 102 && decide (9 * n ≤ c ∧ c < 9 * n + 9))
def msuP (I : H3) (w : Nat) (rw' : Int → Int) (p : Int) : Int := suQ (mA I w) (mG I w (w32 (I 12 0 0 - I 86 0 w))) (I 81 0 w) (c16 (kpM I w)) (nM I) (I 49 0) rw' p
def ShM (I K : H3) (w r n lg : Nat) (kind led push pick : Int) : Prop :=
  Fr (sSm w n lg) I K ∧ (K 94 0 n = (w : Int) ∧ K 95 0 n = kind ∧ K 96 0 n = I 12 0 0 ∧ K 97 0 n = pick ∧ K 98 0 n = led ∧ K 99 0 n = push ∧ K 100 0 n = (if kind = 2 then 0 else oP (modW I w (mrw I r) (decide (kind = 1)) led push) pick) ∧ K 101 0 n = msuP I w (mrw I r) pick ∧ K 103 0 n = I 53 0 r) ∧ (∀ p : Nat, (p : Int) < I 53 0 r → K 102 0 (9 * n + p) = I 52 0 (9 * r + p)) ∧ c16 (kpM K w) = shwP (nM I) (mrw I r) (mA I w 3 (mG I w (w32 (I 12 0 0 - I 86 0 w)))) pick (c16 (kpM I w)) ∧ (K 90 0 lg = 1 ∧ K 91 0 lg = (w : Int) ∧ K 92 0 lg = (n : Int)) ∧ K 12 0 72 = ((lg + 1 : Nat) : Int) ∧ K 12 0 3 = ((n + 1 : Nat) : Int)
theorem sSm_p {w n lg r i c : Nat} (h : sSm w n lg r i c = false) : sMs r i c = false ∧ (r ≠ 88 ∨ ¬ (16 * w ≤ c ∧ c < 16 * w + 16)) ∧ (((r ≠ 90 ∧ r ≠ 91) ∧ r ≠ 92) ∨ c ≠ lg) ∧ (r ≠ 12 ∨ (c ≠ 3 ∧ c ≠ 72)) ∧ (¬ (94 ≤ r ∧ r ≤ 103 ∧ r ≠ 102) ∨ c ≠ n) ∧ (r ≠ 102 ∨ ¬ (9 * n ≤ c ∧ c < 9 * n + 9)) := by
  unfold sSm at h
  simp only [Bool.or_eq_false_iff, Bool.and_eq_false_iff, beq_eq_false_iff_ne, decide_eq_false_iff_not] at h
  exact ⟨h.1.1.1.1.1, h.1.1.1.1.2, h.1.1.1.2, h.1.1.2, h.1.2, h.2⟩
section SHOWM
variable {d : Nat} {I L : H3} {t : Nat → Nat} {w r n lg : Nat} {kind led push pick : Int}
theorem l205 {x2 x4 : Int} {m len : Nat} (hm : m < 100) (h9 : len ≤ 9) (e12 : I 12 0 12 = (len : Int)) {x1 x3 x5 x6 : Int} : ∀ (n j : Nat), j + n = len → Res (d + 2) 205 248 [vr 12 0, vi x1, vi x2, vi x3, vi x4, vi x5, vi x6, vi (m : Int), vi (j : Int)] [] (mk (sb I 102 0 (9 * m) j (I 54 0)) L t) = Res (d + 2) 205 248 [vr 12 0, vi x1, vi x2, vi x3, vi x4, vi x5, vi x6, vi (m : Int), vi (len : Int)] [] (mk (sb I 102 0 (9 * m) len (I 54 0)) L t)
  | 0, j, hj => by
    have hj' : j = len := by omega
    subst hj'
    rfl
  | n + 1, j, hj => by
    have e1 := ix9 (f := m) (k := j) (by omega) (by omega)
    refine Eq.trans (P205_248_0 (h1 := by rw [sb_r (show (12 : Nat) ≠ 102 by decide), e12]; omega) (g1 := by omega) (g2 := by rw [e1]; omega)) ?_
    rw [e1, lem_w32k (k := j) (by omega), Int.toNat_natCast, Int.toNat_natCast, sb_r (show (54 : Nat) ≠ 102 by decide), sb_s (I := I) (r := 102) (i := 0) (b := 9 * m) (n := j) (f := I 54 0)]
    exact l205 hm h9 e12 n (j + 1) (by omega)
/-- from the row taken on -/
theorem sp205 {I0 : H3} (hmm : mmOk I0) (hfm : fmOk I0) (hw : (w : Int) < I0 12 0 2) (hr : r < 6) (F0 : Fr sLn I0 I) (ln : lnOk I) (hv : mrv I = mrw I0 r) (h12 : I 12 0 12 = I0 53 0 r) (hk : 0 ≤ kind ∧ kind ≤ 2) (hn : I0 12 0 3 = (n : Int)) (h100 : n < 100) (hps : 0 ≤ push ∧ push ≤ 99) (hp : pick = -1 ∨ (kind ≠ 2 ∧ mrw I0 r pick ≠ -1)) (hlg : I0 12 0 72 = (lg : Int)) (h19 : lg < 1900) :
    ∃ K, Res (d + 6) 205 99 [vr 12 0, vi (w : Int), vi (r : Int), vi kind, vi led, vi push, vi pick, vx, vx] [] (mk I L t) = some (vi (n : Int), mk K L t) ∧ ShM I0 K w r n lg kind led push pick := by
  have w20 : w < 20 := by have := hmm.1; omega
  have F0' : Fr sMs I0 I := sLn_s F0
  have e3 : I 12 0 3 = (n : Int) := by rw [F0 12 0 3 rfl, hn]
  obtain ⟨len, elen⟩ : ∃ len : Nat, I 12 0 12 = (len : Int) := ⟨(I 12 0 12).toNat, by have := ln.1; omega⟩
  have len9 : len ≤ 9 := by have := ln.1; omega
  obtain ⟨J1, c1, F1, T1, m1⟩ := mtk (d := d + 4) (L := L) (t := t) hmm hw F0'
  -- odds
  obtain ⟨B, rB, FB, aB, lB, vB, oB⟩ : ∃ B, Res (d + 6) 205 99 [vr 12 0, vi (w : Int), vi (r : Int), vi kind, vi led, vi push, vi pick, vx, vx] [] (mk I L t) = Res (d + 6) 205 157 [vr 12 0, vi (w : Int), vi (r : Int), vi kind, vi led, vi push, vi pick, vi (n : Int), vx] [] (mk B L t) ∧ Fr (fun r i c => sMs r i c || (r == 100 && c == n)) I0 B ∧ MAt B (I0 80 0 w).toNat (I0 81 0 w) (gvT (I0 83 0 w) (I0 84 0 w) (I0 85 0 w) (I0 87 0 w)) (c16 (kpM I0 w)) (c16 (ktM I0 w)) (w32 (I0 12 0 0 - I0 86 0 w)) ∧ lnOk B ∧ mrv B = mrw I0 r ∧ B 100 0 n = (if kind = 2 then 0 else oP (modW I0 w (mrw I0 r) (decide (kind = 1)) led push) pick) ∧ B 12 0 12 = (len : Int) := by
    have FA : Fr (fun r i c => sMs r i c || (r == 100 && c == n)) I0 (up3 J1 100 0 n 0) := (F1.mo (fun r i c k => by
      simp only [Bool.or_eq_false_iff] at k
      exact k.1)).up (by simp)
    have uA : Fr (fun r _ c => r == 100 && c == n) J1 (up3 J1 100 0 n 0) := Fr.rfl'.up (by simp)
    have mA' := m1.fr uA rfl rfl (fun _ => ⟨rfl, rfl, rfl⟩) (fun _ => ⟨rfl, rfl⟩) (gvM_cg (by rw [up_r (show (75 : Nat) ≠ 100 by decide)]))
    have lnJ : lnOk J1 := lnOk_fr T1 rfl (fun _ => rfl) ln
    have lA : lnOk (up3 J1 100 0 n 0) := lnOk_fr uA rfl (fun _ => rfl) lnJ
    have vA : mrv (up3 J1 100 0 n 0) = mrw I0 r := (mrv_fr uA rfl (fun _ => rfl)).trans ((mrv_fr T1 rfl (fun _ => rfl)).trans hv)
    have e12A : up3 J1 100 0 n 0 12 0 12 = (len : Int) := by rw [up_r (show (12 : Nat) ≠ 100 by decide), T1 12 0 12 rfl, elen]
    by_cases k2 : kind = 2
    · have c := P205_99_2 (d := d + 4) (x1 := (w : Int)) (x2 := (r : Int)) (x3 := kind) (x4 := led) (x5 := push) (x6 := pick) (c1 := c1) (g1 := by rw [e3]; omega) (h1 := by omega)
      rw [e3, Int.toNat_natCast] at c
      exact ⟨_, c, FA, mA', lA, vA, by rw [up_e, if_pos k2], e12A⟩
    · obtain ⟨J2, c2, F2, a2, o2⟩ := modds (d := d + 2) (L := L) (t := t) (kind := kind) (led := led) mA' lA hps
      have FJ2 : Fr (fun r i c => sMs r i c || (r == 100 && c == n)) I0 J2 := FA.tr ((sMx_s F2).mo (fun r i c k => by
        simp only [Bool.or_eq_false_iff] at k
        exact k.1))
      have eo : ∀ j, j < 10 → J2 78 0 j = modW I0 w (mrw I0 r) (decide (kind = 1)) led push j := fun j hj => by
        have ed : decide (kind ≠ 0) = decide (kind = 1) := by
          have q : kind = 0 ∨ kind = 1 := by omega
          rcases q with q | q <;> rw [q] <;> rfl
        rw [o2 j hj, ed, vA, mH_fr FA (fun _ => ⟨rfl, rfl, rfl⟩), mfa_fr FA (fun _ => ⟨rfl, rfl, rfl⟩) (fun _ => ⟨rfl, rfl⟩)]
        rfl
      have uB : ∀ x, Fr (fun r _ c => r == 100 && c == n) J2 (up3 J2 100 0 n x) := fun x => Fr.rfl'.up (by simp)
      have out : ∀ x, Fr (fun r i c => sMs r i c || (r == 100 && c == n)) I0 (up3 J2 100 0 n x) ∧ MAt (up3 J2 100 0 n x) (I0 80 0 w).toNat (I0 81 0 w) (gvT (I0 83 0 w) (I0 84 0 w) (I0 85 0 w) (I0 87 0 w)) (c16 (kpM I0 w)) (c16 (ktM I0 w)) (w32 (I0 12 0 0 - I0 86 0 w)) ∧ lnOk (up3 J2 100 0 n x) ∧ mrv (up3 J2 100 0 n x) = mrw I0 r := fun x => ⟨FJ2.up (by simp), a2.fr (uB x) rfl rfl (fun _ => ⟨rfl, rfl, rfl⟩) (fun _ => ⟨rfl, rfl⟩) (gvM_cg (by rw [up_r (show (75 : Nat) ≠ 100 by decide)])), lnOk_fr (uB x) rfl (fun _ => rfl) (lnOk_fr F2 rfl (fun _ => rfl) lA), (mrv_fr (uB x) rfl (fun _ => rfl)).trans ((mrv_fr F2 rfl (fun _ => rfl)).trans vA)⟩
      have e12B : ∀ x, up3 J2 100 0 n x 12 0 12 = (len : Int) := fun x => by rw [up_r (show (12 : Nat) ≠ 100 by decide), F2 12 0 12 rfl, e12A]
      by_cases pk : pick = -1
      · have c := P205_99_0 (d := d + 4) (x1 := (w : Int)) (x2 := (r : Int)) (x3 := kind) (x4 := led) (x5 := push) (x6 := pick) (c1 := c1) (g1 := by rw [e3]; omega) (h1 := by omega) (c2 := by rw [e3, Int.toNat_natCast]; exact c2) (h2 := pk)
        rw [e3, Int.toNat_natCast] at c
        obtain ⟨z1, z2, z3, z4⟩ := out (J2 78 0 9)
        refine ⟨_, c, z1, z2, z3, z4, ?_, e12B _⟩
        rw [up_e, if_neg k2, eo 9 (by decide)]
        unfold oP
        rw [if_neg (by omega)]
      · have pv := (hp.resolve_left pk).2
        have pb : 0 ≤ pick ∧ pick < 9 := by
          refine Classical.byContradiction (fun q => pv ?_)
          unfold mrw
          refine rvP_neg (fun z => q ?_)
          have := ln.1
          omega
        have c := P205_99_1 (d := d + 4) (x1 := (w : Int)) (x2 := (r : Int)) (x3 := kind) (x4 := led) (x5 := push) (x6 := pick) (c1 := c1) (g1 := by rw [e3]; omega) (h1 := by omega) (c2 := by rw [e3, Int.toNat_natCast]; exact c2) (h2 := pk) (g2 := by omega)
        rw [e3, Int.toNat_natCast] at c
        obtain ⟨z1, z2, z3, z4⟩ := out (J2 78 0 pick.toNat)
        refine ⟨_, c, z1, z2, z3, z4, ?_, e12B _⟩
        rw [up_e, if_neg k2, eo pick.toNat (by omega)]
        unfold oP
        rw [if_pos (by omega)]
  -- sure
  obtain ⟨C, s, rC, FC, aC, lC, vC, eC12, es⟩ : ∃ C s, Res (d + 6) 205 157 [vr 12 0, vi (w : Int), vi (r : Int), vi kind, vi led, vi push, vi pick, vi (n : Int), vx] [] (mk B L t) = Res (d + 6) 205 248 [vr 12 0, vi (w : Int), vi (r : Int), vi kind, vi led, vi push, vi pick, vi (n : Int), vi 0] [] (mk (up3 (up3 (up3 (up3 (up3 (up3 (up3 (up3 C 101 0 n s) 94 0 n (w : Int)) 95 0 n kind) 96 0 n (I0 12 0 0)) 97 0 n pick) 98 0 n led) 99 0 n push) 103 0 n (len : Int)) L t) ∧ Fr sF B C ∧ MAt C (I0 80 0 w).toNat (I0 81 0 w) (gvT (I0 83 0 w) (I0 84 0 w) (I0 85 0 w) (I0 87 0 w)) (c16 (kpM I0 w)) (c16 (ktM I0 w)) (w32 (I0 12 0 0 - I0 86 0 w)) ∧ lnOk C ∧ mrv C = mrw I0 r ∧ C 12 0 12 = (len : Int) ∧ s = msuP I0 w (mrw I0 r) pick := by
    by_cases pk : pick = -1
    · have c := P205_157_0 (d := d + 4) (I := B) (L := L) (t := t) (x1 := (w : Int)) (x2 := (r : Int)) (x3 := kind) (x4 := led) (x5 := push) (x6 := pick) (x7 := (n : Int)) (h1 := pk) (g1 := by omega)
      rw [Int.toNat_natCast, FB 12 0 0 rfl, oB.2] at c
      refine ⟨B, -1, c, Fr.rfl', aB, lB, vB, oB.2, ?_⟩
      unfold msuP suQ
      rw [pk, show mrw I0 r (-1) = -1 from rvP_neg (by omega), if_pos rfl]
    · have pv := (hp.resolve_left pk).2
      have pb : 0 ≤ pick := by
        refine Classical.byContradiction (fun q => pv ?_)
        unfold mrw
        exact rvP_neg (fun z => q z.1)
      obtain ⟨J, c1, F, a⟩ := msure (d := d + 2) (L := L) (t := t) (p := pick.toNat) aB lB (by rw [vB, show ((pick.toNat : Nat) : Int) = pick by omega]; exact pv)
      rw [show ((pick.toNat : Nat) : Int) = pick by omega, vB, mH_fr FB (fun _ => ⟨rfl, rfl, rfl⟩), nM_fr FB (fun _ => rfl), FB.ri (r := 49) (i := 0) (fun _ => rfl)] at c1
      have c := P205_157_1 (d := d + 4) (I := B) (L := L) (t := t) (x1 := (w : Int)) (x2 := (r : Int)) (x3 := kind) (x4 := led) (x5 := push) (x6 := pick) (x7 := (n : Int)) (h1 := pk) (c1 := c1) (g1 := by omega)
      rw [Int.toNat_natCast, F 12 0 0 rfl, FB 12 0 0 rfl, F 12 0 12 rfl, oB.2] at c
      exact ⟨J, _, c, F, a, lnOk_fr F rfl (fun _ => rfl) lB, (mrv_fr F rfl (fun _ => rfl)).trans vB, by rw [F 12 0 12 rfl, oB.2], rfl⟩
  obtain ⟨D, hD⟩ : ∃ D : H3, D = up3 (up3 (up3 (up3 (up3 (up3 (up3 (up3 C 101 0 n s) 94 0 n (w : Int)) 95 0 n kind) 96 0 n (I0 12 0 0)) 97 0 n pick) 98 0 n led) 99 0 n push) 103 0 n (len : Int) := ⟨_, rfl⟩
  rw [← hD] at rC
  have FD : Fr (fun r _ c => decide (94 ≤ r ∧ r ≤ 103 ∧ r ≠ 102 ∧ r ≠ 100) && c == n) C D := by
    rw [hD]
    exact (((((((Fr.rfl'.up (by simp)).up (by simp)).up (by simp)).up (by simp)).up (by simp)).up (by simp)).up (by simp)).up (by simp)
  have s94 : D 94 0 n = (w : Int) := by rw [hD]; simp [up3]
  have s95 : D 95 0 n = kind := by rw [hD]; simp [up3]
  have s96 : D 96 0 n = I0 12 0 0 := by rw [hD]; simp [up3]
  have s97 : D 97 0 n = pick := by rw [hD]; simp [up3]
  have s98 : D 98 0 n = led := by rw [hD]; simp [up3]
  have s99 : D 99 0 n = push := by rw [hD]; simp [up3]
  have s101 : D 101 0 n = s := by rw [hD]; simp [up3]
  have s103 : D 103 0 n = (len : Int) := by rw [hD]; simp [up3]
  have eD12 : D 12 0 12 = (len : Int) := by rw [FD 12 0 12 rfl, eC12]
  have rD := l205 (d := d + 4) (I := D) (L := L) (t := t) (x1 := (w : Int)) (x2 := (r : Int)) (x3 := kind) (x4 := led) (x5 := push) (x6 := pick) h100 len9 eD12 len 0 (by omega)
  rw [sb_0] at rD
  obtain ⟨E, hE⟩ : ∃ E : H3, E = sb D 102 0 (9 * n) len (D 54 0) := ⟨_, rfl⟩
  rw [← hE] at rD
  have FE : Fr (fun r _ c => r == 102 && decide (9 * n ≤ c ∧ c < 9 * n + 9)) D E := by
    rw [hE]
    exact Fr.rfl'.st (fun c c1 c2 => by
      simp only [BEq.rfl, Bool.true_and, decide_eq_true_eq]
      omega)
  have lE : lnOk E := lnOk_fr FE rfl (fun _ => rfl) (lnOk_fr FD rfl (fun _ => rfl) lC)
  have vE : mrv E = mrw I0 r := (mrv_fr FE rfl (fun _ => rfl)).trans ((mrv_fr FD rfl (fun _ => rfl)).trans vC)
  have aE := (aC.fr FD rfl rfl (fun _ => ⟨rfl, rfl, rfl⟩) (fun _ => ⟨rfl, rfl⟩) (gvM_cg (FD.ri (fun _ => rfl)))).fr FE rfl rfl (fun _ => ⟨rfl, rfl, rfl⟩) (fun _ => ⟨rfl, rfl⟩) (gvM_cg (FE.ri (fun _ => rfl)))
  have eN : nM E = nM I0 := by rw [nM_fr FE (fun _ => rfl), nM_fr FD (fun _ => rfl), nM_fr FC (fun _ => rfl), nM_fr FB (fun _ => rfl)]
  have eH : mH E (I0 80 0 w).toNat = mH I0 (I0 80 0 w).toNat := by rw [mH_fr FE (fun _ => ⟨rfl, rfl, rfl⟩), mH_fr FD (fun _ => ⟨rfl, rfl, rfl⟩), mH_fr FC (fun _ => ⟨rfl, rfl, rfl⟩), mH_fr FB (fun _ => ⟨rfl, rfl, rfl⟩)]
  obtain ⟨G, c6, FG, aG⟩ := mpulls (d := d + 3) (L := L) (t := t) (pick := pick) aE (by unfold fmOk; rw [eN]; exact hfm) lE (by
    rcases hp with q | q
    · exact Or.inl q
    · right
      rw [vE]
      exact q.2)
  have c7 := sp197 (d := d + 5) (I := G) (L := L) (t := t) w20
  obtain ⟨H, hH⟩ : ∃ H : H3, H = sb G 88 0 (16 * w) 16 (G 76 0) := ⟨_, rfl⟩
  rw [← hH] at c7
  have FH : Fr (fun r i c => r == 88 && decide (16 * w ≤ c ∧ c < 16 * w + 16)) G H := by
    rw [hH]
    exact Fr.rfl'.st (fun c c1 c2 => by simp [c1, c2])
  have eH72 : H 12 0 72 = (lg : Int) := by rw [FH 12 0 72 rfl, FG 12 0 72 rfl, FE 12 0 72 rfl, FD 12 0 72 rfl, FC 12 0 72 rfl, FB 12 0 72 rfl, hlg]
  have eH3 : H 12 0 3 = (n : Int) := by rw [FH 12 0 3 rfl, FG 12 0 3 rfl, FE 12 0 3 rfl, FD 12 0 3 rfl, FC 12 0 3 rfl, FB 12 0 3 rfl, hn]
  have c8 := P195_0_0 (d := d + 5) (x1 := 1) (x2 := (w : Int)) (x3 := (n : Int)) (I := H) (L := L) (t := t) (g1 := by rw [eH72]; omega)
  rw [eH72, Int.toNat_natCast, lem_w32k (k := lg) (by omega)] at c8
  have rE := P205_248_1 (d := d + 4) (x1 := (w : Int)) (x2 := (r : Int)) (x3 := kind) (x4 := led) (x5 := push) (x6 := pick) (x7 := (n : Int)) (x8 := (len : Int)) (I := E) (L := L) (t := t) (h1 := by rw [FE 12 0 12 rfl, eD12]; exact Int.le_refl _) (c1 := c6) (c2 := c7) (c3 := c8)
  obtain ⟨M, hM⟩ : ∃ M : H3, M = up3 (up3 (up3 (up3 H 90 0 lg 1) 91 0 lg (w : Int)) 92 0 lg (n : Int)) 12 0 72 ((lg + 1 : Nat) : Int) := ⟨_, rfl⟩
  rw [← hM] at rE
  have FM : Fr (fun r _ c => ((r == 90 || r == 91 || r == 92) && c == lg) || (r == 12 && c == 72)) H M := by
    rw [hM]
    exact (((Fr.rfl'.up (by simp)).up (by simp)).up (by simp)).up (by simp)
  rw [FM 12 0 3 rfl, eH3, lem_w32k (k := n) (by omega)] at rE
  have low : ∀ r c, 94 ≤ r → r ≤ 103 → up3 M 12 0 3 ((n + 1 : Nat) : Int) r 0 c = E r 0 c := fun r c r1 r2 => by
    rw [up_r (show r ≠ 12 by omega), FM r 0 c (by
      simp only [Bool.or_eq_false_iff, Bool.and_eq_false_iff, beq_eq_false_iff_ne]
      omega), FH r 0 c (by
      simp only [Bool.and_eq_false_iff, beq_eq_false_iff_ne]
      omega), FG r 0 c (by
      unfold sMy
      simp only [Bool.or_eq_false_iff, beq_eq_false_iff_ne]
      omega)]
  have low2 : ∀ r c, 94 ≤ r → r ≤ 103 → r ≠ 102 → up3 M 12 0 3 ((n + 1 : Nat) : Int) r 0 c = D r 0 c := fun r c r1 r2 r3 => by
    rw [low r c r1 r2, FE r 0 c (by
      simp only [Bool.and_eq_false_iff, beq_eq_false_iff_ne]
      omega)]
  refine ⟨_, Eq.trans rB (Eq.trans rC (Eq.trans rD rE)), ?_, ?_, fun p hp' => ?_, ?_, ⟨?_, ?_, ?_⟩, ?_, up_e⟩
  · refine Fr.up ((((((((FB.mo (fun r i c k => ?_)).tr ((sF_s FC).mo (fun r i c k => (sSm_p k).1))).tr (FD.mo (fun r i c k => ?_))).tr (FE.mo (fun r i c k => ?_))).tr ((sMy_s FG).mo (fun r i c k => (sSm_p k).1))).tr (FH.mo (fun r i c k => ?_))).tr (FM.mo (fun r i c k => ?_)))) (by simp [sSm])
    · obtain ⟨p1, p2, p3, p4, p5, p6⟩ := sSm_p k
      clear p2 p3 p4 p6
      simp only [Bool.or_eq_false_iff, Bool.and_eq_false_iff, beq_eq_false_iff_ne]
      refine ⟨p1, ?_⟩
      clear p1 k
      omega
    · obtain ⟨p1, p2, p3, p4, p5, p6⟩ := sSm_p k
      clear p1 p2 p3 p4 p6 k
      simp only [Bool.and_eq_false_iff, beq_eq_false_iff_ne, decide_eq_false_iff_not]
      omega
    · obtain ⟨p1, p2, p3, p4, p5, p6⟩ := sSm_p k
      clear p1 p2 p3 p4 p5 k
      simp only [Bool.and_eq_false_iff, beq_eq_false_iff_ne, decide_eq_false_iff_not]
      exact p6
    · obtain ⟨p1, p2, p3, p4, p5, p6⟩ := sSm_p k
      simp only [Bool.and_eq_false_iff, beq_eq_false_iff_ne, decide_eq_false_iff_not]
      exact p2
    · obtain ⟨p1, p2, p3, p4, p5, p6⟩ := sSm_p k
      simp only [Bool.or_eq_false_iff, Bool.and_eq_false_iff, beq_eq_false_iff_ne]
      refine ⟨p3, ?_⟩
      rcases p4 with q | q
      · exact Or.inl q
      · exact Or.inr q.2
  · rw [low2 94 n (by decide) (by decide) (by decide), low2 95 n (by decide) (by decide) (by decide), low2 96 n (by decide) (by decide) (by decide), low2 97 n (by decide) (by decide) (by decide), low2 98 n (by decide) (by decide) (by decide), low2 99 n (by decide) (by decide) (by decide), low2 100 n (by decide) (by decide) (by decide), low2 101 n (by decide) (by decide) (by decide), low2 103 n (by decide) (by decide) (by decide), FD 100 0 n rfl, FC 100 0 n rfl]
    exact ⟨s94, s95, s96, s97, s98, s99, oB.1, s101.trans es, by rw [s103, ← elen, h12]⟩
  · have pl : p < len := by omega
    rw [low 102 _ (by decide) (by decide), hE, sb_in pl]
    have v' := congrFun hv (p : Int)
    rw [mrv_at (by omega)] at v'
    unfold mrw at v'
    rw [rvP_pos (by omega), Int.toNat_natCast] at v'
    rw [← v']
    have e54 : D 54 0 p = C 54 0 p := FD 54 0 p rfl
    have := congrFun vC (p : Int)
    rw [mrv_at (by omega)] at this
    have w2 := congrFun hv (p : Int)
    rw [mrv_at (by omega)] at w2
    rw [e54, this, w2]
  · have e76 := aG.2.2.2.1
    rw [eN, vE, eH] at e76
    have : c16 (kpM (up3 M 12 0 3 ((n + 1 : Nat) : Int)) w) = c16 (G 76 0) := c16_cg (fun j hj => by
      unfold kpM
      rw [up_r (show (88 : Nat) ≠ 12 by decide), FM 88 0 _ rfl, hH, sb_in hj])
    rw [this, e76]
    rfl
  · rw [up_r (show (90 : Nat) ≠ 12 by decide), hM]; simp [up3]
  · rw [up_r (show (91 : Nat) ≠ 12 by decide), hM]; simp [up3]
  · rw [up_r (show (92 : Nat) ≠ 12 by decide), hM]; simp [up3]
  · rw [up_s (by decide), hM, up_e]
end SHOWM
