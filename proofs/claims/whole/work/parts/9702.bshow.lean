/-! show, on both sides -/
theorem reL_app {I K : H3} {nf nf' nm ns ns' now made made' : Int} {lg dc : Nat} (h : reL nf nm ns now made I) (e : I 12 0 72 = (lg : Int)) (e' : K 12 0 72 = ((lg + 1 : Nat) : Int)) (hlg : lg + 1 ≤ 1900) (same : ∀ c, c < lg → K 90 0 c = I 90 0 c ∧ K 91 0 c = I 91 0 c ∧ K 92 0 c = I 92 0 c) (k0 : K 90 0 lg ≠ 0) (d : I 11 0 15 = (dc : Int)) (d' : K 11 0 15 = I 11 0 15 + 1) (sd : ∀ c, c ≠ dc → K 46 0 c = I 46 0 c ∧ K 47 0 c = I 47 0 c) (e93 : K 93 = I 93) (e86 : K 86 = I 86) (h94 : ∀ c : Nat, (c : Int) < ns → K 94 0 c = I 94 0 c) (h50 : ∀ f : Nat, (f : Int) < nf → K 50 0 f = I 50 0 f) (hnf : nf ≤ nf') (hns : ns ≤ ns') (sum : ns' + made' = ns + made + 1) (v94 : ∀ i : Nat, (i : Int) < ns → 0 ≤ I 94 0 i) (lst : dyN (K 90 0) lg = now → ddN (K 90 0) lg = (dc : Int) → rli nf' ns' K lg) (new : ∀ i : Nat, ns ≤ (i : Int) → (i : Int) < ns' → ∃ l : Nat, (K 93 0 (K 94 0 i).toNat).toNat ≤ l ∧ (l : Int) < K 12 0 72 ∧ K 90 0 l = 1 ∧ K 92 0 l = i) : reL nf' nm ns' now made' K := by
  obtain ⟨l1, l2, l3, l4, l5, l6⟩ := h
  rw [e, Int.toNat_natCast] at l2 l3
  have gc : ∀ l, l ≤ lg → dyN (K 90 0) l = dyN (I 90 0) l ∧ ddN (K 90 0) l = ddN (I 90 0) l := fun l hl => dyN_cg (fun j hj => (same j (by omega)).1)
  have g := gc lg (Nat.le_refl _)
  unfold reL
  rw [e', Int.toNat_natCast, dyN_s, ddN_s, if_neg k0, if_neg k0, g.1, g.2, d']
  refine ⟨by omega, l2, by omega, fun l hl => ?_, fun w hw => ?_, fun i hi => ?_⟩
  · by_cases q : l < lg
    · have old := l4 l (by omega)
      obtain ⟨s1, s2, s3⟩ := same l q
      obtain ⟨c1, c2⟩ := gc l (by omega)
      have ix : I 90 0 l ≠ 0 → (ddN (I 90 0) l).toNat ≠ dc := fun h0 => by
        have m := (dN_mono (I 90 0) (l + 1) (lg - (l + 1))).2
        rw [show l + 1 + (lg - (l + 1)) = lg by omega, ddN_s, if_neg h0] at m
        have := (dN_all (I 90 0) l).2.1
        omega
      unfold rli at old ⊢
      rw [s1, s2, s3, c1, c2]
      rcases old with q0 | ⟨q1, q2, q3, q4, q5⟩ | ⟨q1, q2, q3, q4, q5⟩
      · exact Or.inl q0
      · have h0 := ix (by omega)
        refine Or.inr (Or.inl ⟨q1, by omega, ?_, ?_, ?_⟩)
        · rw [h94 _ (by omega)]
          exact q3
        · rw [(sd _ h0).1]
          exact q4
        · rw [(sd _ h0).2]
          exact q5
      · have h0 := ix (by omega)
        refine Or.inr (Or.inr ⟨q1, by omega, ?_, ?_, ?_⟩)
        · rw [h50 _ (by omega)]
          exact q3
        · rw [(sd _ h0).1]
          exact q4
        · rw [(sd _ h0).2]
          exact q5
    · have q2 : l = lg := by omega
      subst q2
      exact lst (by rw [g.1]; exact l2.symm) (by rw [g.2]; omega)
  · obtain ⟨a1, a2, a3⟩ := l5 w hw
    rw [e93, e86]
    refine ⟨by omega, by rw [(gc _ (by omega)).1]; exact a2, fun l hl => ?_⟩
    rw [(same l (by omega)).1, (same l (by omega)).2.1]
    exact a3 l hl
  · by_cases q : (i : Int) < ns
    · obtain ⟨l, b1, b2, b3, b4⟩ := l6 i q
      refine ⟨l, ?_, by omega, ?_, ?_⟩
      · rw [e93, h94 i q]
        exact b1
      · rw [(same l (by omega)).1]
        exact b3
      · rw [(same l (by omega)).2.2]
        exact b4
    · have := new i (by omega) hi
      rw [e'] at this
      exact this
def sV (w n r i c : Nat) : Bool := (r == 6 && i == n) || ((r == 4 || r == 30) && i == 6 + n) || sX r i c || (r == 28 && i == w) || r == 46 || r == 47 || (r == 11 && (c == 13 || c == 15)) || sMs r i c || r == 88 || r == 90 || r == 91 || r == 92 || (r == 12 && (c == 3 || c == 72)) || decide (94 ≤ r ∧ r ≤ 103)
theorem rel_V {I K : H3} {t : Nat → Nat} {w n : Nat} (h : Rel I t) (hn : n < 100) (F : Fr (sV w n) I K) (pM : reM (I 11 0 10) (I 11 0 16) K) (pV : reV (I 11 0 10) (I 11 0 12) K) (pL : reL (I 11 0 10) (I 11 0 12) (K 11 0 13) (I 11 0 16) (I 11 0 11) K) (pU : reU (I 11 0 12) K) : Rel K t := by
  have hf := h.pF.1
  have b4 : ∀ i, i < 6 ∨ 106 ≤ i → K 4 i = I 4 i ∧ K 30 i = I 30 i := fun i hi => ⟨F.ri (fun c => by
    unfold sV sX sMs
    simp only [Bool.or_eq_false_iff, Bool.and_eq_false_iff, beq_eq_false_iff_ne, decide_eq_false_iff_not]
    omega), F.ri (fun c => by
    unfold sV sX sMs
    simp only [Bool.or_eq_false_iff, Bool.and_eq_false_iff, beq_eq_false_iff_ne, decide_eq_false_iff_not]
    omega)⟩
  have big : ∀ r, 105 ≤ r → r ≤ 114 → K r = I r := fun r r1 r2 => F.rg (fun i c => by
    unfold sV sX sMs
    simp only [Bool.or_eq_false_iff, Bool.and_eq_false_iff, beq_eq_false_iff_ne, decide_eq_false_iff_not]
    omega)
  exact rel_mk (F 11 0 10 rfl) (F 11 0 11 rfl) (F 11 0 12 rfl) rfl (F 11 0 16 rfl) h.pP
    (reF_cg (fun f _ => ⟨F.ri (fun _ => rfl), F.ri (fun _ => rfl)⟩) (fun f _ => c16_cg (fun _ _ => F 48 0 _ rfl)) (fun f _ => ⟨F 49 0 f rfl, F 50 0 f rfl⟩) (F 11 0 10 rfl) (F 12 0 1 rfl) h.pF)
    (reT_cg (F.rg (fun _ _ => rfl)) (F.rg (fun _ _ => rfl)) h.pT)
    (reR_cg (Int.le_refl _) (fun r hr => b4 r (Or.inl hr)) (F.rg (fun _ _ => rfl)) (F.rg (fun _ _ => rfl)) h.pR)
    (reH_cg (F.rg (fun _ _ => rfl)) (F.rg (fun _ _ => rfl)) (F.rg (fun _ _ => rfl)) (F.rg (fun _ _ => rfl)) (F.rg (fun _ _ => rfl)) (F.rg (fun _ _ => rfl)) (F.rg (fun _ _ => rfl)) h.pH)
    (reS_cg (F.rg (fun _ _ => rfl)) (F.rg (fun _ _ => rfl)) (F.rg (fun _ _ => rfl)) (F.rg (fun _ _ => rfl)) (F.rg (fun _ _ => rfl)) (F.rg (fun _ _ => rfl)) (F.rg (fun _ _ => rfl)) (F 12 0 33 rfl) h.pS)
    (reW_cg (F.rg (fun _ _ => rfl)) (F.rg (fun _ _ => rfl)) (F.rg (fun _ _ => rfl)) (F.rg (fun _ _ => rfl)) (F.rg (fun _ _ => rfl)) h.pW)
    (reB_cg (F.rg (fun _ _ => rfl)) (F.rg (fun _ _ => rfl)) (F.rg (fun _ _ => rfl)) (F 12 0 36 rfl) (F 12 0 43 rfl) (F 12 0 50 rfl) h.pB)
    pM pV
    (reO_cg (Int.le_refl _) (fun i _ _ => F.ri (fun _ => rfl)) (F.rg (fun _ _ => rfl)) (fun i hi => b4 i (Or.inr hi)) (fun r r1 r2 => big r r1 r2) (F 11 0 14 rfl) (F 12 0 4 rfl) h.pO)
    (reN_cg (F 11 0 16 rfl) (F 12 0 0 rfl) h.pN) pL
    (reC_cg (fun f _ => F 1 f 2 rfl) (F 11 0 11 rfl) h.pC) pU
theorem both_show (w r kind led push pick : Int) : Both 85 205 [vi w, vi r, vi kind, vi led, vi push, vi pick] := fun d I L t h => by
  have M := h.pM
  have mb := M.2.1
  have m0 := M.1
  have V := h.pV
  have vb := V.2.1
  have v0 := V.1
  have hf := h.pF.1
  have gw : 0 ≤ I 11 0 12 ∧ I 11 0 12 ≤ 2000 := by omega
  have gm : 0 ≤ I 12 0 2 ∧ I 12 0 2 ≤ 2000 := by omega
  by_cases a : 0 ≤ w ∧ w < I 11 0 12
  · have am2 : 0 ≤ w ∧ w < I 12 0 2 := by omega
    by_cases b : 0 ≤ r ∧ r < 6
    · by_cases k : 0 ≤ kind ∧ kind ≤ 2
      · by_cases e : I 11 0 13 < 100
        · obtain ⟨w, rfl⟩ : ∃ x : Nat, w = (x : Int) := ⟨w.toNat, by omega⟩
          obtain ⟨r, rfl⟩ : ∃ x : Nat, r = (x : Int) := ⟨r.toNat, by omega⟩
          obtain ⟨n, hn⟩ : ∃ n : Nat, I 11 0 13 = (n : Int) := ⟨(I 11 0 13).toNat, by omega⟩
          have h100 : n < 100 := by omega
          have hr : r < 6 := by omega
          have w20 : w < 20 := by omega
          obtain ⟨q1, q2, q3⟩ := h.rw' hr
          have rr := h.pR r hr
          have q53 : I 53 0 r = I 4 r 1 := rr.1
          have n3 : ¬ I 12 0 3 = 100 := by omega
          by_cases f : ldOk (I 4 r 1) led push
          · by_cases g : pick = -1 ∨ (kind ≠ 2 ∧ rv I r pick ≠ -1)
            · obtain ⟨J, cc, FJ, ⟨j1, j2, j3, j4, j5, j6, j7, j8⟩, ⟨jr, jp⟩, ⟨jm, jR⟩, jo, ⟨jd, je⟩, j15, j13⟩ := sp85 (d := d + 44) (L := L) h a.2 hr k hn h100 f g
              have am : ∀ r, r = 12 ∨ 48 ≤ r → J r = I r := fun r hr => FJ.rg (fun i c => by
                unfold sSc sX
                simp only [Bool.or_eq_false_iff, Bool.and_eq_false_iff, beq_eq_false_iff_ne]
                omega)
              have hK : Fr sK I J := fun r i c hc => by
                have := sK_mo hc
                rw [am r (by omega)]
              have hJ := ov_of hK
              have xmm : mmOk J := by rw [hJ]; exact h.mm
              have xfm : fmOk J := by rw [hJ]; exact h.fm
              have xmr : mrw J = mrw I := by rw [hJ]; rfl
              have xro : mrOk J r := by rw [hJ]; exact q2
              have xmod : modW J w = modW I w := by rw [hJ]; rfl
              have xsu : msuP J w = msuP I w := by rw [hJ]; rfl
              have xA : mA J w = mA I w := by rw [hJ]; rfl
              have xG : mG J w (w32 (J 12 0 0 - J 86 0 w)) = mG I w (w32 (I 12 0 0 - I 86 0 w)) := by rw [hJ]; rfl
              have xN : nM J = nM I := by rw [hJ]; rfl
              have xkp : kpM J = kpM I := by rw [hJ]; rfl
              obtain ⟨l1, l2, l3, l4, l5, l6⟩ := id h.pL
              obtain ⟨lg, elg⟩ : ∃ lg : Nat, I 12 0 72 = (lg : Int) := ⟨(I 12 0 72).toNat, by omega⟩
              rw [elg, Int.toNat_natCast] at l2 l3
              have hall := dN_all (I 90 0) lg
              have hnow := h.pN.2
              have hmade := h.made
              have hlg : lg + 1 ≤ 1900 := by omega
              obtain ⟨dc, edc⟩ : ∃ dc : Nat, I 11 0 15 = (dc : Int) := ⟨(I 11 0 15).toNat, by omega⟩
              rw [edc, Int.toNat_natCast] at jo jd je
              obtain ⟨J1, t1, F1, e1, v1, ln1⟩ := sp156 (d := d + 49) (I := J) (L := L) (t := t) hr xro
              have ln9 := ln1.1
              have e1' : J1 12 0 12 = I 4 r 1 := by rw [e1, am 53 (by omega), q53]
              have gJ : pick = -1 ∨ (kind ≠ 2 ∧ mrw J r pick ≠ -1) := by rw [xmr, q3]; exact g
              obtain ⟨K, cm1, FK, ⟨k94, k95, k96, k97, k98, k99, k100, k101, k103⟩, k102, kkp, ⟨k90, k91, k92⟩, k72, k3⟩ := sp205 (d := d + 44) (L := L) (t := t) (led := led) (push := push) (pick := pick) xmm xfm (by rw [am 12 (by omega)]; exact am2.2) hr F1 ln1 v1 e1 k (by rw [am 12 (by omega), v0, hn]) h100 f.1 gJ (by rw [am 12 (by omega)]; exact elg) (by omega)
              have gmJ : 0 ≤ J 12 0 2 ∧ J 12 0 2 ≤ 2000 := by rw [am 12 (by omega)]; exact gm
              have aJ : 0 ≤ (w : Int) ∧ (w : Int) < J 12 0 2 := by rw [am 12 (by omega)]; exact am2
              have n3J : ¬ J 12 0 3 = 100 := by rw [am 12 (by omega)]; exact n3
              have g2 : 0 ≤ J1 12 0 12 ∧ J1 12 0 12 ≤ 2000 := by omega
              have cm : Cal (d + 50) 205 [vr 12 0, vi (w : Int), vi (r : Int), vi kind, vi led, vi push, vi pick] (mk J L t) = Res (d + 50) 205 99 [vr 12 0, vi (w : Int), vi (r : Int), vi kind, vi led, vi push, vi pick, vx, vx] [] (mk J1 L t) := by
                have pin : pick ≠ -1 → (kind ≠ 2) ∧ (0 ≤ pick ∧ pick < J1 12 0 12) ∧ (0 ≤ pick ∧ pick < 9) ∧ ¬ J1 54 0 pick.toNat = -1 := fun z => by
                  have g' := g.resolve_left z
                  have v9 : mrv J1 pick ≠ -1 := by rw [v1, xmr, q3]; exact g'.2
                  have k9 : 0 ≤ pick ∧ pick < J1 12 0 12 := by
                    refine Classical.byContradiction (fun y => v9 ?_)
                    unfold mrv
                    exact rvP_neg y
                  refine ⟨g'.1, k9, by omega, ?_⟩
                  unfold mrv at v9
                  rw [rvP_pos k9] at v9
                  exact v9
                by_cases x : led = -1
                · by_cases y : pick = -1
                  · exact P205_0_15 (d := d + 48) (g1 := gmJ) (h1 := aJ) (h2 := b) (h3 := k) (h4 := f.1) (h5 := n3J) (c1 := t1) (h6 := x) (h7 := y)
                  · obtain ⟨p1, p2, p3, p4⟩ := pin y
                    exact P205_0_13 (d := d + 48) (g1 := gmJ) (h1 := aJ) (h2 := b) (h3 := k) (h4 := f.1) (h5 := n3J) (c1 := t1) (h6 := x) (h7 := y) (h8 := p1) (g2 := g2) (h9 := p2) (g3 := p3) (h10 := p4)
                · have xl := f.2.resolve_left x
                  by_cases y : pick = -1
                  · exact P205_0_10 (d := d + 48) (g1 := gmJ) (h1 := aJ) (h2 := b) (h3 := k) (h4 := f.1) (h5 := n3J) (c1 := t1) (h6 := x) (g2 := g2) (h7 := by omega) (h8 := y)
                  · obtain ⟨p1, p2, p3, p4⟩ := pin y
                    exact P205_0_8 (d := d + 48) (g1 := gmJ) (h1 := aJ) (h2 := b) (h3 := k) (h4 := f.1) (h5 := n3J) (c1 := t1) (h6 := x) (g2 := g2) (h7 := by omega) (h8 := y) (h9 := p1) (h10 := p2) (g3 := p3) (h11 := p4)
              have kJ : ∀ r i, r < 12 ∨ r = 28 ∨ r = 29 ∨ r = 30 ∨ r = 46 ∨ r = 47 → K r i = J r i := fun r i hr => FK.ri (fun c => by
                unfold sSm sMs
                simp only [Bool.or_eq_false_iff, Bool.and_eq_false_iff, beq_eq_false_iff_ne, decide_eq_false_iff_not]
                omega)
              have kI : ∀ r, 48 ≤ r → r ≤ 53 ∨ (80 ≤ r ∧ r ≤ 87) ∨ r = 89 ∨ r = 93 → K r = I r := fun r r0 hr => by
                rw [← am r (by omega)]
                exact FK.rg (fun i c => by
                  unfold sSm sMs
                  simp only [Bool.or_eq_false_iff, Bool.and_eq_false_iff, beq_eq_false_iff_ne, decide_eq_false_iff_not]
                  omega)
              have kc : ∀ r c, 94 ≤ r → r ≤ 103 → r ≠ 102 → c ≠ n → K r 0 c = I r 0 c := fun r c r1 r2 r3 hc => by
                rw [← am r (by omega)]
                exact FK r 0 c (by
                  unfold sSm sMs
                  simp only [Bool.or_eq_false_iff, Bool.and_eq_false_iff, beq_eq_false_iff_ne, decide_eq_false_iff_not]
                  omega)
              have klog : ∀ c, c < lg → K 90 0 c = I 90 0 c ∧ K 91 0 c = I 91 0 c ∧ K 92 0 c = I 92 0 c := fun c hc => by
                have z : ∀ r, r = 90 ∨ r = 91 ∨ r = 92 → K r 0 c = I r 0 c := fun r hr => by
                  rw [← am r (by omega)]
                  exact FK r 0 c (by
                    unfold sSm sMs
                    simp only [Bool.or_eq_false_iff, Bool.and_eq_false_iff, beq_eq_false_iff_ne, decide_eq_false_iff_not]
                    omega)
                exact ⟨z 90 (by omega), z 91 (by omega), z 92 (by omega)⟩
              have G : Fr (sV w n) I K := (FJ.mo (fun r i c k => by
                unfold sV at k
                unfold sSc
                simp only [Bool.or_eq_false_iff] at k ⊢
                exact k.1.1.1.1.1.1.1)).tr (FK.mo (fun r i c k => by
                unfold sV at k
                unfold sSm
                simp only [Bool.or_eq_false_iff, Bool.and_eq_false_iff, beq_eq_false_iff_ne, decide_eq_false_iff_not] at k ⊢
                obtain ⟨⟨⟨⟨⟨⟨⟨kk, kms⟩, k88⟩, k90⟩, k91⟩, k92⟩, k12⟩, k94⟩ := k
                clear kk
                exact ⟨⟨⟨⟨⟨kms, Or.inl k88⟩, Or.inl ⟨⟨k90, k91⟩, k92⟩⟩, k12⟩, Or.inl (fun z => k94 ⟨z.1, z.2.1⟩)⟩, Or.inl (fun z => k94 ⟨by omega, by omega⟩)⟩))
              have k13 : K 11 0 13 = ((n + 1 : Nat) : Int) := by rw [kJ 11 0 (by omega), j13]
              have rB : rvB (rv I r) := q1.2
              refine ⟨_, _, L, _, L, t, cc, Eq.trans cm cm1, rel_V h h100 G ⟨by rw [G 12 0 2 rfl, G 11 0 12 rfl]; exact m0, by rw [G 11 0 12 rfl]; exact mb, fun x hx => ?_⟩ ⟨by rw [k3, k13], by rw [k13]; omega, fun i hi => ?_⟩ ?_ ?_⟩
              · rw [G 11 0 12 rfl] at hx
                have old := M.2.2 x hx
                have e3 : K 3 = I 3 := G.rg (fun _ _ => rfl)
                have e29 : K 29 = I 29 := G.rg (fun _ _ => rfl)
                have ekt : ktM K x = ktM I x := by unfold ktM; rw [kI 89 (by decide) (by omega)]
                unfold rmi
                rw [e3, e29, ekt, kI 80 (by decide) (by omega), kI 81 (by decide) (by omega), kI 82 (by decide) (by omega), kI 83 (by decide) (by omega), kI 84 (by decide) (by omega), kI 85 (by decide) (by omega), kI 86 (by decide) (by omega), kI 87 (by decide) (by omega)]
                obtain ⟨o1, o2, o3, o4, o5, o6, o7, o8, o9⟩ := old
                refine ⟨o1, o2, o3, o4, o5, o6, o7, ?_, o9⟩
                by_cases z : x = w
                · subst z
                  rw [kJ 28 x (by omega)]
                  refine ⟨?_, jR⟩
                  rw [kkp, xmr, q3, xA, xG, xN, xkp, h.eA a.2, h.eG2 a.2, o8.1, jm]
                  exact shwP_cg (fun f hf => (h.eF f hf).symm) rB
                · have e28 : K 28 x = I 28 x := by
                    rw [kJ 28 x (by omega)]
                    exact FJ.ri (fun c => by
                      unfold sSc sX
                      simp only [Bool.or_eq_false_iff, Bool.and_eq_false_iff, beq_eq_false_iff_ne]
                      omega)
                  have ek : c16 (kpM K x) = c16 (kpM I x) := c16_cg (fun j hj => by
                    unfold kpM
                    rw [← am 88 (by omega)]
                    exact FK 88 0 _ (by
                      unfold sSm sMs
                      simp only [Bool.or_eq_false_iff, Bool.and_eq_false_iff, beq_eq_false_iff_ne, decide_eq_false_iff_not]
                      omega))
                  rw [e28, ek]
                  exact o8
              · rw [k13] at hi
                by_cases z : i = n
                · subst z
                  have e53 : J 53 = I 53 := am 53 (by omega)
                  have e52 : J 52 = I 52 := am 52 (by omega)
                  unfold rsi
                  rw [k94, k95, k96, k97, k98, k99, k100, k101, k103, kJ 6 i (by omega), kJ 4 (6 + i) (by omega), j1, j2, j3, j4, j5, j6, j7, j8, jr, xmod, xsu, xmr, q3, am 12 (by omega), h.pN.1, e53, h.eod a.2]
                  refine ⟨⟨rfl, a⟩, ⟨rfl, k⟩, rfl, rfl, rfl, ⟨rfl, f.1⟩, rfl, ?_, ⟨q53, rr.2.1, fun p hp => ?_⟩, ?_⟩
                  · unfold msuP
                    rw [h.esu a.2 rB, suW_Q]
                  · have := rr.2.2 p hp
                    have p9 : p < 9 := by have := rr.2.1; omega
                    show K 102 0 (9 * i + p) = _ ∧ _
                    rw [k102 p (by rw [e53, q53]; exact hp), e52, kJ 30 (6 + i) (by omega), jp p p9]
                    exact this
                  · rcases g with g | g
                    · exact Or.inl g
                    · right
                      unfold rv
                      rw [kJ 4 (6 + i) (by omega), kJ 30 (6 + i) (by omega), jr, rvP_cg (f := J 30 (6 + i)) (g := I 30 r) (fun j hj => jp j (by have := rr.2.1; omega))]
                      exact g.2
                · have hin : i < n := by omega
                  refine rsi_cg (Int.le_refl _) (Int.le_refl _) ?_ ?_ ?_ (fun r r1 r2 => kc r i (by omega) (by omega) (by omega) z) (kc 103 i (by decide) (by decide) (by decide) z) (fun p hp => ?_) (V.2.2 i (by omega))
                  · exact G.ri (fun c => by
                      unfold sV sX sMs
                      simp only [Bool.or_eq_false_iff, Bool.and_eq_false_iff, beq_eq_false_iff_ne, decide_eq_false_iff_not]
                      omega)
                  · exact G.ri (fun c => by
                      unfold sV sX sMs
                      simp only [Bool.or_eq_false_iff, Bool.and_eq_false_iff, beq_eq_false_iff_ne, decide_eq_false_iff_not]
                      omega)
                  · exact G.ri (fun c => by
                      unfold sV sX sMs
                      simp only [Bool.or_eq_false_iff, Bool.and_eq_false_iff, beq_eq_false_iff_ne, decide_eq_false_iff_not]
                      omega)
                  · rw [← am 102 (by omega)]
                    exact FK 102 0 _ (by
                      unfold sSm sMs
                      simp only [Bool.or_eq_false_iff, Bool.and_eq_false_iff, beq_eq_false_iff_ne, decide_eq_false_iff_not]
                      omega)
              · rw [k13]
                refine reL_app (lg := lg) (dc := dc) h.pL elg k72 hlg klog (by rw [k90]; decide) edc (by rw [kJ 11 0 (by omega), j15]) (fun c hc => by rw [kJ 46 0 (by omega), kJ 47 0 (by omega)]; exact jo c hc) (kI 93 (by decide) (by omega)) (kI 86 (by decide) (by omega)) (fun c hc => kc 94 c (by decide) (by decide) (by decide) (by omega)) (fun f _ => by rw [kI 50 (by decide) (by omega)]) (Int.le_refl _) (by omega) (by omega) (fun i hi => by have := (V.2.2 i hi).1; omega) (fun dy dd => ?_) (fun i i1 i2 => ?_)
                · unfold rli
                  rw [k90, k92, k91, dy, dd, Int.toNat_natCast, Int.toNat_natCast, k94, kJ 46 0 (by omega), kJ 47 0 (by omega), jd, je]
                  exact Or.inr (Or.inl ⟨rfl, by omega, rfl, rfl, rfl⟩)
                · have z : i = n := by omega
                  subst z
                  refine ⟨lg, ?_, by rw [k72]; omega, k90, k92⟩
                  rw [k94, Int.toNat_natCast, kI 93 (by decide) (by omega)]
                  have := (l5 w a.2).1
                  omega
              · have U := h.pU
                unfold reU
                rw [k72]
                refine ⟨fun x x1 x2 => ?_, fun l hl h0 => ?_, fun w hw => by rw [G 60 0 w rfl]; exact U.2.2 w hw⟩
                · rw [G 3 x 8 rfl, kI 87 (by decide) (by omega)]
                  exact U.1 x x1 x2
                · by_cases z : l < lg
                  · rw [(klog l z).2.1]
                    rw [(klog l z).1] at h0
                    exact U.2.1 l (by omega) h0
                  · have : l = lg := by omega
                    subst this
                    rw [k91]
                    exact a.2
            · -- no pick
              have cc := P85_0_4 (d := d + 48) (I := I) (L := L) (t := t) (x1 := (w : Int)) (x2 := (r : Int)) (x3 := kind) (x4 := led) (x5 := push) (x6 := pick) (g1 := gw) (h1 := a) (h2 := b) (h3 := k) (h4 := e) (c1 := by rw [Int.toNat_natCast]; exact sp110t (d := d + 48) f) (c2 := by rw [Int.toNat_natCast]; exact sp111f (d := d + 48) q1.1 g)
              obtain ⟨J1, t1, F1, e1, v1, ln1⟩ := sp156 (d := d + 49) (L := L) (t := t) hr q2
              have ln9 := ln1.1
              have g2 : 0 ≤ J1 12 0 12 ∧ J1 12 0 12 ≤ 2000 := by omega
              have y : ¬ pick = -1 := fun z => g (Or.inl z)
              refine ⟨-1, I, L, J1, L, t, cc, ?_, q_rel (sLn_q F1) h⟩
              have zz : kind ≠ 2 → (0 ≤ pick ∧ pick < J1 12 0 12) → (0 ≤ pick ∧ pick < 9) ∧ J1 54 0 pick.toNat = -1 := fun k2 z => by
                refine ⟨by omega, Classical.byContradiction (fun u => g (Or.inr ⟨k2, ?_⟩))⟩
                rw [← q3, ← v1]
                unfold mrv
                rw [rvP_pos z]
                exact u
              by_cases x : led = -1
              · by_cases k2 : kind = 2
                · exact P205_0_14 (d := d + 48) (g1 := gm) (h1 := am2) (h2 := b) (h3 := k) (h4 := f.1) (h5 := n3) (c1 := t1) (h6 := x) (h7 := y) (h8 := k2)
                · by_cases z : 0 ≤ pick ∧ pick < J1 12 0 12
                  · obtain ⟨z1, z2⟩ := zz k2 z
                    exact P205_0_12 (d := d + 48) (g1 := gm) (h1 := am2) (h2 := b) (h3 := k) (h4 := f.1) (h5 := n3) (c1 := t1) (h6 := x) (h7 := y) (h8 := k2) (g2 := g2) (h9 := z) (g3 := z1) (h10 := z2)
                  · exact P205_0_11 (d := d + 48) (g1 := gm) (h1 := am2) (h2 := b) (h3 := k) (h4 := f.1) (h5 := n3) (c1 := t1) (h6 := x) (h7 := y) (h8 := k2) (g2 := g2) (h9 := z)
              · have xl := f.2.resolve_left x
                have xl' : 0 ≤ led ∧ led < J1 12 0 12 := by omega
                by_cases k2 : kind = 2
                · exact P205_0_9 (d := d + 48) (g1 := gm) (h1 := am2) (h2 := b) (h3 := k) (h4 := f.1) (h5 := n3) (c1 := t1) (h6 := x) (g2 := g2) (h7 := xl') (h8 := y) (h9 := k2)
                · by_cases z : 0 ≤ pick ∧ pick < J1 12 0 12
                  · obtain ⟨z1, z2⟩ := zz k2 z
                    exact P205_0_7 (d := d + 48) (g1 := gm) (h1 := am2) (h2 := b) (h3 := k) (h4 := f.1) (h5 := n3) (c1 := t1) (h6 := x) (g2 := g2) (h7 := xl') (h8 := y) (h9 := k2) (h10 := z) (g3 := z1) (h11 := z2)
                  · exact P205_0_6 (d := d + 48) (g1 := gm) (h1 := am2) (h2 := b) (h3 := k) (h4 := f.1) (h5 := n3) (c1 := t1) (h6 := x) (g2 := g2) (h7 := xl') (h8 := y) (h9 := k2) (h10 := z)
          · -- not led
            have cc := P85_0_9 (d := d + 48) (I := I) (L := L) (t := t) (x1 := (w : Int)) (x2 := (r : Int)) (x3 := kind) (x4 := led) (x5 := push) (x6 := pick) (g1 := gw) (h1 := a) (h2 := b) (h3 := k) (h4 := e) (c1 := by rw [Int.toNat_natCast]; exact sp110f (d := d + 48) f)
            by_cases p : 0 ≤ push ∧ push ≤ 99
            · obtain ⟨J1, t1, F1, e1, v1, ln1⟩ := sp156 (d := d + 49) (L := L) (t := t) hr q2
              have ln9 := ln1.1
              have x : ¬ led = -1 := fun z => f ⟨p, Or.inl z⟩
              refine ⟨-1, I, L, J1, L, t, cc, ?_, q_rel (sLn_q F1) h⟩
              exact P205_0_5 (d := d + 48) (g1 := gm) (h1 := am2) (h2 := b) (h3 := k) (h4 := p) (h5 := n3) (c1 := t1) (h6 := x) (g2 := by omega) (h7 := fun z => f ⟨p, Or.inr (by omega)⟩)
            · exact ⟨-1, I, L, I, L, t, cc, P205_0_3 (d := d + 48) (g1 := gm) (h1 := am2) (h2 := b) (h3 := k) (h4 := p), h⟩
        · refine ⟨-1, I, L, I, L, t, P85_0_3 (d := d + 48) (g1 := gw) (h1 := a) (h2 := b) (h3 := k) (h4 := by omega), ?_, h⟩
          by_cases p : 0 ≤ push ∧ push ≤ 99
          · exact P205_0_4 (d := d + 48) (g1 := gm) (h1 := am2) (h2 := b) (h3 := k) (h4 := p) (h5 := by omega)
          · exact P205_0_3 (d := d + 48) (g1 := gm) (h1 := am2) (h2 := b) (h3 := k) (h4 := p)
      · exact ⟨-1, I, L, I, L, t, P85_0_2 (d := d + 48) (g1 := gw) (h1 := a) (h2 := b) (h3 := k), P205_0_2 (d := d + 48) (g1 := gm) (h1 := am2) (h2 := b) (h3 := k), h⟩
    · exact ⟨-1, I, L, I, L, t, P85_0_1 (d := d + 48) (g1 := gw) (h1 := a) (h2 := b), P205_0_1 (d := d + 48) (g1 := gm) (h1 := am2) (h2 := b), h⟩
  · exact ⟨-1, I, L, I, L, t, P85_0_0 (d := d + 48) (g1 := gw) (h1 := a), P205_0_0 (d := d + 48) (g1 := gm) (h1 := by omega), h⟩
