/-! the model: replays -/
/-- an entry of the log done again -/
def mst3 (A : Nat → (Nat → Int) → Int) (G : Int → Nat → Int) (ty : Nat → Int) (F : Nat → Nat → Int) (rvs : Nat → Int → Int) (pk : Nat → Int) (w without : Int) (e : Int × Int × Int) (s : SS) : SS :=
  let s1 := if e.1 = 0 then dayP A G ty s else s
  let s2 := if e.2.1 = w ∧ e.1 = 1 ∧ e.2.2 ≠ without then (shwP F (rvs e.2.2.toNat) (A 3 (G s1.2)) (pk e.2.2.toNat) s1.1, s1.2) else s1
  if e.2.1 = w ∧ e.1 = 2 then (pulP (A 3 (G s2.2)) (F e.2.2.toNat) s2.1, s2.2) else s2
def mrF (lg : Nat → Int × Int × Int) (st : Int × Int × Int → SS → SS) (i : Int) : Nat → Nat → SS → SS
  | 0, _, s => s
  | n + 1, l, s => if (lg l).1 = 1 ∧ (lg l).2.2 = i then s else mrF lg st i n (l + 1) (st (lg l) s)
def lgM (I : H3) (l : Nat) : Int × Int × Int := (I 90 0 l, I 91 0 l, I 92 0 l)
/-- witnesses, showings, the log of the model in bounds -/
def mwiOk (I : H3) (w : Nat) : Prop := ((0 ≤ I 80 0 w ∧ I 80 0 w < 4) ∧ mhOk I (I 80 0 w).toNat ∧ okH (mH I (I 80 0 w).toNat)) ∧ (0 ≤ I 82 0 w ∧ I 82 0 w < 120) ∧ R31 (kpM I w) ∧ R31 (ktM I w) ∧ 0 ≤ I 93 0 w
def mmOk (I : H3) : Prop := (0 ≤ I 12 0 2 ∧ I 12 0 2 ≤ 20) ∧ ∀ w : Nat, (w : Int) < I 12 0 2 → mwiOk I w
def mshOk (I : H3) (i : Nat) : Prop := (0 ≤ I 94 0 i ∧ I 94 0 i < I 12 0 2) ∧ msOk I i ∧ (0 ≤ I 99 0 i ∧ I 99 0 i ≤ 99) ∧ (I 97 0 i = -1 ∨ msw I i (I 97 0 i) ≠ -1)
def msvOk (I : H3) : Prop := (0 ≤ I 12 0 3 ∧ I 12 0 3 ≤ 100) ∧ ∀ i : Nat, (i : Int) < I 12 0 3 → mshOk I i
/-- an entry of the log in bounds -/
def mleOk (I : H3) (l : Nat) : Prop := (I 90 0 l = 0 ∨ I 90 0 l = 1 ∨ I 90 0 l = 2) ∧ (I 90 0 l = 1 → 0 ≤ I 92 0 l ∧ I 92 0 l < I 12 0 3) ∧ (I 90 0 l = 2 → 0 ≤ I 92 0 l ∧ I 92 0 l < 120)
def mlgOk (I : H3) : Prop := (0 ≤ I 12 0 72 ∧ I 12 0 72 ≤ 1900) ∧ ∀ l : Nat, (l : Int) < I 12 0 72 → mleOk I l
/-- showing i is in the log, once its witness is there -/
def mlsOk (I : H3) : Prop := ∀ i : Nat, (i : Int) < I 12 0 3 → ∃ l : Nat, (I 93 0 (I 94 0 i).toNat).toNat ≤ l ∧ (l : Int) < I 12 0 72 ∧ I 90 0 l = 1 ∧ I 92 0 l = i
def mrpOk (I : H3) : Prop := fmOk I ∧ mmOk I ∧ msvOk I ∧ mlgOk I ∧ mlsOk I
def mA (I : H3) (w : Nat) : Nat → (Nat → Int) → Int := ans (mH I (I 80 0 w).toNat)
def mG (I : H3) (w : Nat) : Int → Nat → Int := gvT (I 83 0 w) (I 84 0 w) (I 85 0 w) (I 87 0 w)
def mstW (I : H3) (w : Nat) (without : Int) : Int × Int × Int → SS → SS := mst3 (mA I w) (mG I w) (c16 (ktM I w)) (nM I) (msw I) (I 97 0) w without
def mopS (I : H3) (i w : Nat) (s : SS) : Int := oP (odQ (mA I w) (mG I w s.2) (mfa I (I 80 0 w).toNat (mG I w s.2) (I 81 0 w) s.1) (msw I i) (decide (I 95 0 i ≠ 0)) (I 98 0 i) (I 99 0 i)) (I 97 0 i)
section MREP
variable {d i w : Nat} {I0 L : H3} {t : Nat → Nat} {without : Int}
theorem s_msw {I J : H3} (F : Fr sMs I J) : msw J = msw I := by
  funext r
  unfold msw
  rw [F.ri (r := 103) (i := 0) (fun _ => rfl), F.ri (r := 102) (i := 0) (fun _ => rfl)]
theorem s_msOk {I J : H3} (F : Fr sMs I J) {i : Nat} (h : msOk I i) : msOk J i := by
  unfold msOk
  rw [s_msw F, F 103 0 i rfl]
  exact h
theorem l236t (hw : w < 20) : ∀ (n j : Nat) (I : H3), j + n = 16 → Fr s77 I0 I → (∀ c, c < j → I 77 0 c = ktM I0 w c) →
    ∃ J, Res (d + 1) 236 56 [vr 12 0, vi (i : Int), vi without, vi (w : Int), vi (j : Int), vx] [] (mk I L t) = Res (d + 1) 236 96 [vr 12 0, vi (i : Int), vi without, vi (w : Int), vi (I0 93 0 w), vx] [] (mk J L t) ∧ Fr s77 I0 J ∧ ∀ c, c < 16 → J 77 0 c = ktM I0 w c
  | 0, j, I, hj, F, hv => by
    refine ⟨I, Eq.trans (P236_56_1 (h1 := by omega) (g1 := by omega)) ?_, F, fun c hc => hv c (by omega)⟩
    rw [Int.toNat_natCast, F 93 0 w rfl]
  | n + 1, j, I, hj, F, hv => by
    have ix := ix16 (f := w) (k := j) (by omega) (by omega)
    obtain ⟨J, hr, hJ⟩ := l236t hw n (j + 1) (up3 I 77 0 j (ktM I0 w j)) (by omega) (F.up rfl) (fun c hc => by
      by_cases q : c = j
      · subst q
        rw [up_e]
      · rw [up_s q]
        exact hv c (by omega))
    refine ⟨J, Eq.trans (P236_56_0 (h1 := by omega) (g1 := by rw [ix]; omega) (g2 := by omega)) ?_, hJ⟩
    rw [ix, lem_w32k (k := j) (by omega), Int.toNat_natCast, Int.toNat_natCast, F 89 0 (16 * w + j) rfl]
    exact hr
/-- an entry -/
theorem l236e (hk : mrpOk I0) (hw : (w : Int) < I0 12 0 2) {l : Nat} (hl : (l : Int) < I0 12 0 72) (hn : ¬ (I0 90 0 l = 1 ∧ I0 92 0 l = i)) {I : H3} {s : SS} {u5 : MV} (F : Fr sMs I0 I) (a : MAt I (I0 80 0 w).toNat (I0 81 0 w) (gvT (I0 83 0 w) (I0 84 0 w) (I0 85 0 w) (I0 87 0 w)) s.1 (c16 (ktM I0 w)) s.2) :
    ∃ J u5', Res (d + 3) 236 96 [vr 12 0, vi (i : Int), vi without, vi (w : Int), vi (l : Int), u5] [] (mk I L t) = Res (d + 3) 236 96 [vr 12 0, vi (i : Int), vi without, vi (w : Int), vi ((l + 1 : Nat) : Int), u5'] [] (mk J L t) ∧ Fr sMs I0 J ∧ MAt J (I0 80 0 w).toNat (I0 81 0 w) (gvT (I0 83 0 w) (I0 84 0 w) (I0 85 0 w) (I0 87 0 w)) (mstW I0 w without (lgM I0 l) s).1 (c16 (ktM I0 w)) (mstW I0 w without (lgM I0 l) s).2 := by
  obtain ⟨hF0, hmm, hsv, hlg, hls⟩ := hk
  have hwi := hmm.2 w hw
  have hlb := hlg.1
  have hle := hlg.2 l hl
  have e90 : ∀ J, Fr sMs I0 J → J 90 0 l = I0 90 0 l := fun J q => q 90 0 l rfl
  have e91 : ∀ J, Fr sMs I0 J → J 91 0 l = I0 91 0 l := fun J q => q 91 0 l rfl
  have e92 : ∀ J, Fr sMs I0 J → J 92 0 l = I0 92 0 l := fun J q => q 92 0 l rfl
  have s96 : Res (d + 3) 236 96 [vr 12 0, vi (i : Int), vi without, vi (w : Int), vi (l : Int), u5] [] (mk I L t) = Res (d + 3) 236 118 [vr 12 0, vi (i : Int), vi without, vi (w : Int), vi (l : Int), u5] [] (mk I L t) := by
    by_cases c : I0 90 0 l = 1
    · exact P236_96_0 (g1 := by omega) (h1 := by rw [Int.toNat_natCast, e90 I F]; exact c) (h2 := by rw [Int.toNat_natCast, e92 I F]; exact fun q => hn ⟨c, q⟩)
    · exact P236_96_3 (g1 := by omega) (h1 := by rw [Int.toNat_natCast, e90 I F]; exact c)
  -- a day
  obtain ⟨J1, c1, F1, a1⟩ := mnone (d := d + 2) (L := L) (t := t) a
  have G1 : Fr sMs I0 J1 := F.tr (s75_s F1)
  have st1 : ∃ J2, Res (d + 3) 236 118 [vr 12 0, vi (i : Int), vi without, vi (w : Int), vi (l : Int), u5] [] (mk I L t) = Res (d + 3) 236 136 [vr 12 0, vi (i : Int), vi without, vi (w : Int), vi (l : Int), u5] [] (mk J2 L t) ∧ Fr sMs I0 J2 ∧ MAt J2 (I0 80 0 w).toNat (I0 81 0 w) (gvT (I0 83 0 w) (I0 84 0 w) (I0 85 0 w) (I0 87 0 w)) (if I0 90 0 l = 0 then dayP (mA I0 w) (mG I0 w) (c16 (ktM I0 w)) s else s).1 (c16 (ktM I0 w)) (if I0 90 0 l = 0 then dayP (mA I0 w) (mG I0 w) (c16 (ktM I0 w)) s else s).2 := by
    by_cases c : I0 90 0 l = 0
    · obtain ⟨J2, c2, F2, a2⟩ := mday (d := d) (L := L) (t := t) a1 hwi.2.2.2.1.d
      rw [s_mH G1] at a2
      refine ⟨J2, P236_118_0 (c1 := c1) (g1 := by omega) (h1 := by rw [Int.toNat_natCast, e90 J1 G1]; exact c) (c2 := c2), G1.tr (sMy_s F2), ?_⟩
      rw [if_pos c]
      exact a2
    · refine ⟨J1, P236_118_1 (c1 := c1) (g1 := by omega) (h1 := by rw [Int.toNat_natCast, e90 J1 G1]; exact c), G1, ?_⟩
      rw [if_neg c]
      exact a1
  obtain ⟨J2, r2, G2, a2⟩ := st1
  -- a showing
  have st2 : ∃ J3 x5, (x5 = 0 ∨ x5 = 1) ∧ (x5 = 1 ↔ I0 91 0 l = w) ∧ Res (d + 3) 236 136 [vr 12 0, vi (i : Int), vi without, vi (w : Int), vi (l : Int), u5] [] (mk J2 L t) = Res (d + 3) 236 208 [vr 12 0, vi (i : Int), vi without, vi (w : Int), vi (l : Int), vi x5] [] (mk J3 L t) ∧ Fr sMs I0 J3 ∧ MAt J3 (I0 80 0 w).toNat (I0 81 0 w) (gvT (I0 83 0 w) (I0 84 0 w) (I0 85 0 w) (I0 87 0 w))
      (if I0 91 0 l = w ∧ I0 90 0 l = 1 ∧ I0 92 0 l ≠ without then (shwP (nM I0) (msw I0 (I0 92 0 l).toNat) (mA I0 w 3 (mG I0 w (if I0 90 0 l = 0 then dayP (mA I0 w) (mG I0 w) (c16 (ktM I0 w)) s else s).2)) (I0 97 0 (I0 92 0 l).toNat) (if I0 90 0 l = 0 then dayP (mA I0 w) (mG I0 w) (c16 (ktM I0 w)) s else s).1, (if I0 90 0 l = 0 then dayP (mA I0 w) (mG I0 w) (c16 (ktM I0 w)) s else s).2) else (if I0 90 0 l = 0 then dayP (mA I0 w) (mG I0 w) (c16 (ktM I0 w)) s else s)).1 (c16 (ktM I0 w))
      (if I0 91 0 l = w ∧ I0 90 0 l = 1 ∧ I0 92 0 l ≠ without then (shwP (nM I0) (msw I0 (I0 92 0 l).toNat) (mA I0 w 3 (mG I0 w (if I0 90 0 l = 0 then dayP (mA I0 w) (mG I0 w) (c16 (ktM I0 w)) s else s).2)) (I0 97 0 (I0 92 0 l).toNat) (if I0 90 0 l = 0 then dayP (mA I0 w) (mG I0 w) (c16 (ktM I0 w)) s else s).1, (if I0 90 0 l = 0 then dayP (mA I0 w) (mG I0 w) (c16 (ktM I0 w)) s else s).2) else (if I0 90 0 l = 0 then dayP (mA I0 w) (mG I0 w) (c16 (ktM I0 w)) s else s)).2 := by
    by_cases c1 : I0 91 0 l = w
    · by_cases c2 : I0 90 0 l = 1
      · by_cases c3 : I0 92 0 l = without
        · refine ⟨J2, 1, Or.inr rfl, ⟨fun _ => c1, fun _ => rfl⟩, P236_136_1 (g1 := by omega) (h1 := by rw [Int.toNat_natCast, e91 J2 G2]; exact c1) (h2 := by rw [Int.toNat_natCast, e90 J2 G2]; exact c2) (h3 := by rw [Int.toNat_natCast, e92 J2 G2]; exact c3), G2, ?_⟩
          rw [if_neg (fun q => q.2.2 c3)]
          exact a2
        · have hq := hle.2.1 c2
          have hsb := hsv.1
          have hsi := hsv.2 (I0 92 0 l).toNat (by omega)
          have e92n : (((I0 92 0 l).toNat : Nat) : Int) = I0 92 0 l := by omega
          obtain ⟨J3, c4, F3, e12, em, ln⟩ := sp207 (d := d + 2) (L := L) (t := t) (i := (I0 92 0 l).toNat) (I := J2) (by omega) (s_msOk G2 hsi.2.1)
          rw [e92n] at c4
          have G3 : Fr sMs I0 J3 := G2.tr (sLn_s F3)
          rw [s_msw G2] at em
          have a3 := a2.fr F3 rfl rfl (fun _ => ⟨rfl, rfl, rfl⟩) (fun _ => ⟨rfl, rfl⟩) (gvM_cg (F3.ri (fun _ => rfl)))
          have e97 : J3 97 0 (I0 92 0 l).toNat = I0 97 0 (I0 92 0 l).toNat := G3 97 0 _ rfl
          obtain ⟨J4, c5, F4, a4⟩ := mpulls (d := d) (L := L) (t := t) (pick := I0 97 0 (I0 92 0 l).toNat) a3 (by unfold fmOk; rw [s_nM G3]; exact hF0) ln (by rw [em]; exact hsi.2.2.2)
          rw [s_nM G3, em, s_mH G3] at a4
          refine ⟨J4, 1, Or.inr rfl, ⟨fun _ => c1, fun _ => rfl⟩, P236_136_0 (g1 := by omega) (h1 := by rw [Int.toNat_natCast, e91 J2 G2]; exact c1) (h2 := by rw [Int.toNat_natCast, e90 J2 G2]; exact c2) (h3 := by rw [Int.toNat_natCast, e92 J2 G2]; exact c3) (c1 := by rw [Int.toNat_natCast, e92 J2 G2]; exact c4) (g2 := by rw [Int.toNat_natCast, e92 J3 G3]; omega) (c2 := by rw [Int.toNat_natCast, e92 J3 G3, e97]; exact c5), G3.tr (sMy_s F4), ?_⟩
          rw [if_pos ⟨c1, c2, c3⟩]
          exact a4
      · refine ⟨J2, 1, Or.inr rfl, ⟨fun _ => c1, fun _ => rfl⟩, P236_136_2 (g1 := by omega) (h1 := by rw [Int.toNat_natCast, e91 J2 G2]; exact c1) (h2 := by rw [Int.toNat_natCast, e90 J2 G2]; exact c2), G2, ?_⟩
        rw [if_neg (fun q => c2 q.2.1)]
        exact a2
    · refine ⟨J2, 0, Or.inl rfl, ⟨fun q => (by cases q), fun q => absurd q c1⟩, P236_136_3 (g1 := by omega) (h1 := by rw [Int.toNat_natCast, e91 J2 G2]; exact c1), G2, ?_⟩
      rw [if_neg (fun q => c1 q.1)]
      exact a2
  obtain ⟨J3, x5, h01, hx5, r3, G3, a3⟩ := st2
  -- a face that was made
  show ∃ J u5', _ ∧ Fr sMs I0 J ∧ MAt J (I0 80 0 w).toNat (I0 81 0 w) (gvT (I0 83 0 w) (I0 84 0 w) (I0 85 0 w) (I0 87 0 w)) (if I0 91 0 l = w ∧ I0 90 0 l = 2 then (_ : SS) else (_ : SS)).1 (c16 (ktM I0 w)) (if I0 91 0 l = w ∧ I0 90 0 l = 2 then (_ : SS) else (_ : SS)).2
  have fr := Eq.trans s96 (Eq.trans r2 r3)
  by_cases c1 : I0 91 0 l = w
  · have hx1 : x5 = 1 := hx5.mpr c1
    subst hx1
    by_cases c2 : I0 90 0 l = 2
    · have hq := hle.2.2 c2
      obtain ⟨J4, c3, F4, a4⟩ := mask (d := d + 1) (L := L) (t := t) (w := 3) a3 (by decide)
      rw [s_mH G3] at c3
      have G4 : Fr sMs I0 J4 := G3.tr (s63_s F4)
      have h3 := ans_in (mH I0 (I0 80 0 w).toNat) (w := 3) (gvT (I0 83 0 w) (I0 84 0 w) (I0 85 0 w) (I0 87 0 w) (if I0 91 0 l = w ∧ I0 90 0 l = 1 ∧ I0 92 0 l ≠ without then (shwP (nM I0) (msw I0 (I0 92 0 l).toNat) (mA I0 w 3 (mG I0 w (if I0 90 0 l = 0 then dayP (mA I0 w) (mG I0 w) (c16 (ktM I0 w)) s else s).2)) (I0 97 0 (I0 92 0 l).toNat) (if I0 90 0 l = 0 then dayP (mA I0 w) (mG I0 w) (c16 (ktM I0 w)) s else s).1, (if I0 90 0 l = 0 then dayP (mA I0 w) (mG I0 w) (c16 (ktM I0 w)) s else s).2) else (if I0 90 0 l = 0 then dayP (mA I0 w) (mG I0 w) (c16 (ktM I0 w)) s else s)).2) (by decide)
      rw [r2_100.2.2.1, r2_100.2.2.2.1] at h3
      have e92n : (((I0 92 0 l).toNat : Nat) : Int) = I0 92 0 l := by omega
      obtain ⟨J5, c4, F5, a5⟩ := mpull (d := d + 2) (L := L) (t := t) (g := (I0 92 0 l).toNat) a4 h3 (by omega) (by unfold fmOk; rw [s_nM G4]; exact hF0)
      rw [e92n] at c4
      rw [s_nM G4] at a5
      refine ⟨J5, vi 1, Eq.trans fr (Eq.trans (P236_208_0 (h1 := by decide) (g1 := by omega) (h2 := by rw [Int.toNat_natCast, e90 J3 G3]; exact c2) (c1 := c3) (c2 := by rw [Int.toNat_natCast, e92 J4 G4]; exact c4)) ?_), G4.tr (s76_s F5), ?_⟩
      · rw [lem_w32k (by omega)]
      · rw [if_pos ⟨c1, c2⟩]
        exact a5
    · refine ⟨J3, vi 1, Eq.trans fr (Eq.trans (P236_208_1 (h1 := by decide) (g1 := by omega) (h2 := by rw [Int.toNat_natCast, e90 J3 G3]; exact c2)) ?_), G3, ?_⟩
      · rw [lem_w32k (by omega)]
      · rw [if_neg (fun q => c2 q.2)]
        exact a3
  · have hx0 : x5 = 0 := h01.resolve_right (fun q => c1 (hx5.mp q))
    subst hx0
    refine ⟨J3, vi 0, Eq.trans fr (Eq.trans (P236_208_2 (h1 := rfl)) ?_), G3, ?_⟩
    · rw [lem_w32k (by omega)]
    · rw [if_neg (fun q => c1 q.1)]
      exact a3
theorem l236 (hk : mrpOk I0) (hi : (i : Int) < I0 12 0 3) (hw : (w : Int) = I0 94 0 i) : ∀ (n l : Nat) (s : SS) (I : H3) (u5 : MV), ((l + n : Nat) : Int) < I0 12 0 72 → I0 90 0 (l + n) = 1 → I0 92 0 (l + n) = i → Fr sMs I0 I → MAt I (I0 80 0 w).toNat (I0 81 0 w) (gvT (I0 83 0 w) (I0 84 0 w) (I0 85 0 w) (I0 87 0 w)) s.1 (c16 (ktM I0 w)) s.2 →
    ∃ J, Res (d + 4) 236 96 [vr 12 0, vi (i : Int), vi without, vi (w : Int), vi (l : Int), u5] [] (mk I L t) = some (vi (mopS I0 i w (mrF (lgM I0) (mstW I0 w without) i n l s)), mk J L t) ∧ Fr sMs I0 J := by
  intro n
  have hsv := hk.2.2.1
  have hsi := hsv.2 i hi
  have hsb := hsv.1
  have hw12 : (w : Int) < I0 12 0 2 := by rw [hw]; exact hsi.1.2
  have hlb := hk.2.2.2.1.1
  -- the end
  have fin : ∀ (l : Nat) (s : SS) (I : H3) (u5 : MV), (l : Int) < I0 12 0 72 → I0 90 0 l = 1 → I0 92 0 l = i → Fr sMs I0 I → MAt I (I0 80 0 w).toNat (I0 81 0 w) (gvT (I0 83 0 w) (I0 84 0 w) (I0 85 0 w) (I0 87 0 w)) s.1 (c16 (ktM I0 w)) s.2 →
      ∃ J, Res (d + 4) 236 96 [vr 12 0, vi (i : Int), vi without, vi (w : Int), vi (l : Int), u5] [] (mk I L t) = some (vi (mopS I0 i w s), mk J L t) ∧ Fr sMs I0 J := by
    intro l s I u5 hl h90 h92 F a
    obtain ⟨J1, c1, F1, e12, em, ln⟩ := sp207 (d := d + 3) (L := L) (t := t) (i := i) (I := I) (by omega) (s_msOk F hsi.2.1)
    have G1 : Fr sMs I0 J1 := F.tr (sLn_s F1)
    rw [s_msw F] at em
    have a1 := a.fr F1 rfl rfl (fun _ => ⟨rfl, rfl, rfl⟩) (fun _ => ⟨rfl, rfl⟩) (gvM_cg (F1.ri (fun _ => rfl)))
    obtain ⟨J2, c2, F2, a2, o2⟩ := modds (d := d) (L := L) (t := t) (kind := I0 95 0 i) (led := I0 98 0 i) (push := I0 99 0 i) a1 ln hsi.2.2.1
    have G2 : Fr sMs I0 J2 := G1.tr (sMx_s F2)
    have e95 : J1 95 0 ((i : Int).toNat) = I0 95 0 i := G1 95 0 i rfl
    have e98 : J1 98 0 ((i : Int).toNat) = I0 98 0 i := G1 98 0 i rfl
    have e99 : J1 99 0 ((i : Int).toNat) = I0 99 0 i := G1 99 0 i rfl
    have e97 : J2 97 0 ((i : Int).toNat) = I0 97 0 i := G2 97 0 i rfl
    have eo : ∀ j, j < 10 → J2 78 0 j = odQ (mA I0 w) (mG I0 w s.2) (mfa I0 (I0 80 0 w).toNat (mG I0 w s.2) (I0 81 0 w) s.1) (msw I0 i) (decide (I0 95 0 i ≠ 0)) (I0 98 0 i) (I0 99 0 i) j := fun j hj => by
      rw [o2 j hj, s_mH G1, em, mfa_fr G1 (fun _ => ⟨rfl, rfl, rfl⟩) (fun _ => ⟨rfl, rfl⟩)]
      rfl
    have e90 : I 90 0 ((l : Int).toNat) = 1 := (F 90 0 l rfl).trans h90
    have e92 : I 92 0 ((l : Int).toNat) = (i : Int) := (F 92 0 l rfl).trans h92
    by_cases q : I0 97 0 i = -1
    · refine ⟨J2, Eq.trans (P236_96_1 (g1 := by omega) (h1 := e90) (h2 := e92) (c1 := c1) (g2 := by omega) (c2 := by rw [e95, e98, e99]; exact c2) (h3 := by rw [e97]; exact q)) ?_, G2⟩
      unfold mopS oP
      rw [q, if_neg (by decide), eo 9 (by decide)]
    · have hp := hsi.2.2.2.resolve_left q
      have hpk : 0 ≤ I0 97 0 i ∧ I0 97 0 i < 9 := by
        have h9 := hsi.2.1.1
        by_cases c : 0 ≤ I0 97 0 i ∧ I0 97 0 i < I0 103 0 i
        · omega
        · exact absurd (rvP_neg c) hp
      refine ⟨J2, Eq.trans (P236_96_2 (g1 := by omega) (h1 := e90) (h2 := e92) (c1 := c1) (g2 := by omega) (c2 := by rw [e95, e98, e99]; exact c2) (h3 := by rw [e97]; exact q) (g3 := by rw [e97]; omega)) ?_, G2⟩
      unfold mopS oP
      rw [if_pos (by omega), e97, eo _ (by omega)]
  induction n with
  | zero =>
    intro l s I u5 hl h90 h92 F a
    exact fin l s I u5 hl h90 h92 F a
  | succ n ih =>
    intro l s I u5 hl h90 h92 F a
    by_cases c : I0 90 0 l = 1 ∧ I0 92 0 l = i
    · have er : mrF (lgM I0) (mstW I0 w without) i (n + 1) l s = s := if_pos c
      rw [er]
      exact fin l s I u5 (by omega) c.1 c.2 F a
    · have er : mrF (lgM I0) (mstW I0 w without) i (n + 1) l s = mrF (lgM I0) (mstW I0 w without) i n (l + 1) (mstW I0 w without (lgM I0 l) s) := if_neg c
      rw [er]
      obtain ⟨J, u5', hr, G, aJ⟩ := l236e (d := d + 1) (L := L) (t := t) (i := i) (without := without) (l := l) (u5 := u5) hk hw12 (by omega) c F a
      obtain ⟨J2, hr2, G2⟩ := ih (l + 1) _ J u5' (by omega) (by rw [show l + 1 + n = l + (n + 1) by omega]; exact h90) (by rw [show l + 1 + n = l + (n + 1) by omega]; exact h92) G aJ
      exact ⟨J2, hr.trans hr2, G2⟩
/-- the memory just before showing i, in the model -/
def mrpS (I : H3) (n i w : Nat) (without : Int) : SS := mrF (lgM I) (mstW I w without) i n (I 93 0 w).toNat (seeP (mA I w) (mG I w) (nM I (I 82 0 w).toNat), 0)
theorem sp236 {I : H3} (hk : mrpOk I0) (hi : (i : Int) < I0 12 0 3) {n : Nat} (hn : ∃ l : Nat, l = (I0 93 0 (I0 94 0 i).toNat).toNat + n ∧ (l : Int) < I0 12 0 72 ∧ I0 90 0 l = 1 ∧ I0 92 0 l = i) (F : Fr sMs I0 I) : ∃ J, Cal (d + 5) 236 [vr 12 0, vi (i : Int), vi without] (mk I L t) = some (vi (mopS I0 i (I0 94 0 i).toNat (mrpS I0 n i (I0 94 0 i).toNat without)), mk J L t) ∧ Fr sMs I0 J := by
  have hsv := hk.2.2.1
  have hsi := hsv.2 i hi
  have hs1 := hsi.1
  have hsb := hsv.1
  have hmb := hk.2.1.1
  have hw12 : (((I0 94 0 i).toNat : Nat) : Int) < I0 12 0 2 := by omega
  have hwi := hk.2.1.2 _ hw12
  obtain ⟨⟨hh, hb, hok⟩, hsn, hkp, hkt, hbg⟩ := hwi
  have e94 : I 94 0 ((i : Int).toNat) = I0 94 0 i := F 94 0 i rfl
  have ew : (((I0 94 0 i).toNat : Nat) : Int) = I0 94 0 i := by omega
  have e80 : (((I0 80 0 (I0 94 0 i).toNat).toNat : Nat) : Int) = I0 80 0 (I0 94 0 i).toNat := by omega
  have e82 : (((I0 82 0 (I0 94 0 i).toNat).toNat : Nat) : Int) = I0 82 0 (I0 94 0 i).toNat := by omega
  obtain ⟨J1, c1, F1, a1⟩ := msee (d := d + 1) (h := (I0 80 0 (I0 94 0 i).toNat).toNat) (I := I) (L := L) (t := t) (k := I0 81 0 (I0 94 0 i).toNat) (s := I0 83 0 (I0 94 0 i).toNat) (l := I0 84 0 (I0 94 0 i).toNat) (f := I0 85 0 (I0 94 0 i).toNat) (tt := I0 87 0 (I0 94 0 i).toNat) (f0 := (I0 82 0 (I0 94 0 i).toNat).toNat) (by omega) (by omega) (mhOk_cg (F.ri (fun _ => rfl)) (F.ri (fun _ => rfl)) hb) (by rw [s_mH F]; exact hok)
  rw [e80, e82] at c1
  rw [s_mH F, s_nM F] at a1
  have G1 : Fr sMs I0 J1 := F.tr (sSee_s F1)
  obtain ⟨J2, hr2, F2, hv2⟩ := l236t (d := d + 4) (i := i) (L := L) (t := t) (without := without) (I0 := J1) (w := (I0 94 0 i).toNat) (by omega) 16 0 J1 rfl Fr.rfl' (fun c hc => by omega)
  have ekt : ktM J1 (I0 94 0 i).toNat = ktM I0 (I0 94 0 i).toNat := by
    unfold ktM
    rw [G1.ri (r := 89) (i := 0) (fun _ => rfl)]
  rw [ekt] at hv2
  have G2 : Fr sMs I0 J2 := G1.tr (F2.mo (fun r i c q => (sMs_parts q).2.2.2.2.1))
  have a2 : MAt J2 (I0 80 0 (I0 94 0 i).toNat).toNat (I0 81 0 (I0 94 0 i).toNat) (gvT (I0 83 0 (I0 94 0 i).toNat) (I0 84 0 (I0 94 0 i).toNat) (I0 85 0 (I0 94 0 i).toNat) (I0 87 0 (I0 94 0 i).toNat)) (seeP (mA I0 (I0 94 0 i).toNat) (mG I0 (I0 94 0 i).toNat) (nM I0 (I0 82 0 (I0 94 0 i).toNat).toNat)) (c16 (ktM I0 (I0 94 0 i).toNat)) 0 := by
    refine ⟨(mhd_fr F2 rfl (fun _ => ⟨rfl, rfl, rfl⟩) a1.1).1, (F2 12 0 55 rfl).trans a1.2.1, (gvM_cg (F2.ri (fun _ => rfl))).trans a1.2.2.1, ?_, c16_cg hv2, ?_⟩
    · rw [F2.ri (r := 76) (i := 0) (fun _ => rfl)]
      exact a1.2.2.2.1
    · rw [F2.ri (r := 76) (i := 0) (fun _ => rfl)]
      exact a1.2.2.2.2.2
  obtain ⟨l, hl, hl72, h90, h92⟩ := hn
  subst hl
  obtain ⟨J3, hr3, G3⟩ := l236 (d := d + 1) (L := L) (t := t) (without := without) (w := (I0 94 0 i).toNat) hk hi ew n (I0 93 0 (I0 94 0 i).toNat).toNat (seeP (mA I0 (I0 94 0 i).toNat) (mG I0 (I0 94 0 i).toNat) (nM I0 (I0 82 0 (I0 94 0 i).toNat).toNat), 0) J2 vx hl72 h90 h92 G2 a2
  have e93 : J1 93 0 (I0 94 0 i).toNat = (((I0 93 0 (I0 94 0 i).toNat).toNat : Nat) : Int) := by
    rw [G1 93 0 _ rfl]
    omega
  rw [e93] at hr2
  have c1' : Cal (d + 4) 191 [vr 12 0, vi (I 80 0 (I 94 0 ((i : Int).toNat)).toNat), vi (I 81 0 (I 94 0 ((i : Int).toNat)).toNat), vi (I 82 0 (I 94 0 ((i : Int).toNat)).toNat), vi (I 83 0 (I 94 0 ((i : Int).toNat)).toNat), vi (I 84 0 (I 94 0 ((i : Int).toNat)).toNat), vi (I 85 0 (I 94 0 ((i : Int).toNat)).toNat), vi (I 87 0 (I 94 0 ((i : Int).toNat)).toNat)] (mk I L t) = some (vx, mk J1 L t) := by
    rw [e94, F 80 0 _ rfl, F 81 0 _ rfl, F 82 0 _ rfl, F 83 0 _ rfl, F 84 0 _ rfl, F 85 0 _ rfl, F 87 0 _ rfl]
    exact c1
  have st0 := P236_0_0 (x2 := without) (g1 := by omega) (g2 := by rw [e94]; omega) (c1 := c1')
  refine ⟨J3, st0.trans (Eq.trans ?_ (hr2.trans hr3)), G3⟩
  rw [e94, ew]
  rfl
end MREP
