/-! how it begins -/
theorem WX.mo {W V : WT} (w : WL W V) (h : WX W) : WX V := by
  obtain ⟨x11, ⟨x7, x8, x50, x51, x2, x38, x39⟩, ⟨x0, x21⟩, x1, x3, x4, x6, x10, x40, x41, x42, x43, x44, x45⟩ := h
  exact ⟨x11.mo w, ⟨x7.mo w, x8.mo w, x50.mo w, x51.mo w, fun i hi => (x2 i hi).mo w, x38.mo w, x39.mo w⟩, ⟨x0.mo w, x21.mo w⟩, fun i hi => w _ _ _ (x1 i hi), fun i hi => (x3 i hi).mo w, fun i hi => w _ _ _ (x4 i hi), fun i hi => w _ _ _ (x6 i hi), fun i hi => (x10 i hi).mo w, x40.mo w, x41.mo w, x42.mo w, x43.mo w, x44.mo w, x45.mo w⟩
theorem rel_0 {I : H3} (z : ∀ r i c, sCo r i c = false → r ≠ 118 → I r i c = 0) (hx : IX I) (h7 : ∀ y, y < 4 → I 72 0 y = -1 ∧ I 73 0 y = -1) (h50 : I 12 0 50 = -1) (h51 : ∀ c, c < 96 → I 51 0 c = 16) : Rel I t0 := by
  obtain ⟨i1, i7, i9, i115⟩ := hx
  have z' : ∀ r i c, sCo r i c = false → r ≠ 118 → I r i c = 0 := z
  have nf : I 11 0 10 = 0 := z _ _ _ rfl (by decide)
  have nm0 : I 11 0 12 = 0 := z _ _ _ rfl (by decide)
  have ns0 : I 11 0 13 = 0 := z _ _ _ rfl (by decide)
  have nw0 : I 11 0 14 = 0 := z _ _ _ rfl (by decide)
  have now0 : I 11 0 16 = 0 := z _ _ _ rfl (by decide)
  have mk0 : I 11 0 11 = 0 := z _ _ _ rfl (by decide)
  have dd0 : I 11 0 15 = 0 := z _ _ _ rfl (by decide)
  have lg0 : I 12 0 72 = 0 := z _ _ _ rfl (by decide)
  have tA : ∀ a, a < 5 → t0 a = a := fun a ha => if_pos ha
  have tB : ∀ a, a < 5 → t0 (5 + a) = a := fun a ha => by
    unfold t0
    rw [if_neg (by omega), if_pos (by omega)]
    omega
  refine ⟨⟨fun a b ha hb e => ?_, fun a b ha hb e => ?_, by decide⟩, ⟨⟨by rw [nf]; decide, by rw [nf]; decide⟩, ?_, fun f hf => ⟨fun j hj => ?_, c16_cg fun j hj => ?_, ?_, ?_⟩, fun f hf => ?_⟩, fun k hk => ⟨fun j hj => ?_, c16_cg fun j hj => ?_⟩, fun r hr => ⟨?_, ?_, fun p hp => ?_⟩, fun k hk => ⟨?_, fun w hw => ?_, fun w hw => ?_, fun w hw => ?_⟩, ⟨?_, ?_, fun i hi => ?_⟩, fun y hy => ?_, ⟨?_, ?_, fun c hc => ?_, ?_, ?_⟩, ⟨?_, ?_, fun w hw => ?_⟩, ⟨?_, ?_, fun w hw => ?_⟩, ⟨?_, ?_, fun w hw => ?_⟩, ⟨?_, ?_⟩, ⟨?_, ?_, ⟨?_, ?_⟩, fun l hl => ?_, fun w hw => ?_, fun i hi => ?_⟩, ?_, ⟨fun w w1 w2 => ?_, fun l hl => ?_, fun w hw => ?_⟩⟩
  · rw [tA a ha, tA b hb] at e
    exact e
  · rw [tB a ha, tB b hb] at e
    exact e
  · rw [nf]; exact z _ _ _ rfl (by decide)
  · rw [z 22 f j rfl (by decide)]; decide
  · rw [z 22 f j rfl (by decide)]
    exact z 48 0 _ rfl (by decide)
  · rw [z 49 0 f rfl (by decide), z 1 f 1 rfl (by decide)]
  · rw [z 1 f 1 rfl (by decide)]; decide
  · rw [nf] at hf
    omega
  · rw [i115 k hk j hj]; decide
  · rw [i115 k hk j hj]
    exact h51 _ (by omega)
  · rw [z 53 0 r rfl (by decide), z 4 r 1 rfl (by decide)]
  · rw [z 4 r 1 rfl (by decide)]; decide
  · rw [z 4 r 1 rfl (by decide)] at hp
    omega
  · funext w
    unfold hC mH
    by_cases hw : w < 8
    · rw [if_pos hw, if_pos hw, z 25 _ _ rfl (by decide), z 26 _ _ rfl (by decide), z 56 0 _ rfl (by decide), z 57 0 _ rfl (by decide)]
      rfl
    · rw [if_neg hw, if_neg hw]
  · rw [z 25 _ _ rfl (by decide), z 26 _ _ rfl (by decide)]; decide
  · rw [z 56 0 _ rfl (by decide), z 57 0 _ rfl (by decide)]; decide
  · left
    unfold mH
    rw [if_pos hw, z 56 0 _ rfl (by decide), z 57 0 _ rfl (by decide)]
    rfl
  · rw [z 12 0 33 rfl (by decide), z 5 _ 3 rfl (by decide)]
  · rw [z 5 _ 3 rfl (by decide)]; decide
  · rw [z 5 _ 3 rfl (by decide)] at hi
    omega
  · rw [tB y (by omega), z 70 0 y rfl (by decide), z 71 0 y rfl (by decide), (h7 y hy).1, (h7 y hy).2, z 9 y 0 rfl (by decide), z 9 y 1 rfl (by decide), (i9 y (by omega)).1, (i9 y (by omega)).2]
    exact ⟨rfl, rfl, rfl, rfl, Or.inl (i9 y (by omega)).2, Or.inl (i9 y (by omega)).1⟩
  · rw [z 12 0 36 rfl (by decide), z 7 0 4 rfl (by decide)]
  · rw [z 7 0 4 rfl (by decide)]; decide
  · rw [z 7 0 4 rfl (by decide)] at hc
    omega
  · rw [z 12 0 43 rfl (by decide), z 7 0 11 rfl (by decide)]
  · rw [h50, i7]
  · rw [nm0]; exact z _ _ _ rfl (by decide)
  · rw [nm0]; decide
  · rw [nm0] at hw
    omega
  · rw [ns0]; exact z _ _ _ rfl (by decide)
  · rw [ns0]; decide
  · rw [ns0] at hw
    omega
  · rw [nw0]; exact z _ _ _ rfl (by decide)
  · rw [nw0]; decide
  · rw [nw0] at hw
    omega
  · rw [now0]; exact z _ _ _ rfl (by decide)
  · rw [now0]; decide
  · rw [lg0]; decide
  · rw [lg0, now0]; rfl
  · rw [lg0, dd0]; rfl
  · rw [dd0, ns0, mk0]; rfl
  · rw [lg0] at hl
    omega
  · rw [nm0] at hw
    omega
  · rw [ns0] at hi
    omega
  · show I 11 0 11 = _
    rw [mk0, nf]; rfl
  · exact ⟨z _ _ _ rfl (by decide), z _ _ _ rfl (by decide)⟩
  · rw [lg0] at hl
    omega
  · rw [z 60 0 w rfl (by decide)]; decide
theorem law_runs : LawRuns := by
  refine ⟨TQ W0, fun j t ht => W0_cell j t ht, fun S xs hSz => ?_⟩
  obtain ⟨I0, hI0⟩ : ∃ I0 : H3, I0 = fun r i s => if r = rSCR ∧ i = S ∧ s < S then (xs s).toInt else 0 := ⟨_, rfl⟩
  obtain ⟨L0, hL0⟩ : ∃ L0 : H3, L0 = fun _ _ _ => 0 := ⟨_, rfl⟩
  have hs : hS (TQ W0) S xs = cn I0 L0 W0 0 := by rw [hI0, hL0]; rfl
  obtain ⟨I1, W1, r1, f1, w1, x1, y1⟩ := T70 (d := 60) (I := I0) (L := L0) (W := W0)
  obtain ⟨I2, W2, r2, f2, w2, a2, b2, c2, e2⟩ := T145 (d := 62) (I := I1) (L := L0) (W := W1)
  have full : TQ W2 = PP t0 := TQ_full (x1.mo w2) a2 (w1.tr w2)
  have z : ∀ r i c, sCo r i c = false → r ≠ 118 → I2 r i c = 0 := fun r i c h hr => by
    rcases f1.tr f2 r i c with e | e
    · rw [e, hI0]
      exact if_neg (fun q => hr q.1)
    · rw [h] at e
      cases e.1
  obtain ⟨y11, y12, y13, y14⟩ := y1
  have hx : IX I2 := ⟨fun i hi => f2.keep (y11 i hi), f2.keep y12, fun i hi => ⟨f2.keep (y13 i hi).1, f2.keep (y13 i hi).2⟩, fun i hi c hc => f2.keep (y14 i hi c hc)⟩
  have hr := rel_0 z hx b2 c2 e2
  have hst : Res 64 250 0 [va (some (rSCR, S)), vx, vx, vx] [] (cn I0 L0 W0 0) = Res 64 250 18 (lsL S ((0 : Nat) : Int)) [] (cn I2 L0 W2 1021) :=
    Eq.trans (c_new (w := 22) (k' := 1) D250_0 rfl rfl rfl (by decide) (by decide +kernel) (sh_11 _) rfl) <| Eq.trans (e_dup D250_3 rfl) <| Eq.trans (c_init (z := 70) (ne := 0) (w := 24) (as := [vr 11 0]) (rest := [vr 11 0]) D250_4 rfl rfl rfl (by decide) rfl rfl rfl r1) <| Eq.trans (e_astore_n (ls1 := [vr 118 S, vr 11 0, vx, vx]) D250_7 rfl (show 1 < 4 by decide) rfl) <| Eq.trans (c_new (w := 1104) (k' := 954) D250_8 rfl rfl rfl (by decide) (by decide +kernel) (sh_12 _) rfl) <| Eq.trans (e_dup D250_11 rfl) <| Eq.trans (c_init (z := 145) (ne := 0) (w := 1106) (as := [vr 12 0]) (rest := [vr 12 0]) D250_12 rfl rfl rfl (by decide) rfl rfl rfl r2) <| Eq.trans (e_astore_n (ls1 := [vr 118 S, vr 11 0, vr 12 0, vx]) D250_15 rfl (show 2 < 4 by decide) rfl) <| Eq.trans (e_iconst (x := 0) D250_16 rfl rfl) <| e_istore_n (ls1 := lsL S ((0 : Nat) : Int)) D250_17 rfl (show 3 < 4 by decide) rfl
  obtain ⟨h1, e1, k1⟩ := law_loop (S := S) hSz S 0 I2 L0 t0 hr (by omega)
  have hc : cn I2 L0 W2 1021 = mk I2 L0 t0 := by
    show (I2, L0, TQ W2, 1021) = (I2, L0, PP t0, 1021)
    rw [full]
  rw [hc] at hst
  rw [hs]
  obtain ⟨n, hn⟩ := res_iff.mp (hst.trans e1)
  exact ⟨n, h1, hn, k1⟩
