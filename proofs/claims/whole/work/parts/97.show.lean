/-! show: the class -/
def sSc (w n r i c : Nat) : Bool := (r == 6 && i == n) || ((r == 4 || r == 30) && i == 6 + n) || sX r i c || (r == 28 && i == w) || r == 46 || r == 47 || (r == 11 && (c == 13 || c == 15))
def ShC (I J : H3) (t : Nat → Nat) (w r n : Nat) (kind led push pick : Int) : Prop :=
  Fr (sSc w n) I J ∧ (J 6 n 1 = (w : Int) ∧ J 6 n 2 = kind ∧ J 6 n 3 = I 11 0 16 ∧ J 6 n 4 = led ∧ J 6 n 5 = push ∧ J 6 n 6 = pick ∧ J 6 n 7 = (if kind = 2 then 0 else oP (odW I t w (rv I r) (decide (kind = 1)) led push) pick) ∧ J 6 n 8 = suW I t w r pick) ∧ (J 4 (6 + n) 1 = I 4 r 1 ∧ ∀ p, p < 9 → J 30 (6 + n) p = I 30 r p) ∧ (c16 (J 28 w) = shwP (I 22) (rv I r) (aW I t w 3 (gvW I w)) pick (c16 (I 28 w)) ∧ R31 (J 28 w)) ∧ (∀ c, c ≠ (I 11 0 15).toNat → J 46 0 c = I 46 0 c ∧ J 47 0 c = I 47 0 c) ∧ (J 46 0 (I 11 0 15).toNat = (n : Int) ∧ J 47 0 (I 11 0 15).toNat = I 11 0 16) ∧ J 11 0 15 = I 11 0 15 + 1 ∧ J 11 0 13 = ((n + 1 : Nat) : Int)
theorem odW_k {I A : H3} {t : Nat → Nat} {w : Nat} (e1 : A 1 = I 1) (e3 : A 3 = I 3) (e22 : A 22 = I 22) (e23 : A 23 = I 23) (e24 : A 24 = I 24) (e25 : A 25 = I 25) (e26 : A 26 = I 26) (e28 : A 28 = I 28) : odW A t w = odW I t w ∧ aW A t w = aW I t w ∧ gvW A w = gvW I w ∧ ∀ r' r p, rv A r' = rv I r → suW A t w r' p = suW I t w r p := by
  have eC := hC_cg e23 e24 e25 e26
  have eA : aW A t w = aW I t w := by
    unfold aW
    rw [eC, e3]
  have eG : gvW A w = gvW I w := gvW_cg e3
  refine ⟨?_, eA, eG, fun r' r p hr => ?_⟩
  · funext rw' each led push
    unfold odW wtW nbW fW
    rw [eA, eG, e3, e28, e22, e1]
  · rw [suW_Q, suW_Q, eA, eG, e3, e28, e22, e1, hr]
theorem rvB_0 {I : H3} {r : Nat} : rv I r (-1) = -1 := rvP_neg (by omega)
section SHOWC
variable {d : Nat} {I L : H3} {t : Nat → Nat} {w r n : Nat} {kind led push pick : Int}
theorem sp111t {i : Nat} (g : I 4 i 1 ≤ 9) (h : pick = -1 ∨ (kind ≠ 2 ∧ rv I i pick ≠ -1)) : Cal (d + 1) 111 [vr 4 i, vi kind, vi pick] (mk I L t) = some (vi 1, mk I L t) := by
  by_cases a : pick = -1
  · exact P111_0_3 (h1 := a)
  · have b := h.resolve_left a
    exact P111_0_0 (h1 := a) (h2 := b.1) (g1 := g) (h3 := b.2)
theorem sp111f {i : Nat} (g : I 4 i 1 ≤ 9) (h : ¬ (pick = -1 ∨ (kind ≠ 2 ∧ rv I i pick ≠ -1))) : Cal (d + 1) 111 [vr 4 i, vi kind, vi pick] (mk I L t) = some (vi 0, mk I L t) := by
  have a : ¬ pick = -1 := fun q => h (Or.inl q)
  by_cases b : kind = 2
  · exact P111_0_2 (h1 := a) (h2 := b)
  · exact P111_0_1 (h1 := a) (h2 := b) (g1 := g) (h3 := Classical.byContradiction (fun q => h (Or.inr ⟨b, q⟩)))
theorem sp85 (h : Rel I t) (hw : (w : Int) < I 11 0 12) (hr : r < 6) (hk : 0 ≤ kind ∧ kind ≤ 2) (hn : I 11 0 13 = (n : Int)) (h100 : n < 100) (hl : ldOk (I 4 r 1) led push) (hp : pick = -1 ∨ (kind ≠ 2 ∧ rv I r pick ≠ -1)) :
    ∃ J, Cal (d + 6) 85 [vr 11 0, vi (w : Int), vi (r : Int), vi kind, vi led, vi push, vi pick] (mk I L t) = some (vi (n : Int), mk J L t) ∧ ShC I J t w r n kind led push pick := by
  have hf := h.pF.1
  have mb := h.pM.2.1
  have m := h.mn.2 w hw
  have w20 : w < 20 := by omega
  have rr := (h.rw' hr).1
  have hmd := h.made
  have hl3 := h.pL.2.2.1.2
  obtain ⟨dc, edc⟩ : ∃ dc : Nat, I 11 0 15 = (dc : Int) := ⟨(I 11 0 15).toNat, by omega⟩
  have dc220 : dc < 220 := by omega
  have nr : r ≠ 6 + n := by omega
  have gw : 0 ≤ I 11 0 12 ∧ I 11 0 12 ≤ 2000 := by omega
  have g2 : 0 ≤ (w : Int) ∧ (w : Int) < I 11 0 12 := by omega
  have g3 : 0 ≤ (w : Int) ∧ (w : Int) < 20 := by omega
  have gr : 0 ≤ (r : Int) ∧ (r : Int) < 6 := by omega
  have c1 : Cal (d + 5) 110 [vr 4 r, vi led, vi push] (mk I L t) = some (vi 1, mk I L t) := sp110t (d := d + 4) hl
  have c2 : Cal (d + 5) 111 [vr 4 r, vi kind, vi pick] (mk I L t) = some (vi 1, mk I L t) := sp111t (d := d + 4) rr.1 hp
  have c3 := P28_0_0 (d := d + 4) (i0 := 6 + n) (i1 := r) (I := up3 (up3 (up3 I 6 n 1 (w : Int)) 6 n 2 kind) 6 n 3 (I 11 0 16)) (L := L) (t := t)
  rw [cp_sr, up_r (show (30 : Nat) ≠ 4 by decide), up_r (show (30 : Nat) ≠ 6 by decide), up_r (show (30 : Nat) ≠ 6 by decide), up_r (show (30 : Nat) ≠ 6 by decide), up_r (show (4 : Nat) ≠ 6 by decide), up_r (show (4 : Nat) ≠ 6 by decide), up_r (show (4 : Nat) ≠ 6 by decide)] at c3
  obtain ⟨A1, hA1⟩ : ∃ A1 : H3, A1 = sr (up3 (up3 (up3 (up3 I 6 n 1 (w : Int)) 6 n 2 kind) 6 n 3 (I 11 0 16)) 4 (6 + n) 1 (I 4 r 1)) 30 (6 + n) 9 (I 30 r) := ⟨_, rfl⟩
  rw [← hA1] at c3
  obtain ⟨A, hA⟩ : ∃ A : H3, A = up3 (up3 (up3 A1 6 n 4 led) 6 n 5 push) 6 n 6 pick := ⟨_, rfl⟩
  have FA : Fr (fun r i c => (r == 6 && i == n) || ((r == 4 || r == 30) && i == 6 + n)) I A := by
    rw [hA, hA1]
    exact (((((((Fr.rfl'.up (by simp)).up (by simp)).up (by simp)).up (by simp)).wr (fun c _ => by simp)).up (by simp)).up (by simp)).up (by simp)
  have A6 : ∀ c, A1 6 n c = up3 (up3 (up3 I 6 n 1 (w : Int)) 6 n 2 kind) 6 n 3 (I 11 0 16) 6 n c := fun c => by
    rw [hA1, sr_r (show (6 : Nat) ≠ 30 by decide), up_r (show (6 : Nat) ≠ 4 by decide)]
  have s1 : A 6 n 1 = (w : Int) := by rw [hA, up_s (by decide), up_s (by decide), up_s (by decide), A6]; simp [up3]
  have s2 : A 6 n 2 = kind := by rw [hA, up_s (by decide), up_s (by decide), up_s (by decide), A6]; simp [up3]
  have s3 : A 6 n 3 = I 11 0 16 := by rw [hA, up_s (by decide), up_s (by decide), up_s (by decide), A6]; simp [up3]
  have s4 : A 6 n 4 = led := by rw [hA, up_s (by decide), up_s (by decide), up_e]
  have s5 : A 6 n 5 = push := by rw [hA, up_s (by decide), up_e]
  have s6 : A 6 n 6 = pick := by rw [hA, up_e]
  have A4 : A 4 (6 + n) 1 = I 4 r 1 := by
    rw [hA, up_r (show (4 : Nat) ≠ 6 by decide), up_r (show (4 : Nat) ≠ 6 by decide), up_r (show (4 : Nat) ≠ 6 by decide), hA1, sr_r (show (4 : Nat) ≠ 30 by decide), up_e]
  have A30 : ∀ p, p < 9 → A 30 (6 + n) p = I 30 r p := fun p hp => by
    rw [hA, up_r (show (30 : Nat) ≠ 6 by decide), up_r (show (30 : Nat) ≠ 6 by decide), up_r (show (30 : Nat) ≠ 6 by decide), hA1, sr_lt hp]
  -- what is kept from A on
  have keep : ∀ C : H3, Fr (fun r i c => sX r i c || (r == 6 && i == n && (c == 7 || c == 8))) A C → mOk C t w ∧ R31 (C 28 w) ∧ fcOk C ∧ rwOk C (6 + n) ∧ rv C (6 + n) = rv I r ∧ (odW C t w = odW I t w ∧ aW C t w = aW I t w ∧ gvW C w = gvW I w ∧ ∀ r' r p, rv C r' = rv I r → suW C t w r' p = suW I t w r p) := fun C FC => by
    have F : Fr (fun r i c => (r == 6 && i == n) || ((r == 4 || r == 30) && i == 6 + n) || sX r i c) I C := (FA.mo (fun r i c k => by
      simp only [Bool.or_eq_false_iff] at k
      simp only [Bool.or_eq_false_iff]
      exact k.1)).tr (FC.mo (fun r i c k => by
      simp only [Bool.or_eq_false_iff, Bool.and_eq_false_iff, beq_eq_false_iff_ne] at k ⊢
      exact ⟨k.2, Or.inl (by omega)⟩))
    have e1 : C 1 = I 1 := F.rg (fun _ _ => rfl)
    have e3 : C 3 = I 3 := F.rg (fun _ _ => rfl)
    have e22 : C 22 = I 22 := F.rg (fun _ _ => rfl)
    have e23 : C 23 = I 23 := F.rg (fun _ _ => rfl)
    have e24 : C 24 = I 24 := F.rg (fun _ _ => rfl)
    have e25 : C 25 = I 25 := F.rg (fun _ _ => rfl)
    have e26 : C 26 = I 26 := F.rg (fun _ _ => rfl)
    have e28 : C 28 = I 28 := F.rg (fun _ _ => rfl)
    have e4 : C 4 (6 + n) 1 = I 4 r 1 := by rw [FC 4 (6 + n) 1 rfl, A4]
    have e30 : ∀ p, p < 9 → C 30 (6 + n) p = I 30 r p := fun p hp => by rw [FC 30 (6 + n) p rfl, A30 p hp]
    have erv : rv C (6 + n) = rv I r := by
      unfold rv
      rw [e4]
      exact rvP_cg (fun j hj => e30 j (by have := rr.1; omega))
    refine ⟨mOk_cg e3 e23 e24 e25 e26 m.1, by rw [e28]; exact m.2.1, by unfold fcOk; rw [e22]; exact h.fc, ⟨by rw [e4]; exact rr.1, ?_⟩, erv, odW_k e1 e3 e22 e23 e24 e25 e26 e28⟩
    intro p
    have := rr.2 p
    have z := congrFun erv p
    unfold rv at z
    rw [z]
    exact this
  -- from the row of fields to the end
  have fin : ∀ C : H3, Fr (fun r i c => sX r i c || (r == 6 && i == n && (c == 7 || c == 8))) A C → C 6 n 7 = (if kind = 2 then 0 else oP (odW I t w (rv I r) (decide (kind = 1)) led push) pick) → C 6 n 8 = suW I t w r pick → ∃ D E, Cal (d + 5) 121 [vr 11 0, vr 3 w, vr 6 n] (mk C L t) = some (vx, mk D L t) ∧ Cal (d + 5) 139 [vr 11 0, vi (D 11 0 13)] (mk D L t) = some (vx, mk E L t) ∧ E 11 0 13 = (n : Int) ∧ ShC I (up3 E 11 0 13 ((n + 1 : Nat) : Int)) t w r n kind led push pick := fun C FC q7 q8 => by
    obtain ⟨k1, k2, k3, k4, k5, k6, k7, k8, k9⟩ := keep C FC
    obtain ⟨D, c, FD, rD, vD⟩ := s121 (d := d + 2) (L := L) (i := n) k1 k2 k3 k4
    have F : Fr (fun r i c => (r == 6 && i == n) || ((r == 4 || r == 30) && i == 6 + n) || sX r i c) I C := (FA.mo (fun r i c k => by
      simp only [Bool.or_eq_false_iff] at k
      simp only [Bool.or_eq_false_iff]
      exact k.1)).tr (FC.mo (fun r i c k => by
      simp only [Bool.or_eq_false_iff, Bool.and_eq_false_iff, beq_eq_false_iff_ne] at k ⊢
      exact ⟨k.2, Or.inl (by omega)⟩))
    have e22 : C 22 = I 22 := F.rg (fun _ _ => rfl)
    have e28 : C 28 = I 28 := F.rg (fun _ _ => rfl)
    have e66 : C 6 n 6 = pick := by rw [FC 6 n 6 (by simp [sX]), s6]
    rw [k5, k7, k8, e22, e28, e66] at vD
    have d11 : ∀ c, D 11 0 c = I 11 0 c := fun c => by rw [FD 11 0 c rfl, F 11 0 c rfl]
    have cd := P139_0_0 (d := d + 5) (x1 := (n : Int)) (I := D) (L := L) (t := t) (h1 := by rw [d11, edc]; omega) (g1 := by rw [d11, edc]; omega)
    rw [d11, d11, edc, Int.toNat_natCast, lem_w32k (k := dc) (by omega)] at cd
    obtain ⟨E, hE⟩ : ∃ E : H3, E = up3 (up3 (up3 D 46 0 dc (n : Int)) 47 0 dc (I 11 0 16)) 11 0 15 ((dc + 1 : Nat) : Int) := ⟨_, rfl⟩
    rw [← hE] at cd
    have FE : Fr (fun r _ c => r == 46 || r == 47 || (r == 11 && c == 15)) D E := by
      rw [hE]
      exact ((Fr.rfl'.up rfl).up rfl).up rfl
    have K6 : ∀ c, up3 E 11 0 13 ((n + 1 : Nat) : Int) 6 n c = C 6 n c := fun c => by
      rw [up_r (show (6 : Nat) ≠ 11 by decide), FE 6 n c rfl, FD 6 n c rfl]
    have C6 : ∀ c, c ≠ 7 → c ≠ 8 → C 6 n c = A 6 n c := fun c h7 h8 => FC 6 n c (by simp [sX, h7, h8])
    refine ⟨D, E, c, by rw [d11, hn]; exact cd, by rw [FE 11 0 13 rfl, d11, hn], ?_, ?_, ⟨?_, fun p hp => ?_⟩, ⟨?_, ?_⟩, fun c hc => ?_, ⟨?_, ?_⟩, ?_, up_e⟩
    · refine (((F.mo (fun r i c k => ?_)).tr (FD.mo (fun r i c k => ?_))).tr (FE.mo (fun r i c k => ?_))).up (by simp [sSc])
      · unfold sSc at k
        simp only [Bool.or_eq_false_iff] at k ⊢
        exact k.1.1.1.1
      · unfold sSc sX at k
        unfold sMm
        simp only [Bool.or_eq_false_iff, Bool.and_eq_false_iff, beq_eq_false_iff_ne] at k ⊢
        omega
      · unfold sSc sX at k
        simp only [Bool.or_eq_false_iff, Bool.and_eq_false_iff, beq_eq_false_iff_ne] at k ⊢
        omega
    · rw [K6, K6, K6, K6, K6, K6, K6, K6, C6 1 (by decide) (by decide), C6 2 (by decide) (by decide), C6 3 (by decide) (by decide), C6 4 (by decide) (by decide), C6 5 (by decide) (by decide), C6 6 (by decide) (by decide)]
      exact ⟨s1, s2, s3, s4, s5, s6, q7, q8⟩
    · rw [up_r (show (4 : Nat) ≠ 11 by decide), FE 4 _ _ rfl, FD 4 _ _ rfl, FC 4 _ _ rfl, A4]
    · rw [up_r (show (30 : Nat) ≠ 11 by decide), FE 30 _ _ rfl, FD 30 _ _ rfl, FC 30 _ _ rfl, A30 p hp]
    · rw [up_r (show (28 : Nat) ≠ 11 by decide), FE.rg (r := 28) (fun _ _ => rfl)]
      exact vD
    · rw [up_r (show (28 : Nat) ≠ 11 by decide), FE.rg (r := 28) (fun _ _ => rfl)]
      exact rD
    · rw [edc, Int.toNat_natCast] at hc
      rw [up_r (show (46 : Nat) ≠ 11 by decide), up_r (show (47 : Nat) ≠ 11 by decide), hE, up_r (show (46 : Nat) ≠ 11 by decide), up_r (show (46 : Nat) ≠ 47 by decide), up_s hc, up_r (show (47 : Nat) ≠ 11 by decide), up_s hc, up_r (show (47 : Nat) ≠ 46 by decide), FD 46 0 c rfl, FD 47 0 c rfl, F 46 0 c rfl, F 47 0 c rfl]
      exact ⟨rfl, rfl⟩
    · rw [edc, Int.toNat_natCast, up_r (show (46 : Nat) ≠ 11 by decide), hE, up_r (show (46 : Nat) ≠ 11 by decide), up_r (show (46 : Nat) ≠ 47 by decide), up_e]
    · rw [edc, Int.toNat_natCast, up_r (show (47 : Nat) ≠ 11 by decide), hE, up_r (show (47 : Nat) ≠ 11 by decide), up_e]
    · rw [up_s (by decide), hE, up_e, edc]
      omega
  have e1 : w32 ((n : Int) + 1) = ((n + 1 : Nat) : Int) := lem_w32k (by omega)
  have e2 : w32 (((n + 1 : Nat) : Int) - 1) = (n : Int) := w32_m2 (by omega)
  by_cases k2 : kind = 2
  · have pk : pick = -1 := hp.resolve_right (fun q => q.1 k2)
    obtain ⟨D, E, cD, cE, eE, fE⟩ := fin (up3 (up3 A 6 n 7 0) 6 n 8 (-1)) ((Fr.rfl'.up (by simp [sX])).up (by simp [sX])) (by rw [up_s (by decide), up_e, if_pos k2]) (by
      rw [up_e, suW_Q, pk]
      unfold suQ
      rw [rvB_0, if_pos rfl])
    refine ⟨_, ?_, fE⟩
    have c := P85_0_5 (d := d + 4) (x1 := (w : Int)) (x2 := (r : Int)) (x3 := kind) (x4 := led) (x5 := push) (x6 := pick) (g1 := gw) (h1 := g2) (h2 := gr) (h3 := hk) (h4 := by rw [hn]; omega) (c1 := by rw [Int.toNat_natCast]; exact c1) (c2 := by rw [Int.toNat_natCast]; exact c2) (g2 := by rw [hn]; omega) (c3 := by rw [hn, Int.toNat_natCast, Int.toNat_natCast]; exact c3) (h5 := k2) (h6 := pk) (g3 := g3) (c4 := by rw [hn, Int.toNat_natCast, Int.toNat_natCast, ← hA]; exact cD) (c5 := cE)
    rw [eE, e1, e2] at c
    exact c
  · obtain ⟨a1, a2, a3, a4, a5, a6, a7, a8, a9⟩ := keep A Fr.rfl'
    obtain ⟨J4, c4, F4⟩ := s128 (d := d) (L := L) (i := n) a1 a2 a3 a4 (by rw [s5]; exact hl.1)
    rw [s2, s4, s5, s6, a5, a6] at c4
    have FB : Fr (fun r i c => sX r i c || (r == 6 && i == n && (c == 7 || c == 8))) A (up3 J4 6 n 7 (oP (odW I t w (rv I r) (decide (kind = 1)) led push) pick)) := (F4.mo (fun r i c k => by
      simp only [Bool.or_eq_false_iff] at k
      exact k.1)).up (by simp [sX])
    by_cases pk : pick = -1
    · obtain ⟨D, E, cD, cE, eE, fE⟩ := fin (up3 (up3 J4 6 n 7 (oP (odW I t w (rv I r) (decide (kind = 1)) led push) pick)) 6 n 8 (-1)) (FB.up (by simp [sX])) (by rw [up_s (by decide), up_e, if_neg k2]) (by
        rw [up_e, suW_Q, pk]
        unfold suQ
        rw [rvB_0, if_pos rfl])
      refine ⟨_, ?_, fE⟩
      have c := P85_0_7 (d := d + 4) (x1 := (w : Int)) (x2 := (r : Int)) (x3 := kind) (x4 := led) (x5 := push) (x6 := pick) (g1 := gw) (h1 := g2) (h2 := gr) (h3 := hk) (h4 := by rw [hn]; omega) (c1 := by rw [Int.toNat_natCast]; exact c1) (c2 := by rw [Int.toNat_natCast]; exact c2) (g2 := by rw [hn]; omega) (c3 := by rw [hn, Int.toNat_natCast, Int.toNat_natCast]; exact c3) (h5 := k2) (g3 := g3) (c4 := by rw [hn, Int.toNat_natCast, Int.toNat_natCast, ← hA]; exact c4) (h6 := pk) (c5 := by rw [hn, Int.toNat_natCast, Int.toNat_natCast]; exact cD) (c6 := cE)
      rw [eE, e1, e2] at c
      exact c
    · obtain ⟨b1, b2, b3, b4, b5, b6, b7, b8, b9⟩ := keep _ FB
      obtain ⟨J5, c5, F5⟩ := s116 (d := d) (L := L) (r := 6 + n) (p := pick) b1 b2 b3 b4
      rw [b9 (6 + n) r pick b5] at c5
      obtain ⟨D, E, cD, cE, eE, fE⟩ := fin (up3 J5 6 n 8 (suW I t w r pick)) ((FB.tr (F5.mo (fun r i c k => by
        unfold sAsk
        unfold sX at k
        simp only [Bool.or_eq_false_iff, Bool.and_eq_false_iff, beq_eq_false_iff_ne] at k ⊢
        omega))).up (by simp [sX])) (by rw [up_s (by decide), F5 6 n 7 rfl, up_e, if_neg k2]) up_e
      refine ⟨_, ?_, fE⟩
      have c := P85_0_8 (d := d + 4) (x1 := (w : Int)) (x2 := (r : Int)) (x3 := kind) (x4 := led) (x5 := push) (x6 := pick) (g1 := gw) (h1 := g2) (h2 := gr) (h3 := hk) (h4 := by rw [hn]; omega) (c1 := by rw [Int.toNat_natCast]; exact c1) (c2 := by rw [Int.toNat_natCast]; exact c2) (g2 := by rw [hn]; omega) (c3 := by rw [hn, Int.toNat_natCast, Int.toNat_natCast]; exact c3) (h5 := k2) (g3 := g3) (c4 := by rw [hn, Int.toNat_natCast, Int.toNat_natCast, ← hA]; exact c4) (h6 := pk) (c5 := by rw [hn, Int.toNat_natCast, Int.toNat_natCast]; exact c5) (c6 := by rw [hn, Int.toNat_natCast, Int.toNat_natCast]; exact cD) (c7 := cE)
      rw [eE, e1, e2] at c
      exact c
end SHOWC
