/-! face, feed, end -/
def by4 (m x : Int) (j : Nat) : Int := vIand (vIshr x (w32 (24 - w32 (8 * (j : Int))))) m
def ar4 (x2 x3 x4 x5 : Int) (j : Nat) : Int := if j < 4 then x2 else if j < 8 then x3 else if j < 12 then x4 else x5
theorem rem4 : ∀ k : Fin 20, vIrem (k.val : Int) 4 = ((k.val % 4 : Nat) : Int) := by decide +kernel
theorem rem4_e {k : Nat} (h : k < 20) : vIrem (k : Int) 4 = ((k % 4 : Nat) : Int) := rem4 ⟨k, h⟩
section FACEC
variable {d : Nat} {L : H3} {t : Nat → Nat}
def s22 (x r i _ : Nat) : Bool := r == 22 && i == x
theorem l9 {f b : Nat} {x : Int} (hb : b + 4 ≤ 16) : ∀ (n j : Nat) (I : H3), j + n = 4 →
    ∃ J, Res d 9 2 [vr 1 f, vi (b : Int), vi x, vi (j : Int)] [] (mk I L t) = some (vx, mk J L t) ∧ Fr (s22 f) I J ∧ (∀ c, (c < b + j ∨ b + 4 ≤ c) → J 22 f c = I 22 f c) ∧ ∀ k, j ≤ k → k < 4 → J 22 f (b + k) = by4 31 x k
  | 0, j, I, hj => ⟨I, P9_2_1 (by omega), Fr.rfl', fun _ _ => rfl, fun k h1 h2 => by omega⟩
  | n + 1, j, I, hj => by
    have e : w32 ((b : Int) + (j : Int)) = ((b + j : Nat) : Int) := by rw [w32_s (by omega)]; omega
    obtain ⟨J, h1, h2, h3, h4⟩ := l9 (f := f) (x := x) hb n (j + 1) (up3 I 22 f (b + j) (by4 31 x j)) (by omega)
    refine ⟨J, Eq.trans (P9_2_0 (h1 := by omega) (g1 := by rw [e]; omega)) ?_, Fr.tr (Fr.rfl'.up (by simp [s22])) h2, fun c hc => ?_, fun k k1 k2 => ?_⟩
    · rw [e, lem_w32k (k := j) (by omega), Int.toNat_natCast]
      exact h1
    · rw [h3 c (by omega), up_s (by omega)]
    · by_cases q : k = j
      · subst q
        rw [h3 _ (by omega), up_e]
      · exact h4 k (by omega) k2
theorem sp9 {f b : Nat} {x : Int} {I : H3} (hb : b + 4 ≤ 16) : ∃ J, Cal d 9 [vr 1 f, vi (b : Int), vi x] (mk I L t) = some (vx, mk J L t) ∧ Fr (s22 f) I J ∧ (∀ c, (c < b ∨ b + 4 ≤ c) → J 22 f c = I 22 f c) ∧ ∀ k, k < 4 → J 22 f (b + k) = by4 31 x k := by
  obtain ⟨J, h1, h2, h3, h4⟩ := l9 (d := d) (L := L) (t := t) (f := f) (x := x) hb 4 0 I rfl
  exact ⟨J, Eq.trans P9_0_0 h1, h2, fun c hc => h3 c (by omega), fun k hk => h4 k (by omega) hk⟩
def s48 (r _ c : Nat) : Bool := r == 48 || (r == 12 && c == 1) || r == 49 || r == 50
theorem l151 {x1 x2 x3 x4 x5 : Int} {n0 : Nat} (hn : n0 < 120) : ∀ (n j : Nat) (I : H3) (u7 : MV), j + n = 16 → I 12 0 1 = (n0 : Int) →
    ∃ J u7', Res (d + 2) 151 21 [vr 12 0, vi x1, vi x2, vi x3, vi x4, vi x5, vi (j : Int), u7] [] (mk I L t) = Res (d + 2) 151 21 [vr 12 0, vi x1, vi x2, vi x3, vi x4, vi x5, vi 16, u7'] [] (mk J L t) ∧ Fr (fun r _ _ => r == 48) I J ∧ (∀ f c, c < 16 → (f ≠ n0 ∨ c < j) → nM J f c = nM I f c) ∧ ∀ k, j ≤ k → k < 16 → nM J n0 k = by4 31 (ar4 x2 x3 x4 x5 k) (k % 4)
  | 0, j, I, u7, hj, h1 => by
    have h16 : j = 16 := by omega
    subst h16
    exact ⟨I, u7, rfl, Fr.rfl', fun _ _ _ _ => rfl, fun k h1 h2 => by omega⟩
  | n + 1, j, I, u7, hj, h1 => by
    have e := ix16 (f := n0) (k := j) (by omega) (by omega)
    have em := rem4_e (k := j) (by omega)
    have g : 0 ≤ w32 (w32 (16 * I 12 0 1) + (j : Int)) ∧ w32 (w32 (16 * I 12 0 1) + (j : Int)) < 2112 := by
      rw [h1, e]
      omega
    have go : ∀ (x : Int) (u7 : MV), x = ar4 x2 x3 x4 x5 j → ∃ J u7', Res (d + 2) 151 21 [vr 12 0, vi x1, vi x2, vi x3, vi x4, vi x5, vi (w32 ((j : Int) + 1)), u7] [] (mk (up3 I 48 0 (w32 (w32 (16 * I 12 0 1) + (j : Int))).toNat (vIand (vIshr x (w32 (24 - w32 (8 * vIrem (j : Int) 4)))) 31)) L t) = Res (d + 2) 151 21 [vr 12 0, vi x1, vi x2, vi x3, vi x4, vi x5, vi 16, u7'] [] (mk J L t) ∧ Fr (fun r _ _ => r == 48) I J ∧ (∀ f c, c < 16 → (f ≠ n0 ∨ c < j) → nM J f c = nM I f c) ∧ ∀ k, j ≤ k → k < 16 → nM J n0 k = by4 31 (ar4 x2 x3 x4 x5 k) (k % 4) := fun x u7 hx => by
      rw [h1, e, em, lem_w32k (k := j) (by omega), Int.toNat_natCast, hx]
      obtain ⟨J, u7', a, F, b, c⟩ := l151 hn (x1 := x1) (x2 := x2) (x3 := x3) (x4 := x4) (x5 := x5) n (j + 1) (up3 I 48 0 (16 * n0 + j) (vIand (vIshr (ar4 x2 x3 x4 x5 j) (w32 (24 - w32 (8 * ((j % 4 : Nat) : Int))))) 31)) u7 (by omega) (by rw [up_r (show (12 : Nat) ≠ 48 by decide)]; exact h1)
      refine ⟨J, u7', a, Fr.tr (Fr.rfl'.up rfl) F, fun f' c' hc hf => ?_, fun k k1 k2 => ?_⟩
      · rw [b f' c' hc (by omega)]
        unfold nM
        rw [up_s (by omega)]
      · by_cases q : k = j
        · subst q
          rw [b n0 k k2 (Or.inr (by omega))]
          unfold nM
          rw [up_e]
          rfl
        · exact c k (by omega) k2
    by_cases a1 : j < 4
    · obtain ⟨J, u7', r, hJ⟩ := go x2 (vi x2) (by unfold ar4; rw [if_pos a1])
      exact ⟨J, u7', Eq.trans (P151_21_0 (h1 := by omega) (h2 := by omega) (g1 := g)) r, hJ⟩
    · by_cases a2 : j < 8
      · obtain ⟨J, u7', r, hJ⟩ := go x3 (vi x3) (by unfold ar4; rw [if_neg a1, if_pos a2])
        exact ⟨J, u7', Eq.trans (P151_21_1 (h1 := by omega) (h2 := by omega) (h3 := by omega) (g1 := g)) r, hJ⟩
      · by_cases a3 : j < 12
        · obtain ⟨J, u7', r, hJ⟩ := go x4 (vi x4) (by unfold ar4; rw [if_neg a1, if_neg a2, if_pos a3])
          exact ⟨J, u7', Eq.trans (P151_21_2 (h1 := by omega) (h2 := by omega) (h3 := by omega) (h4 := by omega) (g1 := g)) r, hJ⟩
        · obtain ⟨J, u7', r, hJ⟩ := go x5 (vi x5) (by unfold ar4; rw [if_neg a1, if_neg a2, if_neg a3])
          exact ⟨J, u7', Eq.trans (P151_21_3 (h1 := by omega) (h2 := by omega) (h3 := by omega) (h4 := by omega) (g1 := g)) r, hJ⟩
end FACEC
/-- what a call may write that makes a face -/
def sNf (n r i c : Nat) : Bool := ((r == 1 || r == 22) && i == n) || r == 48 || r == 49 || r == 50 || (r == 11 && (c == 10 || c == 11 || c == 15)) || (r == 12 && (c == 1 || c == 72)) || r == 46 || r == 47 || r == 90 || r == 91 || r == 92 || sMi r i c
theorem rel_F {I K : H3} {t : Nat → Nat} {n : Nat} (h : Rel I t) (hn : I 11 0 10 = (n : Int)) (F : Fr (sNf n) I K) (e10 : K 11 0 10 = ((n + 1 : Nat) : Int)) (pF : reF K) (pM : reM ((n + 1 : Nat) : Int) (I 11 0 16) K) (pL : reL ((n + 1 : Nat) : Int) (I 11 0 12) (I 11 0 13) (I 11 0 16) (K 11 0 11) K) (pC : reC ((n + 1 : Nat) : Int) K) (pU : reU (I 11 0 12) K) : Rel K t := by
  have hle : I 11 0 10 ≤ ((n + 1 : Nat) : Int) := by omega
  have hf := h.pF.1
  have n60 : ∀ i, 20 ≤ i → i < 60 → K 3 i = I 3 i := fun i hi h6 => F.ri (fun c => by
    have n1 : Nat.ble i 19 = false := ble_f (by omega)
    have n2 : (i == 60) = false := by rw [beq_eq_false_iff_ne]; omega
    simp [sNf, sMi, sQ, sT, sMs, n1, n2])
  have big : ∀ r, 94 ≤ r → r ≤ 114 → r ≠ 104 → K r = I r := fun r r1 r2 r3 => F.rg (fun i c => by
    unfold sNf sMi sQ sT sMs
    simp only [Bool.or_eq_false_iff, Bool.and_eq_false_iff, beq_eq_false_iff_ne]
    omega)
  exact rel_mk e10 rfl (F 11 0 12 rfl) (F 11 0 13 rfl) (F 11 0 16 rfl) h.pP pF
    (reT_cg (F.rg (fun _ _ => rfl)) (F.rg (fun _ _ => rfl)) h.pT)
    (reR_cg hle (fun r _ => ⟨F.ri (fun _ => rfl), F.ri (fun _ => rfl)⟩) (F.rg (fun _ _ => rfl)) (F.rg (fun _ _ => rfl)) h.pR)
    (reH_cg (F.rg (fun _ _ => rfl)) (F.rg (fun _ _ => rfl)) (F.rg (fun _ _ => rfl)) (F.rg (fun _ _ => rfl)) (F.rg (fun _ _ => rfl)) (F.rg (fun _ _ => rfl)) (F.rg (fun _ _ => rfl)) h.pH)
    (reS_cg (F.rg (fun _ _ => rfl)) (F.rg (fun _ _ => rfl)) (F.rg (fun _ _ => rfl)) (F.rg (fun _ _ => rfl)) (F.rg (fun _ _ => rfl)) (F.rg (fun _ _ => rfl)) (F.rg (fun _ _ => rfl)) (F 12 0 33 rfl) h.pS)
    (reW_cg (F.rg (fun _ _ => rfl)) (F.rg (fun _ _ => rfl)) (F.rg (fun _ _ => rfl)) (F.rg (fun _ _ => rfl)) (F.rg (fun _ _ => rfl)) h.pW)
    (reB_cg (F.rg (fun _ _ => rfl)) (F.rg (fun _ _ => rfl)) (F.rg (fun _ _ => rfl)) (F 12 0 36 rfl) (F 12 0 43 rfl) (F 12 0 50 rfl) h.pB) pM
    (reV_cg hle (Int.le_refl _) (F.rg (fun _ _ => rfl)) (fun i hi _ => ⟨F.ri (fun _ => rfl), F.ri (fun _ => rfl)⟩) (fun r r1 r2 => big r r1 (by omega) (by omega)) (F 11 0 13 rfl) (F 12 0 3 rfl) h.pV)
    (reO_cg hle n60 (F.rg (fun _ _ => rfl)) (fun i hi => ⟨F.ri (fun _ => rfl), F.ri (fun _ => rfl)⟩) (fun r r1 r2 => big r (by omega) r2 (by omega)) (F 11 0 14 rfl) (F 12 0 4 rfl) h.pO)
    (reN_cg (F 11 0 16 rfl) (F 12 0 0 rfl) h.pN) pL pC pU
theorem both_face (k a b c e : Int) : Both 71 151 [vi k, vi a, vi b, vi c, vi e] := fun d I L t h => by
  have hf := h.pF.1
  have ef := h.pF.2.1
  by_cases hk : 0 ≤ k ∧ k ≤ 5
  · by_cases hn : I 11 0 10 < 120
    · obtain ⟨n, en⟩ : ∃ n : Nat, I 11 0 10 = (n : Int) := ⟨(I 11 0 10).toNat, by omega⟩
      have hn120 : n < 120 := by omega
      obtain ⟨J1, c1, F1, o1, v1⟩ := sp9 (d := d + 49) (L := L) (t := t) (f := n) (b := 0) (x := a) (I := up3 (up3 I 1 n 1 k) 1 n 2 (-1)) (by decide)
      obtain ⟨J2, c2, F2, o2, v2⟩ := sp9 (d := d + 49) (L := L) (t := t) (f := n) (b := 4) (x := b) (I := J1) (by decide)
      obtain ⟨J3, c3, F3, o3, v3⟩ := sp9 (d := d + 49) (L := L) (t := t) (f := n) (b := 8) (x := c) (I := J2) (by decide)
      obtain ⟨J4, c4, F4, o4, v4⟩ := sp9 (d := d + 49) (L := L) (t := t) (f := n) (b := 12) (x := e) (I := J3) (by decide)
      have s22n : ∀ {I J : H3}, Fr (s22 n) I J → Fr (sNf n) I J := fun hF => hF.mo (fun r i c k => by
        unfold sNf at k
        unfold s22
        simp only [Bool.or_eq_false_iff, Bool.and_eq_false_iff, beq_eq_false_iff_ne] at k ⊢
        rcases k.1.1.1.1.1.1.1.1.1.1.1 with z | z
        · exact Or.inl z.2
        · exact Or.inr z)
      have n1 : sNf n 1 n 1 = true := by simp [sNf]
      have n2 : sNf n 1 n 2 = true := by simp [sNf]
      have G4 : Fr (sNf n) I J4 := ((((Fr.rfl'.up n1).up n2).tr (s22n F1)).tr ((s22n F2).tr (s22n F3))).tr (s22n F4)
      have F14 : Fr (s22 n) (up3 (up3 I 1 n 1 k) 1 n 2 (-1)) J4 := F1.tr (F2.tr (F3.tr F4))
      have e4 : J4 11 0 10 = (n : Int) := by
        rw [F14 11 0 10 rfl, up_r (show (11 : Nat) ≠ 1 by decide), up_r (show (11 : Nat) ≠ 1 by decide), en]
      have ew : w32 (J4 11 0 10 + 1) = ((n + 1 : Nat) : Int) := by rw [e4]; exact lem_w32k (by omega)
      have ew2 : w32 (((n + 1 : Nat) : Int) - 1) = (n : Int) := by rw [w32_s (by omega)]; omega
      have cc : Cal (d + 50) 71 [vr 11 0, vi k, vi a, vi b, vi c, vi e] (mk I L t) = some (vi (n : Int), mk (up3 J4 11 0 10 ((n + 1 : Nat) : Int)) L t) := by
        have r := P71_0_2 (d := d + 49) (h1 := hk) (h2 := hn) (g1 := by omega) (c1 := by rw [en, Int.toNat_natCast]; exact c1) (c2 := by rw [en, Int.toNat_natCast]; exact c2) (c3 := by rw [en, Int.toNat_natCast]; exact c3) (c4 := by rw [en, Int.toNat_natCast]; exact c4)
        rw [ew, ew2] at r
        exact r
      have G5 : Fr (sNf n) I (up3 J4 11 0 10 ((n + 1 : Nat) : Int)) := G4.up rfl
      have e121 : up3 J4 11 0 10 ((n + 1 : Nat) : Int) 12 0 1 = (n : Int) := by
        rw [up_r (show (12 : Nat) ≠ 11 by decide), F14 12 0 1 rfl, up_r (show (12 : Nat) ≠ 1 by decide), up_r (show (12 : Nat) ≠ 1 by decide), ef, en]
      obtain ⟨J6, u7', r6, F6, o6, v6⟩ := l151 (d := d + 48) (L := L) (t := t) (x1 := k) (x2 := a) (x3 := b) (x4 := c) (x5 := e) hn120 16 0 (up3 J4 11 0 10 ((n + 1 : Nat) : Int)) vx rfl e121
      have e61 : J6 12 0 1 = (n : Int) := (F6 12 0 1 rfl).trans e121
      have r7 := P151_21_4 (d := d + 48) (I := J6) (L := L) (t := t) (x1 := k) (x2 := a) (x3 := b) (x4 := c) (x5 := e) (x6 := 16) (u7 := u7') (h1 := by decide) (g1 := by omega) (g2 := by omega)
      rw [e61, Int.toNat_natCast, lem_w32k (k := n) (by omega), ew2] at r7
      have cm : Cal (d + 50) 151 [vr 12 0, vi k, vi a, vi b, vi c, vi e] (mk (up3 J4 11 0 10 ((n + 1 : Nat) : Int)) L t) = some (vi (n : Int), mk (up3 (up3 (up3 J6 49 0 n k) 50 0 n (-1)) 12 0 1 ((n + 1 : Nat) : Int)) L t) :=
        Eq.trans (P151_0_2 (d := d + 48) (h1 := by omega) (h2 := by rw [e121]; omega)) (Eq.trans r6 r7)
      have F48 : Fr (sNf n) (up3 J4 11 0 10 ((n + 1 : Nat) : Int)) J6 := F6.mo (fun r i c k => by
        unfold sNf at k
        simp only [Bool.or_eq_false_iff] at k
        exact k.1.1.1.1.1.1.1.1.1.1.2)
      have GK : Fr (sNf n) I (up3 (up3 (up3 J6 49 0 n k) 50 0 n (-1)) 12 0 1 ((n + 1 : Nat) : Int)) := (((G5.tr F48).up (by simp [sNf])).up (by simp [sNf])).up (by simp [sNf])
      -- the cells
      have k22 : ∀ f, up3 (up3 (up3 J6 49 0 n k) 50 0 n (-1)) 12 0 1 ((n + 1 : Nat) : Int) 22 f = J4 22 f := fun f => by
        rw [up_r (show (22 : Nat) ≠ 12 by decide), up_r (show (22 : Nat) ≠ 50 by decide), up_r (show (22 : Nat) ≠ 49 by decide), F6.rg (r := 22) (fun _ _ => rfl), up_r (show (22 : Nat) ≠ 11 by decide)]
      have k1 : ∀ f, up3 (up3 (up3 J6 49 0 n k) 50 0 n (-1)) 12 0 1 ((n + 1 : Nat) : Int) 1 f = up3 (up3 I 1 n 1 k) 1 n 2 (-1) 1 f := fun f => by
        rw [up_r (show (1 : Nat) ≠ 12 by decide), up_r (show (1 : Nat) ≠ 50 by decide), up_r (show (1 : Nat) ≠ 49 by decide), F6.rg (r := 1) (fun _ _ => rfl), up_r (show (1 : Nat) ≠ 11 by decide), F14.rg (r := 1) (fun _ _ => rfl)]
      have k48 : ∀ f c, nM (up3 (up3 (up3 J6 49 0 n k) 50 0 n (-1)) 12 0 1 ((n + 1 : Nat) : Int)) f c = nM J6 f c := fun f c => by
        unfold nM
        rw [up_r (show (48 : Nat) ≠ 12 by decide), up_r (show (48 : Nat) ≠ 50 by decide), up_r (show (48 : Nat) ≠ 49 by decide)]
      have k48o : ∀ f c, c < 16 → f ≠ n → nM J6 f c = nM I f c := fun f c hc hf => by
        rw [o6 f c hc (Or.inl hf)]
        unfold nM
        rw [up_r (show (48 : Nat) ≠ 11 by decide), F14.rg (r := 48) (fun _ _ => rfl), up_r (show (48 : Nat) ≠ 1 by decide), up_r (show (48 : Nat) ≠ 1 by decide)]
      have j4 : ∀ j, j < 16 → J4 22 n j = by4 31 (ar4 a b c e j) (j % 4) := fun j hj => by
        unfold ar4
        by_cases a1 : j < 4
        · rw [if_pos a1, o4 j (by omega), o3 j (by omega), o2 j (by omega)]
          have := v1 j a1
          rw [Nat.zero_add] at this
          rw [this, Nat.mod_eq_of_lt a1]
        · rw [if_neg a1]
          by_cases a2 : j < 8
          · rw [if_pos a2, o4 j (by omega), o3 j (by omega)]
            have := v2 (j - 4) (by omega)
            rw [show 4 + (j - 4) = j by omega] at this
            rw [this, show j % 4 = j - 4 by omega]
          · rw [if_neg a2]
            by_cases a3 : j < 12
            · rw [if_pos a3, o4 j (by omega)]
              have := v3 (j - 8) (by omega)
              rw [show 8 + (j - 8) = j by omega] at this
              rw [this, show j % 4 = j - 8 by omega]
            · rw [if_neg a3]
              have := v4 (j - 12) (by omega)
              rw [show 12 + (j - 12) = j by omega] at this
              rw [this, show j % 4 = j - 12 by omega]
      have k12 : up3 (up3 (up3 J6 49 0 n k) 50 0 n (-1)) 12 0 1 ((n + 1 : Nat) : Int) 11 0 10 = ((n + 1 : Nat) : Int) := by
        rw [up_r (show (11 : Nat) ≠ 12 by decide), up_r (show (11 : Nat) ≠ 50 by decide), up_r (show (11 : Nat) ≠ 49 by decide), F6 11 0 10 rfl, up_e]
      have k11 : ∀ q, q ≠ 10 → up3 (up3 (up3 J6 49 0 n k) 50 0 n (-1)) 12 0 1 ((n + 1 : Nat) : Int) 11 0 q = I 11 0 q := fun q hq => by
        rw [up_r (show (11 : Nat) ≠ 12 by decide), up_r (show (11 : Nat) ≠ 50 by decide), up_r (show (11 : Nat) ≠ 49 by decide), F6 11 0 q rfl, up_s hq, F14 11 0 q rfl, up_r (show (11 : Nat) ≠ 1 by decide), up_r (show (11 : Nat) ≠ 1 by decide)]
      have k49 : ∀ f, up3 (up3 (up3 J6 49 0 n k) 50 0 n (-1)) 12 0 1 ((n + 1 : Nat) : Int) 49 0 f = if f = n then k else I 49 0 f := fun f => by
        rw [up_r (show (49 : Nat) ≠ 12 by decide), up_r (show (49 : Nat) ≠ 50 by decide)]
        by_cases q : f = n
        · subst q
          rw [up_e, if_pos rfl]
        · rw [up_s q, if_neg q, F6 49 0 f rfl, up_r (show (49 : Nat) ≠ 11 by decide), F14 49 0 f rfl, up_r (show (49 : Nat) ≠ 1 by decide), up_r (show (49 : Nat) ≠ 1 by decide)]
      have k50 : ∀ f, up3 (up3 (up3 J6 49 0 n k) 50 0 n (-1)) 12 0 1 ((n + 1 : Nat) : Int) 50 0 f = if f = n then -1 else I 50 0 f := fun f => by
        rw [up_r (show (50 : Nat) ≠ 12 by decide)]
        by_cases q : f = n
        · subst q
          rw [up_e, if_pos rfl]
        · rw [up_s q, if_neg q, up_r (show (50 : Nat) ≠ 49 by decide), F6 50 0 f rfl, up_r (show (50 : Nat) ≠ 11 by decide), F14 50 0 f rfl, up_r (show (50 : Nat) ≠ 1 by decide), up_r (show (50 : Nat) ≠ 1 by decide)]
      have k1o : ∀ f, f ≠ n → up3 (up3 I 1 n 1 k) 1 n 2 (-1) 1 f = I 1 f := fun f hf => by
        rw [up_i hf, up_i hf]
      have k22o : ∀ f, f ≠ n → J4 22 f = I 22 f := fun f hf => by
        have nb : (f == n) = false := beq_eq_false_iff_ne.mpr hf
        rw [F14.ri (r := 22) (i := f) (fun _ => by unfold s22; rw [nb]; rfl), up_r (show (22 : Nat) ≠ 1 by decide), up_r (show (22 : Nat) ≠ 1 by decide)]
      have hle : I 11 0 10 ≤ ((n + 1 : Nat) : Int) := by omega
      have grg : ∀ r, (80 ≤ r ∧ r ≤ 86 ∨ r = 89 ∨ r = 93 ∨ r = 94) → up3 (up3 (up3 J6 49 0 n k) 50 0 n (-1)) 12 0 1 ((n + 1 : Nat) : Int) r = I r := fun r hr => by
        rw [up_r (show r ≠ 12 by omega), up_r (show r ≠ 50 by omega), up_r (show r ≠ 49 by omega), F6.rg (r := r) (fun _ _ => beq_eq_false_iff_ne.mpr (by omega)), up_r (show r ≠ 11 by omega), F14.rg (r := r) (fun i _ => by unfold s22; rw [beq_eq_false_iff_ne.mpr (show r ≠ 22 by omega)]; rfl), up_r (show r ≠ 1 by omega), up_r (show r ≠ 1 by omega)]
      have grg2 : ∀ r, (r = 60 ∨ r = 3 ∨ r = 28 ∨ r = 29 ∨ r = 87 ∨ r = 88 ∨ r = 46 ∨ r = 47 ∨ r = 90 ∨ r = 91 ∨ r = 92) → up3 (up3 (up3 J6 49 0 n k) 50 0 n (-1)) 12 0 1 ((n + 1 : Nat) : Int) r = I r := fun r hr => by
        rw [up_r (show r ≠ 12 by omega), up_r (show r ≠ 50 by omega), up_r (show r ≠ 49 by omega), F6.rg (r := r) (fun _ _ => beq_eq_false_iff_ne.mpr (by omega)), up_r (show r ≠ 11 by omega), F14.rg (r := r) (fun i _ => by unfold s22; rw [beq_eq_false_iff_ne.mpr (show r ≠ 22 by omega)]; rfl), up_r (show r ≠ 1 by omega), up_r (show r ≠ 1 by omega)]
      have g12 : ∀ q, q ≠ 1 → up3 (up3 (up3 J6 49 0 n k) 50 0 n (-1)) 12 0 1 ((n + 1 : Nat) : Int) 12 0 q = I 12 0 q := fun q hq => by
        rw [up_s hq, up_r (show (12 : Nat) ≠ 50 by decide), up_r (show (12 : Nat) ≠ 49 by decide), F6 12 0 q rfl, up_r (show (12 : Nat) ≠ 11 by decide), F14 12 0 q rfl, up_r (show (12 : Nat) ≠ 1 by decide), up_r (show (12 : Nat) ≠ 1 by decide)]
      refine ⟨_, _, L, _, L, t, cc, cm, rel_F h en GK k12 ⟨by rw [k12]; omega, ?_, fun f hf' => ?_, fun f hf' => ?_⟩ ?_ ?_ ?_ ?_⟩
      · rw [k12, up_e]
      · obtain ⟨a1, a2, a3, a4⟩ := h.pF.2.2.1 f hf'
        rw [k22, k1, k49]
        by_cases q : f = n
        · subst q
          refine ⟨fun j hj => ?_, ?_, ?_, ?_⟩
          · rw [j4 j hj]
            exact vIand_m _ (m := 31) (by decide)
          · exact c16_cg (fun j hj => by rw [k48, v6 j (by omega) hj, j4 j hj])
          · rw [if_pos rfl, up_s (show (1 : Nat) ≠ 2 by decide), up_e]
          · rw [up_s (show (1 : Nat) ≠ 2 by decide), up_e]
            omega
        · rw [k22o f q, k1o f q, if_neg q]
          exact ⟨a1, by rw [← a2]; exact c16_cg (fun j hj => (k48 f j).trans (k48o f j hj q)), a3, a4⟩
      · rw [k12] at hf'
        rw [k50, k1]
        by_cases q : f = n
        · subst q
          rw [if_pos rfl, up_e]
        · rw [if_neg q, k1o f q]
          exact h.pF.2.2.2 f (by omega)
      · exact reM_cg hle (fun w _ => ⟨by rw [grg2 3 (by omega)], by rw [grg2 28 (by omega)], by rw [grg2 29 (by omega)]⟩) (fun r r1 r2 => by
          by_cases q : r = 87 ∨ r = 88
          · exact grg2 r (by omega)
          · exact grg r (by omega)) (k11 12 (by decide)) (g12 2 (by decide)) h.pM
      · rw [k11 11 (by decide)]
        exact reL_cg hle hf.1 (grg2 46 (by omega)) (grg2 47 (by omega)) (grg2 90 (by omega)) (grg2 91 (by omega)) (grg2 92 (by omega)) (grg 93 (by omega)) (grg 94 (by omega)) (grg 86 (by omega)) (fun f hf' => by rw [k50, if_neg (by omega)]) (k11 15 (by decide)) (g12 72 (by decide)) h.pL
      · unfold reC
        rw [k11 11 (by decide), Int.toNat_natCast, fo_e, Nat.zero_add, k1]
        have e2 : up3 (up3 I 1 n 1 k) 1 n 2 (-1) 1 n 2 = -1 := up_e
        rw [e2, if_pos rfl]
        have hc : I 11 0 11 = _ := h.pC
        rw [hc, en, Int.toNat_natCast]
        exact fo_cg _ 0 0 (fun f b _ hf' => by rw [k1, k1o f (by omega)])
      · exact reU_cg (fun w _ => ⟨by rw [grg2 3 (by omega)], by rw [grg2 87 (by omega)]⟩) (grg2 90 (by omega)) (grg2 91 (by omega)) (g12 72 (by decide)) (grg2 60 (by omega)) h.pU
    · exact ⟨-1, I, L, I, L, t, P71_0_1 (d := d + 49) (h1 := hk) (h2 := by omega), P151_0_1 (d := d + 48) (h1 := by omega) (h2 := by omega), h⟩
  · exact ⟨-1, I, L, I, L, t, P71_0_0 (d := d + 49) (h1 := hk), P151_0_0 (d := d + 48) (h1 := by omega), h⟩
