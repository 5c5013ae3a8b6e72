/-! breeding: pure -/
def brB (i j : Nat) : Bool := decide (vIand (vIshr (i : Int) (vIrem (w32 ((i : Int) + (j : Int))) 3)) 1 = 1)
theorem brB_v : ∀ i : Fin 9, ∀ j : Fin 16, vIand (vIshr (i.val : Int) (vIrem (w32 ((i.val : Int) + (j.val : Int))) 3)) 1 = if brB i.val j.val then 1 else 0 := by decide +kernel
theorem brB_e {i j : Nat} (hi : i < 9) (hj : j < 16) : vIand (vIshr (i : Int) (vIrem (w32 ((i : Int) + (j : Int))) 3)) 1 = if brB i j then 1 else 0 := brB_v ⟨i, hi⟩ ⟨j, hj⟩
def bsP (a b : Nat → Int) (i j : Nat) : Int := if brB i j then vIdiv (w32 (a j + b j)) 2 else a j
def chX (i r : Nat) : Int := vIrem (w32 (w32 (5 * (i : Int)) + (r : Int))) 16
theorem chX_v : ∀ i : Fin 9, ∀ r : Fin 31, (0 ≤ chX i.val r.val ∧ chX i.val r.val < 16) ∧ 0 ≤ vIxor (w32 (w32 (5 * (i.val : Int)) + (r.val : Int))) 16 := by decide +kernel
def mrP (i : Nat) : Int := if vIrem (i : Int) 2 = 1 then 2 else -2
/-- child i of a round -/
def chP (a b : Nat → Int) (i r : Nat) : Nat → Int := fun j => if j < 16 then (if 0 < i ∧ j = (chX i r).toNat then cutP (w32 (bsP a b i j + mrP i)) 0 31 else bsP a b i j) else 0
theorem bsP_in {a b : Nat → Int} (ha : R31 a) (hb : R31 b) {i j : Nat} (hj : j < 16) : 0 ≤ bsP a b i j ∧ bsP a b i j ≤ 31 := by
  have h1 := ha j hj
  have h2 := hb j hj
  unfold bsP
  split
  · rw [w32_s (by omega), vIdiv_pos (by omega) (by decide)]
    omega
  · exact h1
theorem chP_in {a b : Nat → Int} (ha : R31 a) (hb : R31 b) {i r : Nat} : R31 (chP a b i r) := fun j hj => by
  have := bsP_in ha hb (i := i) hj
  unfold chP
  rw [if_pos hj]
  split
  · unfold cutP
    split
    · decide
    · split <;> omega
  · exact this
theorem chP_c {a b : Nat → Int} {i r : Nat} : c16 (chP a b i r) = chP a b i r := by
  funext j
  unfold c16 chP
  split
  · rfl
  · rfl
theorem chP_cg {a a' b b' : Nat → Int} (ha : c16 a = c16 a') (hb : c16 b = c16 b') {i r : Nat} : chP a b i r = chP a' b' i r := by
  funext j
  unfold chP bsP
  by_cases hj : j < 16
  · rw [if_pos hj, if_pos hj, c16_of ha hj, c16_of hb hj]
  · rw [if_neg hj]
    exact (if_neg hj).symm
/-- the nearest but one -/
def nrS (D : Nat → Int) (but : Int) (i : Nat) (s : Int × Int) : Int × Int := if (i : Int) = but then s else if s.1 = -1 ∨ D i < s.2 then ((i : Int), D i) else s
def nrF (D : Nat → Int) (but : Int) (n : Nat) : Int := (fo (nrS D but) 0 n (-1, 0)).1
theorem nrS_in {D : Nat → Int} {but : Int} : ∀ (n k : Nat) (s : Int × Int), (s.1 = -1 ∨ (0 ≤ s.1 ∧ s.1 < k)) → (fo (nrS D but) k n s).1 = -1 ∨ (0 ≤ (fo (nrS D but) k n s).1 ∧ (fo (nrS D but) k n s).1 < ((k + n : Nat) : Int))
  | 0, k, s, h => h
  | n + 1, k, s, h => by
    rw [fo_s, show k + (n + 1) = k + 1 + n by omega]
    refine nrS_in n (k + 1) _ ?_
    unfold nrS
    split
    · omega
    · split
      · exact Or.inr ⟨by show (0 : Int) ≤ (k : Int); omega, by show (k : Int) < ((k + 1 : Nat) : Int); omega⟩
      · omega
theorem nrS_y {D : Nat → Int} {but : Int} : ∀ (n k : Nat) (s : Int × Int), (0 ≤ s.1 ∨ ∃ j : Nat, k ≤ j ∧ j < k + n ∧ (j : Int) ≠ but) → s.1 = -1 ∨ 0 ≤ s.1 → 0 ≤ (fo (nrS D but) k n s).1
  | 0, k, s, h, h2 => by
    rcases h with h | ⟨j, a, b, c⟩
    · exact h
    · omega
  | n + 1, k, s, h, h2 => by
    rw [fo_s]
    have step : (0 ≤ s.1 ∨ (k : Int) ≠ but) → 0 ≤ (nrS D but k s).1 := fun z => by
      unfold nrS
      by_cases q : (k : Int) = but
      · rw [if_pos q]
        exact z.resolve_right (fun y => y q)
      · rw [if_neg q]
        by_cases q2 : s.1 = -1 ∨ D k < s.2
        · rw [if_pos q2]
          show (0 : Int) ≤ (k : Int)
          omega
        · rw [if_neg q2]
          omega
    have keep : (nrS D but k s).1 = -1 ∨ 0 ≤ (nrS D but k s).1 := by
      unfold nrS
      split
      · exact h2
      · split
        · exact Or.inr (by show (0 : Int) ≤ (k : Int); omega)
        · exact h2
    refine nrS_y n (k + 1) _ ?_ keep
    rcases h with h | ⟨j, a, b, c⟩
    · exact Or.inl (step (Or.inl h))
    · by_cases q : j = k
      · subst q
        exact Or.inl (step (Or.inr c))
      · exact Or.inr ⟨j, by omega, by omega, c⟩
theorem nrF_1 {D : Nat → Int} {n : Nat} (h : 0 < n) : 0 ≤ nrF D (-1) n ∧ nrF D (-1) n < n := by
  have a := nrS_y (D := D) (but := -1) n 0 (-1, 0) (Or.inr ⟨0, by omega, by omega, by decide⟩) (Or.inl rfl)
  have b := nrS_in (D := D) (but := -1) n 0 (-1, 0) (Or.inl rfl)
  unfold nrF
  omega
/-- the other one, or the first again -/
def nrG (D : Nat → Int) (n : Nat) : Nat := if nrF D (nrF D (-1) n) n = -1 then (nrF D (-1) n).toNat else (nrF D (nrF D (-1) n) n).toNat
theorem nrG_in {D : Nat → Int} {n : Nat} (h : 0 < n) : nrG D n < n := by
  have a := nrF_1 (D := D) h
  have b := nrS_in (D := D) (but := nrF D (-1) n) n 0 (-1, 0) (Or.inl rfl)
  have b' : nrF D (nrF D (-1) n) n = -1 ∨ (0 ≤ nrF D (nrF D (-1) n) n ∧ nrF D (nrF D (-1) n) n < ((0 + n : Nat) : Int)) := b
  unfold nrG
  split <;> omega
/-- rounds of breeding -/
def brP (dist : (Nat → Int) → Int → Int) (seen : Nat → Int) (reach : Int) : Nat → Nat → Nat → (Nat → Nat → Int) → (Nat → Int) → Int
  | 0, _, _, _, _ => -1
  | f + 1, r, n, N, K => if difP (N (nrF (fun i => dist (N i) (K i)) (-1) n).toNat) seen 0 16 0 ≤ reach then (r : Int) else brP dist seen reach f (r + 1) 9 (fun i => chP (N (nrF (fun i => dist (N i) (K i)) (-1) n).toNat) (N (nrG (fun i => dist (N i) (K i)) n)) i r) (fun _ => K (nrF (fun i => dist (N i) (K i)) (-1) n).toNat)
/-! the class -/
def sFc (x r i _ : Nat) : Bool := (r == 1 || r == 22) && i == x
def sBr (r i _ : Nat) : Bool := r == 13 || r == 27 || ((r == 1 || r == 22) && Nat.ble 120 i)
section BREDC
variable {d w : Nat} {I L : H3} {t : Nat → Nat}
theorem sFc_B {I J : H3} {x : Nat} (hx : 120 ≤ x) (h : Fr (sFc x) I J) : Fr sBr I J := h.mo (fun r i c k => by
  unfold sBr at k
  unfold sFc
  simp only [Bool.or_eq_false_iff, Bool.and_eq_false_iff, beq_eq_false_iff_ne] at k ⊢
  rcases k.2 with q | q
  · exact Or.inl q
  · refine Or.inr (fun z => ?_)
    rw [z, Nat.ble_eq_true_of_le hx] at q
    cases q)
theorem sAsk_B {I J : H3} (h : Fr sAsk I J) : Fr sBr I J := h.mo (fun r i c k => by
  unfold sBr at k
  unfold sAsk
  simp only [Bool.or_eq_false_iff] at k ⊢
  exact k.1)
theorem sBr_q {I J : H3} (h : Fr sBr I J) : Fr sQ I J := h.mo (fun r i c k => by
  unfold sQ sT at k
  unfold sBr
  simp only [Bool.or_eq_false_iff] at k ⊢
  exact ⟨⟨k.1.1.1.1.1.1.1.1.1.1.1.1.1, k.1.1.1.1.1.1.1.2⟩, k.1.1.2⟩)
theorem sBr_K {I J : H3} (h : Fr sBr I J) : Fr sK I J := h.mo (fun r i c k => by
  have := sK_mo k
  unfold sBr
  simp only [Bool.or_eq_false_iff, Bool.and_eq_false_iff, beq_eq_false_iff_ne]
  omega)
theorem sp10 {x y : Nat} (hxy : x ≠ y) : ∃ J, Cal (d + 1) 10 [vr 1 x, vr 1 y] (mk I L t) = some (vx, mk J L t) ∧ Fr (sFc x) I J ∧ c16 (J 22 x) = c16 (I 22 y) ∧ J 1 x 1 = I 1 y 1 := by
  refine ⟨_, P10_0_0, ?_, ?_, ?_⟩
  · rw [cp_sr]
    have b1 : sFc x 1 x 1 = true := by simp [sFc]
    have b2 : sFc x 1 x 2 = true := by simp [sFc]
    exact ((Fr.rfl'.up b1).up b2).wr (fun c _ => by simp [sFc])
  · rw [cp_sr, sr_c16, up_r (show (22 : Nat) ≠ 1 by decide), up_r (show (22 : Nat) ≠ 1 by decide)]
  · rw [cp_sr, sr_r (show (1 : Nat) ≠ 22 by decide), up_s (show (1 : Nat) ≠ 2 by decide), up_e]
theorem l7 {i r : Nat} (hi : i < 9) {a b : Nat → Int} : ∀ (n j : Nat) (I : H3), j + n = 16 → (∀ c, c < 16 → I 22 129 c = a c ∧ I 22 130 c = b c) → (∀ c, c < 16 → I 22 (120 + i) c = if c < j then bsP a b i c else a c) →
    ∃ J, Res (d + 2) 7 11 [vr 0 0, vr 1 (120 + i), vi (i : Int), vi (r : Int), vi (j : Int), vx] [] (mk I L t) = Res (d + 2) 7 11 [vr 0 0, vr 1 (120 + i), vi (i : Int), vi (r : Int), vi 16, vx] [] (mk J L t) ∧ Fr (sFc (120 + i)) I J ∧ (∀ c, c < 16 → J 22 (120 + i) c = bsP a b i c) ∧ J 1 = I 1
  | 0, j, I, hj, hab, hv => by
    have h16 : j = 16 := by omega
    subst h16
    exact ⟨I, rfl, Fr.rfl', fun c hc => by rw [hv c hc, if_pos hc], rfl⟩
  | n + 1, j, I, hj, hab, hv => by
    have eb := brB_e (i := i) (j := j) hi (by omega)
    by_cases q : brB i j = true
    · rw [if_pos q] at eb
      have ne1 : (129 : Nat) ≠ 120 + i := by omega
      have ne2 : (130 : Nat) ≠ 120 + i := by omega
      have ev : vIdiv (w32 (I 22 129 j + I 22 130 j)) 2 = bsP a b i j := by
        unfold bsP
        rw [if_pos q, (hab j (by omega)).1, (hab j (by omega)).2]
      obtain ⟨J, h1, h2, h3, h4⟩ := l7 hi (r := r) n (j + 1) (up3 I 22 (120 + i) j (vIdiv (w32 (I 22 129 j + I 22 130 j)) 2)) (by omega) (fun c hc => by
        rw [up_i ne1, up_i ne2]
        exact hab c hc) (fun c hc => by
        by_cases z : c = j
        · subst z
          rw [up_e, if_pos (by omega), ev]
        · rw [up_s z, hv c hc]
          by_cases z2 : c < j
          · rw [if_pos z2, if_pos (by omega)]
          · rw [if_neg z2, if_neg (by omega)])
      refine ⟨J, Eq.trans (P7_11_0 (h1 := by omega) (h2 := eb) (g1 := by omega)) ?_, Fr.tr (Fr.rfl'.up (by simp [sFc])) h2, h3, h4.trans (up_r (show (1 : Nat) ≠ 22 by decide))⟩
      rw [lem_w32k (k := j) (by omega)]
      exact h1
    · rw [if_neg q] at eb
      obtain ⟨J, h1, h2, h3, h4⟩ := l7 hi (r := r) n (j + 1) I (by omega) hab (fun c hc => by
        rw [hv c hc]
        by_cases z : c = j
        · subst z
          rw [if_neg (by omega), if_pos (by omega)]
          unfold bsP
          rw [if_neg q]
        · by_cases z2 : c < j
          · rw [if_pos z2, if_pos (by omega)]
          · rw [if_neg z2, if_neg (by omega)])
      refine ⟨J, Eq.trans (P7_11_1 (h1 := by omega) (h2 := by rw [eb]; decide)) ?_, h2, h3, h4⟩
      rw [lem_w32k (k := j) (by omega)]
      exact h1
theorem sp7 {i r : Nat} (hi : i < 9) (hr : r < 31) : ∃ J, Cal (d + 2) 7 [vr 0 0, vr 1 (120 + i), vi (i : Int), vi (r : Int)] (mk I L t) = some (vx, mk J L t) ∧ Fr (sFc (120 + i)) I J ∧ c16 (J 22 (120 + i)) = chP (I 22 129) (I 22 130) i r ∧ J 1 (120 + i) 1 = I 1 129 1 := by
  obtain ⟨J1, c1, F1, e1, k1⟩ := sp10 (d := d) (I := I) (L := L) (t := t) (x := 120 + i) (y := 129) (by omega)
  have n129 : (129 == 120 + i) = false := by rw [beq_eq_false_iff_ne]; omega
  have n130 : (130 == 120 + i) = false := by rw [beq_eq_false_iff_ne]; omega
  obtain ⟨J2, h2, F2, e2, k2⟩ := l7 (d := d) (L := L) (t := t) (r := r) hi (a := I 22 129) (b := I 22 130) 16 0 J1 rfl (fun c hc => ⟨F1 22 129 c (by simp [sFc, n129]), F1 22 130 c (by simp [sFc, n130])⟩) (fun c hc => by
    rw [if_neg (by omega)]
    exact c16_of e1 hc)
  have hx := chX_v ⟨i, hi⟩ ⟨r, hr⟩
  have hx1 : 0 ≤ chX i r ∧ chX i r < 16 := hx.1
  have hx2 : 0 ≤ vIxor (w32 (w32 (5 * (i : Int)) + (r : Int))) 16 := hx.2
  have c3 : Cal (d + 1) 245 [vi (w32 (w32 (5 * (i : Int)) + (r : Int))), vi 16] (mk J2 L t) = some (vi (chX i r), mk J2 L t) := P245_0_2 (by decide) hx2
  have k12 : J2 1 (120 + i) 1 = I 1 129 1 := by rw [k2, k1]
  by_cases q : 0 < (i : Int)
  · have fin : ∀ x : Int, x = mrP i → Fr (sFc (120 + i)) I (up3 J2 22 (120 + i) (chX i r).toNat (cutP (w32 (J2 22 (120 + i) (chX i r).toNat + x)) 0 31)) ∧ c16 (up3 J2 22 (120 + i) (chX i r).toNat (cutP (w32 (J2 22 (120 + i) (chX i r).toNat + x)) 0 31) 22 (120 + i)) = chP (I 22 129) (I 22 130) i r ∧ up3 J2 22 (120 + i) (chX i r).toNat (cutP (w32 (J2 22 (120 + i) (chX i r).toNat + x)) 0 31) 1 (120 + i) 1 = I 1 129 1 := fun x hx => by
      refine ⟨(F1.tr F2).up (by simp [sFc]), ?_, ?_⟩
      · rw [← chP_c]
        refine c16_cg (fun j hj => ?_)
        unfold chP
        rw [if_pos hj]
        by_cases z : j = (chX i r).toNat
        · rw [if_pos ⟨by omega, z⟩, z, up_e, e2 _ (by omega), hx]
        · rw [if_neg (fun y => z y.2), up_s z, e2 j hj]
      · rw [up_r (show (1 : Nat) ≠ 22 by decide)]
        exact k12
    by_cases q2 : vIrem (i : Int) 2 = 1
    · exact ⟨_, Eq.trans (P7_0_0 (c1 := c1)) (Eq.trans h2 (P7_11_2 (h1 := by decide) (h2 := q) (c1 := c3) (h3 := q2) (g1 := by omega))), fin 2 (by unfold mrP; rw [if_pos q2])⟩
    · exact ⟨_, Eq.trans (P7_0_0 (c1 := c1)) (Eq.trans h2 (P7_11_3 (h1 := by decide) (h2 := q) (c1 := c3) (h3 := q2) (g1 := by omega))), fin (-2) (by unfold mrP; rw [if_neg q2])⟩
  · refine ⟨J2, Eq.trans (P7_0_0 (c1 := c1)) (Eq.trans h2 (P7_11_4 (h1 := by decide) (h2 := by omega))), F1.tr F2, ?_, k12⟩
    rw [← chP_c]
    refine c16_cg (fun j hj => ?_)
    unfold chP
    rw [if_pos hj, if_neg (fun z => by omega)]
    exact e2 j hj
/-- the nest: faces 120, 121 .. -/
def nsC (I : H3) (n : Nat) (N : Nat → Nat → Int) (K : Nat → Int) : Prop := ∀ i, i < n → c16 (I 22 (120 + i)) = N i ∧ R31 (N i) ∧ I 1 (120 + i) 1 = K i
theorem l6 {r : Nat} (hr : r < 31) {x1 x2 : Int} {a b : Nat → Int} {k : Int} {I0 : H3} : ∀ (n i : Nat) (I : H3), i + n = 9 → Fr sBr I0 I → c16 (I 22 129) = a → c16 (I 22 130) = b → I 1 129 1 = k → (∀ j, j < i → c16 (I 22 (120 + j)) = chP a b j r ∧ I 1 (120 + j) 1 = k) →
    ∃ J, Res (d + 3) 6 50 [vr 0 0, vi x1, vi x2, vi (r : Int), vi (i : Int)] [] (mk I L t) = some (vx, mk J L t) ∧ Fr sBr I0 J ∧ ∀ j, j < 9 → c16 (J 22 (120 + j)) = chP a b j r ∧ J 1 (120 + j) 1 = k
  | 0, i, I, hi, F, ha, hb, hk, hv => ⟨I, P6_50_1 (by omega), F, fun j hj => hv j (by omega)⟩
  | n + 1, i, I, hi, F, ha, hb, hk, hv => by
    obtain ⟨J1, c1, F1, e1, k1⟩ := sp7 (d := d) (I := I) (L := L) (t := t) (i := i) (r := r) (by omega) hr
    have n129 : (129 == 120 + i) = false := by rw [beq_eq_false_iff_ne]; omega
    have n130 : (130 == 120 + i) = false := by rw [beq_eq_false_iff_ne]; omega
    have ea : J1 22 129 = I 22 129 := F1.ri (fun c => by simp [sFc, n129])
    have eb : J1 22 130 = I 22 130 := F1.ri (fun c => by simp [sFc, n130])
    have ek : J1 1 129 = I 1 129 := F1.ri (fun c => by simp [sFc, n129])
    obtain ⟨J, h, FJ, hJ⟩ := l6 hr (x1 := x1) (x2 := x2) (a := a) (b := b) (k := k) n (i + 1) J1 (by omega) (F.tr (sFc_B (by omega) F1)) (by rw [ea]; exact ha) (by rw [eb]; exact hb) (by rw [ek]; exact hk) (fun j hj => by
      by_cases q : j = i
      · subst q
        refine ⟨?_, by rw [k1, hk]⟩
        rw [e1]
        exact chP_cg (by rw [← ha, c16_c]) (by rw [← hb, c16_c])
      · have nj : (120 + j == 120 + i) = false := by rw [beq_eq_false_iff_ne]; omega
        have x1 : J1 22 (120 + j) = I 22 (120 + j) := F1.ri (fun c => by simp [sFc, q])
        have x2 : J1 1 (120 + j) = I 1 (120 + j) := F1.ri (fun c => by simp [sFc, q])
        rw [x1, x2]
        exact hv j (by omega))
    refine ⟨J, Eq.trans (P6_50_0 (h1 := by omega) (g1 := by omega) (c1 := by rw [Int.toNat_natCast]; exact c1)) ?_, FJ, hJ⟩
    rw [lem_w32k (k := i) (by omega)]
    exact h
theorem sp6 {n r x y : Nat} (hr : r < 31) {N : Nat → Nat → Int} {K : Nat → Int} (hn : nsC I n N K) (hx : x < n) (hy : y < n) (h9 : n ≤ 9) : ∃ J, Cal (d + 3) 6 [vr 0 0, vi (x : Int), vi (y : Int), vi (r : Int)] (mk I L t) = some (vx, mk J L t) ∧ Fr sBr I J ∧ nsC J 9 (fun i => chP (N x) (N y) i r) (fun _ => K x) := by
  obtain ⟨J1, c1, F1, e1, k1⟩ := sp10 (d := d + 1) (I := I) (L := L) (t := t) (x := 129) (y := 120 + x) (by omega)
  obtain ⟨J2, c2, F2, e2, k2⟩ := sp10 (d := d + 1) (I := J1) (L := L) (t := t) (x := 130) (y := 120 + y) (by omega)
  have ny : J1 22 (120 + y) = I 22 (120 + y) := F1.ri (fun c => by
    have : (120 + y == 129) = false := by rw [beq_eq_false_iff_ne]; omega
    simp [sFc, this])
  have nx : J2 22 129 = J1 22 129 := F2.ri (fun c => by simp [sFc])
  have nk : J2 1 129 = J1 1 129 := F2.ri (fun c => by simp [sFc])
  have hN := hn x hx
  have hM := hn y hy
  obtain ⟨J, h, F, hJ⟩ := l6 (d := d) (L := L) (t := t) hr (x1 := (x : Int)) (x2 := (y : Int)) (a := N x) (b := N y) (k := K x) (I0 := I) 9 0 J2 rfl ((sFc_B (by decide) F1).tr (sFc_B (by decide) F2)) (by rw [nx, e1]; exact hN.1) (by rw [e2, ny]; exact hM.1) (by rw [nk, k1]; exact hN.2.2) (fun j hj => by omega)
  refine ⟨J, Eq.trans (P6_0_2 (h1 := by omega) (h2 := by omega) (g1 := by omega) (c1 := by rw [Int.toNat_natCast]; exact c1) (g2 := by omega) (c2 := by rw [Int.toNat_natCast]; exact c2)) h, F, fun i hi => ⟨(hJ i hi).1, chP_in hN.2.1 hM.2.1, (hJ i hi).2⟩⟩
end BREDC
