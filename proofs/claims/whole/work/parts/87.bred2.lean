/-! breeding: the class, nearest, rounds -/
def dsC (I : H3) (t : Nat → Nat) (w : Nat) (a : Nat → Int) (k : Int) : Int := farP (aW I t w) (gvW I w) (I 3 w 3) (I 28 w) a k
def cnN (rv : Int → Int) (p : Nat) : Nat := fo (fun k (a : Nat) => if rv (k : Nat) = -1 then a else a + 1) 0 p 0
theorem cnN_s {rv : Int → Int} {p : Nat} : cnN rv (p + 1) = if rv (p : Nat) = -1 then cnN rv p else cnN rv p + 1 := by
  show fo _ 0 (p + 1) 0 = _
  rw [fo_e, Nat.zero_add]
  rfl
theorem cnN_le {rv : Int → Int} : ∀ p, cnN rv p ≤ p
  | 0 => Nat.le_refl _
  | p + 1 => by
    have := cnN_le (rv := rv) p
    rw [cnN_s]
    split <;> omega
theorem cnN_m {rv : Int → Int} {p : Nat} : ∀ m, cnN rv p ≤ cnN rv (p + m)
  | 0 => Nat.le_refl _
  | m + 1 => by
    have := cnN_m (rv := rv) (p := p) m
    rw [show p + (m + 1) = (p + m) + 1 by omega, cnN_s]
    split <;> omega
theorem cnN_lt {rv : Int → Int} {p q : Nat} (h : p < q) (hp : rv (p : Nat) ≠ -1) : cnN rv p < cnN rv q := by
  have := cnN_m (rv := rv) (p := p + 1) (q - (p + 1))
  rw [show p + 1 + (q - (p + 1)) = q by omega, cnN_s, if_neg hp] at this
  omega
section BREDC2
variable {d w : Nat} {I0 L : H3} {t : Nat → Nat}
theorem dsC_fr {I : H3} (F : Fr sBr I0 I) (hm : mOk I0 t w) : mOk I t w ∧ dsC I t w = dsC I0 t w := by
  have e3 : I 3 = I0 3 := F.rg (fun _ _ => rfl)
  have e23 : I 23 = I0 23 := F.rg (fun _ _ => rfl)
  have e24 : I 24 = I0 24 := F.rg (fun _ _ => rfl)
  have e25 : I 25 = I0 25 := F.rg (fun _ _ => rfl)
  have e26 : I 26 = I0 26 := F.rg (fun _ _ => rfl)
  have e28 : I 28 = I0 28 := F.rg (fun _ _ => rfl)
  have eh := hC_cg e23 e24 e25 e26
  refine ⟨?_, ?_⟩
  · unfold mOk
    rw [e3, eh]
    exact ⟨hm.1, hOk_cg e25 e26 hm.2.1, hm.2.2⟩
  · funext a k
    unfold dsC aW gvW
    rw [e3, eh, e28]
theorem sp115n {I : H3} {n : Nat} {N : Nat → Nat → Int} {K : Nat → Int} (F : Fr sBr I0 I) (hm : mOk I0 t w) (h31 : R31 (I0 28 w)) (hn : nsC I n N K) {i : Nat} (hi : i < n) : ∃ J, Cal (d + 3) 115 [vr 11 0, vr 3 w, vr 1 (120 + i)] (mk I L t) = some (vi (dsC I0 t w (N i) (K i)), mk J L t) ∧ Fr sBr I0 J ∧ nsC J n N K := by
  obtain ⟨h1, h2, h3⟩ := hn i hi
  obtain ⟨m1, m2⟩ := dsC_fr F hm
  have e28 : I 28 = I0 28 := F.rg (fun _ _ => rfl)
  obtain ⟨J, c, G⟩ := s115 (d := d) (L := L) (f := 120 + i) m1 (R31.c (by rw [h1]; exact h2)) (by rw [e28]; exact h31)
  refine ⟨J, ?_, F.tr (sAsk_B G), fun j hj => ?_⟩
  · rw [c]
    have e : farP (aW I t w) (gvW I w) (I 3 w 3) (I 28 w) (I 22 (120 + i)) (I 1 (120 + i) 1) = dsC I t w (N i) (K i) := by
      unfold dsC
      rw [h3, farP_cg (f' := N i) (by rw [← h1, c16_c]) rfl]
    rw [e, m2]
  · rw [G.rg (r := 22) (fun _ _ => rfl), G.rg (r := 1) (fun _ _ => rfl)]
    exact hn j hj
theorem l132 {n : Nat} {N : Nat → Nat → Int} {K : Nat → Int} (h9 : n ≤ 9) (hm : mOk I0 t w) (h31 : R31 (I0 28 w)) {but : Int} : ∀ (m k : Nat) (s : Int × Int) (I : H3) (u7 : MV), k + m = n → Fr sBr I0 I → nsC I n N K → (s.1 = -1 ∨ 0 ≤ s.1) →
    ∃ J, Res (d + 4) 132 9 [vr 11 0, vr 3 w, vi (n : Int), vi but, vi s.1, vi s.2, vi (k : Int), u7] [] (mk I L t) = some (vi (if (fo (nrS (fun i => dsC I0 t w (N i) (K i)) but) k m s).1 = -1 then (if 0 < but then but else 0) else (fo (nrS (fun i => dsC I0 t w (N i) (K i)) but) k m s).1), mk J L t) ∧ Fr sBr I0 J ∧ nsC J n N K
  | 0, k, s, I, u7, hk, F, hn, hs => by
    show ∃ J, _ = some (vi (if s.1 = -1 then _ else s.1), _) ∧ _
    by_cases q : s.1 = -1
    · rw [if_pos q]
      exact ⟨I, P132_9_6 (h1 := by omega) (h2 := q), F, hn⟩
    · rw [if_neg q]
      exact ⟨I, P132_9_7 (h1 := by omega) (h2 := q), F, hn⟩
  | m + 1, k, s, I, u7, hk, F, hn, hs => by
    rw [fo_s]
    by_cases q : (k : Int) = but
    · have e : nrS (fun i => dsC I0 t w (N i) (K i)) but k s = s := if_pos q
      rw [e]
      obtain ⟨J, h, hJ⟩ := l132 h9 hm h31 (but := but) m (k + 1) s I u7 (by omega) F hn hs
      refine ⟨J, Eq.trans (P132_9_3 (h1 := by omega) (h2 := by omega) (h3 := q)) ?_, hJ⟩
      rw [lem_w32k (k := k) (by omega)]
      exact h
    · obtain ⟨J1, c1, F1, n1⟩ := sp115n (d := d) (L := L) F hm h31 hn (i := k) (by omega)
      by_cases q1 : s.1 = -1
      · have e : nrS (fun i => dsC I0 t w (N i) (K i)) but k s = ((k : Int), dsC I0 t w (N k) (K k)) := by
          unfold nrS
          rw [if_neg q, if_pos (Or.inl q1)]
        rw [e]
        obtain ⟨J, h, hJ⟩ := l132 h9 hm h31 (but := but) m (k + 1) ((k : Int), dsC I0 t w (N k) (K k)) J1 (vi (dsC I0 t w (N k) (K k))) (by omega) F1 n1 (Or.inr (by show (0 : Int) ≤ (k : Int); omega))
        refine ⟨J, Eq.trans (P132_9_2 (h1 := by omega) (h2 := by omega) (h3 := q) (g1 := by omega) (c1 := by rw [Int.toNat_natCast]; exact c1) (h4 := q1)) ?_, hJ⟩
        rw [lem_w32k (k := k) (by omega)]
        exact h
      · by_cases q2 : dsC I0 t w (N k) (K k) < s.2
        · have e : nrS (fun i => dsC I0 t w (N i) (K i)) but k s = ((k : Int), dsC I0 t w (N k) (K k)) := by
            unfold nrS
            rw [if_neg q, if_pos (Or.inr q2)]
          rw [e]
          obtain ⟨J, h, hJ⟩ := l132 h9 hm h31 (but := but) m (k + 1) ((k : Int), dsC I0 t w (N k) (K k)) J1 (vi (dsC I0 t w (N k) (K k))) (by omega) F1 n1 (Or.inr (by show (0 : Int) ≤ (k : Int); omega))
          refine ⟨J, Eq.trans (P132_9_0 (h1 := by omega) (h2 := by omega) (h3 := q) (g1 := by omega) (c1 := by rw [Int.toNat_natCast]; exact c1) (h4 := q1) (h5 := q2)) ?_, hJ⟩
          rw [lem_w32k (k := k) (by omega)]
          exact h
        · have e : nrS (fun i => dsC I0 t w (N i) (K i)) but k s = s := by
            unfold nrS
            rw [if_neg q, if_neg (fun z => z.elim q1 q2)]
          rw [e]
          obtain ⟨J, h, hJ⟩ := l132 h9 hm h31 (but := but) m (k + 1) s J1 (vi (dsC I0 t w (N k) (K k))) (by omega) F1 n1 hs
          refine ⟨J, Eq.trans (P132_9_1 (h1 := by omega) (h2 := by omega) (h3 := q) (g1 := by omega) (c1 := by rw [Int.toNat_natCast]; exact c1) (h4 := q1) (h5 := Int.not_lt.mp q2)) ?_, hJ⟩
          rw [lem_w32k (k := k) (by omega)]
          exact h
theorem sp132 {I : H3} {n : Nat} {N : Nat → Nat → Int} {K : Nat → Int} (h9 : n ≤ 9) (hm : mOk I0 t w) (h31 : R31 (I0 28 w)) {but : Int} (F : Fr sBr I0 I) (hn : nsC I n N K) : ∃ J, Cal (d + 4) 132 [vr 11 0, vr 3 w, vi (n : Int), vi but] (mk I L t) = some (vi (if nrF (fun i => dsC I0 t w (N i) (K i)) but n = -1 then (if 0 < but then but else 0) else nrF (fun i => dsC I0 t w (N i) (K i)) but n), mk J L t) ∧ Fr sBr I0 J ∧ nsC J n N K := by
  obtain ⟨J, h, hJ⟩ := l132 (d := d) (L := L) h9 hm h31 (but := but) n 0 (-1, 0) I vx (by omega) F hn (Or.inl rfl)
  exact ⟨J, Eq.trans P132_0_0 h, hJ⟩
/-- the faces of a row, one behind the other -/
def nN (F : Nat → Nat → Int) (rv : Int → Int) (i : Nat) : Nat → Int := c16 (F (rv (fo (fun p (a : Nat) => if cnN rv p = i ∧ rv (p : Nat) ≠ -1 then p else a) 0 9 0 : Nat)).toNat)
def nPl (rv : Int → Int) (i : Nat) : Nat := fo (fun p (a : Nat) => if cnN rv p = i ∧ rv (p : Nat) ≠ -1 then p else a) 0 9 0
theorem nPl_at {rv : Int → Int} {p : Nat} (hp : p < 9) (h : rv (p : Nat) ≠ -1) : nPl rv (cnN rv p) = p := by
  have key : ∀ (n k a : Nat), k + n = 9 → (k ≤ p ∨ a = p) → fo (fun q (a : Nat) => if cnN rv q = cnN rv p ∧ rv (q : Nat) ≠ -1 then q else a) k n a = p := by
    intro n
    induction n with
    | zero =>
      intro k a hk ha
      show a = p
      omega
    | succ n ih =>
      intro k a hk ha
      rw [fo_s]
      refine ih (k + 1) _ (by omega) ?_
      by_cases q : k = p
      · subst q
        exact Or.inr (if_pos ⟨rfl, h⟩)
      · by_cases z : k < p
        · exact Or.inl (by omega)
        · have ha' : a = p := by omega
          refine Or.inr ?_
          rw [if_neg (fun y => ?_)]
          · exact ha'
          · have := cnN_lt (show p < k by omega) h
            omega
  exact key 9 0 0 rfl (Or.inl (by omega))
theorem l131 {I0 : H3} {r : Nat} (hr : rwOk I0 r) (hF : fcOk I0) : ∀ (n k : Nat) (I : H3) (u4 : MV), k + n = 9 → Fr sBr I0 I → (∀ p : Nat, p < k → rv I0 r p ≠ -1 → c16 (I 22 (120 + cnN (rv I0 r) p)) = c16 (I0 22 (rv I0 r p).toNat) ∧ I 1 (120 + cnN (rv I0 r) p) 1 = I0 1 (rv I0 r p).toNat 1) →
    ∃ J, Res (d + 2) 131 4 [vr 11 0, vr 4 r, vi (cnN (rv I0 r) k : Nat), vi (k : Int), u4] [] (mk I L t) = some (vi (cnN (rv I0 r) 9 : Nat), mk J L t) ∧ Fr sBr I0 J ∧ ∀ p : Nat, p < 9 → rv I0 r p ≠ -1 → c16 (J 22 (120 + cnN (rv I0 r) p)) = c16 (I0 22 (rv I0 r p).toNat) ∧ J 1 (120 + cnN (rv I0 r) p) 1 = I0 1 (rv I0 r p).toNat 1
  | 0, k, I, u4, hk, F, hv => by
    have h9 : k = 9 := by omega
    subst h9
    exact ⟨I, P131_4_2 (by decide), F, hv⟩
  | n + 1, k, I, u4, hk, F, hv => by
    have e4 : I 4 = I0 4 := F.rg (fun _ _ => rfl)
    have e30 : I 30 = I0 30 := F.rg (fun _ _ => rfl)
    have erv : rvP (I 4 r 1) (I 30 r) (k : Int) = rv I0 r (k : Int) := by
      rw [e4, e30]
      rfl
    have g1 : I 4 r 1 ≤ 9 := by rw [e4]; exact hr.1
    have hcl := cnN_le (rv := rv I0 r) k
    by_cases c : rv I0 r (k : Int) = -1
    · have es : cnN (rv I0 r) (k + 1) = cnN (rv I0 r) k := by rw [cnN_s, if_pos c]
      obtain ⟨J, h, hJ⟩ := l131 hr hF n (k + 1) I (vi (rvP (I 4 r 1) (I 30 r) (k : Int))) (by omega) F (fun p hp hx => hv p (by
        by_cases z : p = k
        · subst z
          exact absurd c hx
        · omega) hx)
      refine ⟨J, Eq.trans (P131_4_1 (h1 := by omega) (g1 := g1) (h2 := erv.trans c)) ?_, hJ⟩
      rw [lem_w32k (k := k) (by omega), ← es]
      exact h
    · have es : cnN (rv I0 r) (k + 1) = cnN (rv I0 r) k + 1 := by rw [cnN_s, if_neg c]
      have hg : 0 ≤ rv I0 r (k : Int) ∧ rv I0 r (k : Int) < 120 := (hr.2 (k : Int)).resolve_left c
      obtain ⟨J1, c1, F1, e1, k1⟩ := sp10 (d := d) (I := I) (L := L) (t := t) (x := 120 + cnN (rv I0 r) k) (y := (rv I0 r (k : Int)).toNat) (by omega)
      have src : ∀ f, f < 120 → I 22 f = I0 22 f ∧ I 1 f = I0 1 f := fun f hf => by
        have nb : Nat.ble 120 f = false := ble_f hf
        exact ⟨F.ri (fun c => by simp [sBr, nb]), F.ri (fun c => by simp [sBr, nb])⟩
      obtain ⟨s1, s2⟩ := src (rv I0 r (k : Int)).toNat (by omega)
      obtain ⟨J, h, hJ⟩ := l131 hr hF n (k + 1) J1 (vi (rvP (I 4 r 1) (I 30 r) (k : Int))) (by omega) (F.tr (sFc_B (by omega) F1)) (fun p hp hx => by
        by_cases z : p = k
        · subst z
          rw [e1, k1, s1, s2]
          exact ⟨rfl, rfl⟩
        · have hlt := cnN_lt (rv := rv I0 r) (show p < k by omega) hx
          have nb : (120 + cnN (rv I0 r) p == 120 + cnN (rv I0 r) k) = false := by rw [beq_eq_false_iff_ne]; omega
          have x1 : J1 22 (120 + cnN (rv I0 r) p) = I 22 (120 + cnN (rv I0 r) p) := F1.ri (fun c => by
            unfold sFc
            rw [nb, Bool.and_false])
          have x2 : J1 1 (120 + cnN (rv I0 r) p) = I 1 (120 + cnN (rv I0 r) p) := F1.ri (fun c => by
            unfold sFc
            rw [nb, Bool.and_false])
          rw [x1, x2]
          exact hv p (by omega) hx)
      refine ⟨J, Eq.trans (P131_4_0 (h1 := by omega) (g1 := g1) (h2 := fun z => c (erv.symm.trans z)) (g2 := by omega) (g3 := by rw [erv]; exact hg) (c1 := by rw [erv, Int.toNat_natCast]; exact c1)) ?_, hJ⟩
      rw [lem_w32k (k := k) (by omega), lem_w32k (k := cnN (rv I0 r) k) (by omega), ← es]
      exact h
def nF (F : Nat → Nat → Int) (rv : Int → Int) (i : Nat) : Nat → Int := c16 (F (rv (nPl rv i : Nat)).toNat)
def nK (K : Nat → Int) (rv : Int → Int) (i : Nat) : Int := K (rv (nPl rv i : Nat)).toNat
theorem nPl_ex {rv : Int → Int} : ∀ (n i : Nat), i < cnN rv n → ∃ p : Nat, p < n ∧ rv (p : Nat) ≠ -1 ∧ cnN rv p = i
  | 0, i, h => absurd h (Nat.not_lt_zero _)
  | n + 1, i, h => by
    rw [cnN_s] at h
    by_cases c : rv (n : Nat) = -1
    · rw [if_pos c] at h
      obtain ⟨p, a, b, e⟩ := nPl_ex n i h
      exact ⟨p, by omega, b, e⟩
    · rw [if_neg c] at h
      by_cases q : i = cnN rv n
      · exact ⟨n, by omega, c, q.symm⟩
      · obtain ⟨p, a, b, e⟩ := nPl_ex (rv := rv) n i (by omega)
        exact ⟨p, by omega, b, e⟩
theorem sp131 {I : H3} {r : Nat} (hr : rwOk I r) (hF : fcOk I) : ∃ J, Cal (d + 2) 131 [vr 11 0, vr 4 r] (mk I L t) = some (vi (cnN (rv I r) 9 : Nat), mk J L t) ∧ Fr sBr I J ∧ nsC J (cnN (rv I r) 9) (nF (I 22) (rv I r)) (nK (fun f => I 1 f 1) (rv I r)) := by
  obtain ⟨J, h, F, hv⟩ := l131 (d := d) (L := L) (t := t) hr hF 9 0 I vx rfl Fr.rfl' (fun p hp => by omega)
  refine ⟨J, Eq.trans P131_0_0 h, F, fun i hi => ?_⟩
  obtain ⟨p, a, b, e⟩ := nPl_ex 9 i hi
  have hp := nPl_at (rv := rv I r) a b
  rw [e] at hp
  obtain ⟨v1, v2⟩ := hv p a b
  rw [e] at v1 v2
  have hg : 0 ≤ rv I r (p : Int) ∧ rv I r (p : Int) < 120 := (hr.2 (p : Int)).resolve_left b
  unfold nF nK
  rw [hp]
  exact ⟨v1, (hF _ (by omega)).d, v2⟩
theorem l91 {seen : Nat} {N0 : Nat → Int} (hsn : seen < 120) (hm : mOk I0 t w) (h31 : R31 (I0 28 w)) (hF : fcOk I0) {x1 x2 reach : Int} : ∀ (f r n : Nat) (N : Nat → Nat → Int) (K : Nat → Int) (I : H3) (u8 u9 : MV), r + f = 31 → 0 < n → n ≤ 9 → Fr sBr I0 I → nsC I n N K →
    ∃ J, Res (d + 6) 91 74 [vr 11 0, vi x1, vi x2, vi reach, vr 3 w, vi (n : Int), vr 22 seen, vi (r : Int), u8, u9] [] (mk I L t) = some (vi (brP (dsC I0 t w) (I0 22 seen) reach f r n N K), mk J L t) ∧ Fr sBr I0 J
  | 0, r, n, N, K, I, u8, u9, hr, h0, h9, F, hn => ⟨I, P91_74_2 (h1 := by omega), F⟩
  | f + 1, r, n, N, K, I, u8, u9, hr, h0, h9, F, hn => by
    have a1 := nrF_1 (D := fun i => dsC I0 t w (N i) (K i)) h0
    have a2 := nrG_in (D := fun i => dsC I0 t w (N i) (K i)) h0
    obtain ⟨J1, c1, F1, n1⟩ := sp132 (d := d + 1) (L := L) h9 hm h31 (but := -1) F hn
    rw [if_neg (by omega)] at c1
    obtain ⟨J2, c2, F2, n2⟩ := sp132 (d := d + 1) (L := L) h9 hm h31 (but := nrF (fun i => dsC I0 t w (N i) (K i)) (-1) n) F1 n1
    have eG : (if nrF (fun i => dsC I0 t w (N i) (K i)) (nrF (fun i => dsC I0 t w (N i) (K i)) (-1) n) n = -1 then (if 0 < nrF (fun i => dsC I0 t w (N i) (K i)) (-1) n then nrF (fun i => dsC I0 t w (N i) (K i)) (-1) n else 0) else nrF (fun i => dsC I0 t w (N i) (K i)) (nrF (fun i => dsC I0 t w (N i) (K i)) (-1) n) n) = ((nrG (fun i => dsC I0 t w (N i) (K i)) n : Nat) : Int) := by
      have b := nrS_in (D := fun i => dsC I0 t w (N i) (K i)) (but := nrF (fun i => dsC I0 t w (N i) (K i)) (-1) n) n 0 (-1, 0) (Or.inl rfl)
      have b' : nrF (fun i => dsC I0 t w (N i) (K i)) (nrF (fun i => dsC I0 t w (N i) (K i)) (-1) n) n = -1 ∨ (0 ≤ nrF (fun i => dsC I0 t w (N i) (K i)) (nrF (fun i => dsC I0 t w (N i) (K i)) (-1) n) n ∧ nrF (fun i => dsC I0 t w (N i) (K i)) (nrF (fun i => dsC I0 t w (N i) (K i)) (-1) n) n < ((0 + n : Nat) : Int)) := b
      unfold nrG
      by_cases q : nrF (fun i => dsC I0 t w (N i) (K i)) (nrF (fun i => dsC I0 t w (N i) (K i)) (-1) n) n = -1
      · rw [if_pos q, if_pos q]
        split <;> omega
      · rw [if_neg q, if_neg q]
        omega
    rw [eG] at c2
    obtain ⟨x, hx⟩ : ∃ x : Nat, nrF (fun i => dsC I0 t w (N i) (K i)) (-1) n = (x : Int) := ⟨(nrF (fun i => dsC I0 t w (N i) (K i)) (-1) n).toNat, by omega⟩
    have hxn : x < n := by omega
    have hNx := n2 x hxn
    have nb : Nat.ble 120 seen = false := ble_f hsn
    have es : J2 22 seen = I0 22 seen := F2.ri (fun c => by simp [sBr, nb])
    have c3 := sp11 (d := d + 4) (f := 120 + x) (g := seen) (I := J2) (L := L) (t := t) (R31.c (by rw [hNx.1]; exact hNx.2.1)) (by rw [es]; exact hF seen hsn)
    rw [difP_cg (f' := N x) (g' := I0 22 seen) (by rw [← hNx.1, c16_c]) (by rw [es]) (by decide)] at c3
    unfold brP
    rw [hx] at c1 c2 ⊢
    rw [Int.toNat_natCast]
    by_cases q : difP (N x) (I0 22 seen) 0 16 0 ≤ reach
    · rw [if_pos q]
      exact ⟨J2, P91_74_0 (h1 := by omega) (c1 := c1) (c2 := c2) (g1 := by omega) (c3 := by rw [Int.toNat_natCast]; exact c3) (h2 := q), F2⟩
    · rw [if_neg q]
      obtain ⟨J3, c4, F3, n3⟩ := sp6 (d := d + 2) (L := L) (t := t) (r := r) (x := x) (y := nrG (fun i => dsC I0 t w (N i) (K i)) n) (by omega) n2 hxn a2 h9
      obtain ⟨J4, h4, F4⟩ := l91 (N0 := N0) hsn hm h31 hF (x1 := x1) (x2 := x2) (reach := reach) f (r + 1) 9 _ _ J3 (vi (x : Int)) (vi ((nrG (fun i => dsC I0 t w (N i) (K i)) n : Nat) : Int)) (by omega) (by decide) (by decide) (F2.tr F3) n3
      refine ⟨J4, Eq.trans (P91_74_1 (h1 := by omega) (c1 := c1) (c2 := c2) (g1 := by omega) (c3 := by rw [Int.toNat_natCast]; exact c3) (h2 := by omega) (c4 := c4)) ?_, F4⟩
      rw [lem_w32k (k := r) (by omega)]
      exact h4
/-- what bred answers -/
def brV (nw : Int) (rvs : Nat → Int → Int) (go : Nat → Nat → Int → Int) (w r reach : Int) : Int := if (0 ≤ w ∧ w < nw) ∧ (0 ≤ r ∧ r < 6) ∧ (0 ≤ reach ∧ reach ≤ 999) ∧ 0 < cnN (rvs r.toNat) 9 then go w.toNat r.toNat reach else -1
theorem sp91 {I : H3} (h : Rel I t) (w r reach : Int) : ∃ J, Cal (d + 50) 91 [vr 11 0, vi w, vi r, vi reach] (mk I L t) = some (vi (brV (I 11 0 12) (rv I) (fun w r reach => brP (dsC I t w) (I 22 (I 3 w 4).toNat) reach 30 1 (cnN (rv I r) 9) (nF (I 22) (rv I r)) (nK (fun f => I 1 f 1) (rv I r))) w r reach), mk J L t) ∧ Fr sBr I J := by
  have hb := h.pM.2.1
  unfold brV
  by_cases a : 0 ≤ w ∧ w < I 11 0 12
  · by_cases b : 0 ≤ r ∧ r < 6
    · by_cases c : 0 ≤ reach ∧ reach ≤ 999
      · have hr := (h.rw' (r := r.toNat) (by omega)).1
        have m := h.mn.2 w.toNat (by omega)
        obtain ⟨J1, c1, F1, n1⟩ := sp131 (d := d + 47) (L := L) (t := t) hr h.fc
        have hc9 := cnN_le (rv := rv I r.toNat) 9
        by_cases e : 0 < cnN (rv I r.toNat) 9
        · rw [if_pos ⟨a, b, c, e⟩]
          have e3 : J1 3 w.toNat 4 = I 3 w.toNat 4 := F1 3 w.toNat 4 rfl
          have hsn := m.2.2.2.1
          have hs1 := hsn.1
          have hs2 := hsn.2
          obtain ⟨J, h2, F2⟩ := l91 (d := d + 44) (L := L) (t := t) (N0 := fun _ => 0) (I0 := I) (w := w.toNat) (seen := (I 3 w.toNat 4).toNat) (by omega) m.1 m.2.1 h.fc (x1 := w) (x2 := r) (reach := reach) 30 1 (cnN (rv I r.toNat) 9) _ _ J1 vx vx rfl e hc9 F1 n1
          refine ⟨J, Eq.trans (P91_0_4 (d := d + 48) (g1 := by omega) (h1 := a) (h2 := b) (h3 := c) (g2 := by omega) (c1 := c1) (h4 := by omega) (g3 := by rw [e3]; exact hsn)) ?_, F2⟩
          rw [e3]
          exact h2
        · rw [if_neg (fun q => e q.2.2.2)]
          exact ⟨J1, P91_0_3 (d := d + 48) (g1 := by omega) (h1 := a) (h2 := b) (h3 := c) (g2 := by omega) (c1 := c1) (h4 := by omega), F1⟩
      · rw [if_neg (fun q => c q.2.2.1)]
        exact ⟨I, P91_0_2 (d := d + 48) (g1 := by omega) (h1 := a) (h2 := b) (h3 := c), Fr.rfl'⟩
    · rw [if_neg (fun q => b q.2.1)]
      exact ⟨I, P91_0_1 (d := d + 48) (g1 := by omega) (h1 := a) (h2 := b), Fr.rfl'⟩
  · rw [if_neg (fun q => a q.1)]
    exact ⟨I, P91_0_0 (d := d + 48) (g1 := by omega) (h1 := a), Fr.rfl'⟩
end BREDC2
