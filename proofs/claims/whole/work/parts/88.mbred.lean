/-! breeding: the model -/
def nlS (D : Nat → Int) (rv : Int → Int) (but : Int) (p : Nat) (s : Int × Int) : Int × Int := if rv (p : Nat) = -1 ∨ (p : Int) = but then s else if s.1 = -1 ∨ D p < s.2 then ((p : Int), D p) else s
def nlF (D : Nat → Int) (rv : Int → Int) (but : Int) : Int := (fo (nlS D rv but) 0 9 (-1, 0)).1
/-- a place, and how many stand before it -/
def plR (rv : Int → Int) (a b : Int) : Prop := (a = -1 ∧ b = -1) ∨ ∃ p : Nat, p < 9 ∧ rv (p : Nat) ≠ -1 ∧ a = p ∧ b = (cnN rv p : Nat)
theorem nl_nr {Dm Dc : Nat → Int} {rv : Int → Int} {bm bc : Int} (hD : ∀ p : Nat, p < 9 → rv (p : Nat) ≠ -1 → Dm p = Dc (cnN rv p)) (hb : plR rv bm bc) : ∀ (n k : Nat) (sm sc : Int × Int), k + n = 9 → sm.2 = sc.2 → plR rv sm.1 sc.1 → plR rv (fo (nlS Dm rv bm) k n sm).1 (fo (nrS Dc bc) (cnN rv k) (cnN rv 9 - cnN rv k) sc).1
  | 0, k, sm, sc, hk, h2, h1 => by
    have h9 : k = 9 := by omega
    subst h9
    rw [Nat.sub_self]
    exact h1
  | n + 1, k, sm, sc, hk, h2, h1 => by
    rw [fo_s]
    have hm := cnN_m (rv := rv) (p := k + 1) (9 - (k + 1))
    rw [show k + 1 + (9 - (k + 1)) = 9 by omega] at hm
    by_cases c : rv (k : Nat) = -1
    · have e1 : nlS Dm rv bm k sm = sm := if_pos (Or.inl c)
      have e2 : cnN rv (k + 1) = cnN rv k := by rw [cnN_s, if_pos c]
      rw [e1]
      have := nl_nr hD hb n (k + 1) sm sc (by omega) h2 h1
      rw [e2] at this
      exact this
    · have e2 : cnN rv (k + 1) = cnN rv k + 1 := by rw [cnN_s, if_neg c]
      rw [e2] at hm
      rw [show cnN rv 9 - cnN rv k = (cnN rv 9 - (cnN rv k + 1)) + 1 by omega, fo_s]
      have hbk : (k : Int) = bm ↔ ((cnN rv k : Nat) : Int) = bc := by
        rcases hb with ⟨b1, b2⟩ | ⟨p, p1, p2, p3, p4⟩
        · rw [b1, b2]
          omega
        · rw [p3, p4]
          constructor
          · intro z
            rw [show k = p by omega]
          · intro z
            by_cases y : k = p
            · rw [y]
            · by_cases y2 : k < p
              · have := cnN_lt y2 c
                omega
              · have := cnN_lt (show p < k by omega) p2
                omega
      have hs1 : sm.1 = -1 ↔ sc.1 = -1 := by
        rcases h1 with ⟨b1, b2⟩ | ⟨p, p1, p2, p3, p4⟩
        · rw [b1, b2]
        · rw [p3, p4]
          omega
      have nx := fun sm' sc' h2' h1' => nl_nr hD hb n (k + 1) sm' sc' (by omega) h2' h1'
      rw [e2] at nx
      refine nx _ _ ?_ ?_
      · unfold nlS nrS
        by_cases q : (k : Int) = bm
        · rw [if_pos (Or.inr q), if_pos (hbk.mp q)]
          exact h2
        · rw [if_neg (fun z => z.elim c q), if_neg (fun z => q (hbk.mpr z)), hD k (by omega) c, h2]
          by_cases q2 : sm.1 = -1 ∨ Dc (cnN rv k) < sc.2
          · rw [if_pos q2, if_pos (by rw [← hs1]; exact q2)]
          · rw [if_neg q2, if_neg (by rw [← hs1]; exact q2)]
            exact h2
      · unfold nlS nrS
        by_cases q : (k : Int) = bm
        · rw [if_pos (Or.inr q), if_pos (hbk.mp q)]
          exact h1
        · rw [if_neg (fun z => z.elim c q), if_neg (fun z => q (hbk.mpr z)), hD k (by omega) c, h2]
          by_cases q2 : sm.1 = -1 ∨ Dc (cnN rv k) < sc.2
          · rw [if_pos q2, if_pos (by rw [← hs1]; exact q2)]
            exact Or.inr ⟨k, by omega, c, rfl, rfl⟩
          · rw [if_neg q2, if_neg (by rw [← hs1]; exact q2)]
            exact h1
theorem nl_F {Dm Dc : Nat → Int} {rv : Int → Int} {bm bc : Int} (hD : ∀ p : Nat, p < 9 → rv (p : Nat) ≠ -1 → Dm p = Dc (cnN rv p)) (hb : plR rv bm bc) : plR rv (nlF Dm rv bm) (nrF Dc bc (cnN rv 9)) := by
  have := nl_nr hD hb 9 0 (-1, 0) (-1, 0) rfl rfl (Or.inl ⟨rfl, rfl⟩)
  exact this
def sBm (r i c : Nat) : Bool := sMs r i c || (r == 48 && Nat.ble 1920 c) || (r == 49 && Nat.ble 120 c)
section BREDM
variable {d : Nat} {I L : H3} {t : Nat → Nat}
theorem sMs_B {I J : H3} (h : Fr sMs I J) : Fr sBm I J := h.mo (fun r i c k => by
  unfold sBm at k
  simp only [Bool.or_eq_false_iff] at k
  exact k.1.1)
theorem sBm_q {I J : H3} (h : Fr sBm I J) : Fr sQ I J := h.mo (fun r i c k => by
  unfold sQ at k
  unfold sBm
  simp only [Bool.or_eq_false_iff] at k ⊢
  exact ⟨⟨k.1.1.1.2, k.1.2⟩, k.2⟩)
def sBd (r _ c : Nat) : Bool := r == 54 || (r == 12 && c == 12) || (r == 48 && Nat.ble 1920 c) || (r == 49 && Nat.ble 120 c)
theorem sBd_B {I J : H3} (h : Fr sBd I J) : Fr sBm I J := h.mo (fun r i c k => by
  unfold sBm sMs at k
  unfold sBd
  simp only [Bool.or_eq_false_iff, Bool.and_eq_false_iff, beq_eq_false_iff_ne] at k ⊢
  refine ⟨⟨⟨k.1.1.1.1.1.1.1.1.1.1, ?_⟩, k.1.2⟩, k.2⟩
  rcases k.1.1.2 with z | z
  · exact Or.inl z
  · exact Or.inr z.1.1)
theorem b48 {c : Nat} (h : 1920 ≤ c) : sBd 48 0 c = true := by
  unfold sBd
  rw [Nat.ble_eq_true_of_le h]
  simp
theorem b49 {c : Nat} (h : 120 ≤ c) : sBd 49 0 c = true := by
  unfold sBd
  rw [Nat.ble_eq_true_of_le h]
  simp
theorem ix1 {i j : Nat} (hi : i < 9) (hj : j < 16) : w32 (w32 (16 * w32 (120 + (i : Int))) + (j : Int)) = ((16 * (120 + i) + j : Nat) : Int) := by
  rw [w32_s (x := 120 + (i : Int)) (by omega), w32_s (x := 16 * (120 + (i : Int))) (by omega), w32_s (by omega)]
  omega
theorem ix2 {j : Nat} (hj : j < 16) : w32 (2080 + (j : Int)) = ((16 * 130 + j : Nat) : Int) ∧ w32 (2096 + (j : Int)) = ((16 * 131 + j : Nat) : Int) := by
  rw [w32_s (by omega), w32_s (by omega)]
  omega
theorem l218j {i r : Nat} (hi : i < 9) {a b : Nat → Int} {x1 : Int} : ∀ (n j : Nat) (I : H3) (u5 : MV), j + n = 16 → (∀ c, c < 16 → nM I 130 c = a c ∧ nM I 131 c = b c) → (∀ c, c < j → nM I (120 + i) c = bsP a b i c) →
    ∃ J u5', Res (d + 1) 218 11 [vr 12 0, vi x1, vi (r : Int), vi (i : Int), vi (j : Int), u5] [] (mk I L t) = Res (d + 1) 218 11 [vr 12 0, vi x1, vi (r : Int), vi (i : Int), vi 16, u5'] [] (mk J L t) ∧ Fr (fun r' i' c => r' == 48 && i' == 0 && Nat.ble (16 * (120 + i)) c && Nat.ble c (16 * (120 + i) + 15)) I J ∧ (∀ c, c < 16 → nM J (120 + i) c = bsP a b i c)
  | 0, j, I, u5, hj, hab, hv => by
    have h16 : j = 16 := by omega
    subst h16
    exact ⟨I, u5, rfl, Fr.rfl', hv⟩
  | n + 1, j, I, u5, hj, hab, hv => by
    have eb := brB_e (i := i) (j := j) hi (by omega)
    have e1 := ix1 (i := i) (j := j) hi (by omega)
    obtain ⟨e2, e3⟩ := ix2 (j := j) (by omega)
    obtain ⟨ha, hb⟩ := hab j (by omega)
    have ha' : I 48 0 (16 * 130 + j) = a j := ha
    have hb' : I 48 0 (16 * 131 + j) = b j := hb
    have go : ∀ v, v = bsP a b i j → ∀ u5, ∃ J u5', Res (d + 1) 218 11 [vr 12 0, vi x1, vi (r : Int), vi (i : Int), vi (w32 ((j : Int) + 1)), u5] [] (mk (up3 I 48 0 (16 * (120 + i) + j) v) L t) = Res (d + 1) 218 11 [vr 12 0, vi x1, vi (r : Int), vi (i : Int), vi 16, u5'] [] (mk J L t) ∧ Fr (fun r' i' c => r' == 48 && i' == 0 && Nat.ble (16 * (120 + i)) c && Nat.ble c (16 * (120 + i) + 15)) I J ∧ (∀ c, c < 16 → nM J (120 + i) c = bsP a b i c) := fun v hvv u5 => by
      rw [lem_w32k (k := j) (by omega)]
      obtain ⟨J, u5', h1, h2, h3⟩ := l218j hi (r := r) (a := a) (b := b) (x1 := x1) n (j + 1) (up3 I 48 0 (16 * (120 + i) + j) v) u5 (by omega) (fun c hc => by
        unfold nM
        rw [up_s (by omega), up_s (by omega)]
        exact hab c hc) (fun c hc => by
        unfold nM
        by_cases z : c = j
        · subst z
          rw [up_e]
          exact hvv
        · rw [up_s (by omega)]
          exact hv c (by omega))
      refine ⟨J, u5', h1, Fr.tr (Fr.rfl'.up ?_) h2, h3⟩
      show ((48 : Nat) == 48 && (0 : Nat) == 0 && Nat.ble (16 * (120 + i)) (16 * (120 + i) + j) && Nat.ble (16 * (120 + i) + j) (16 * (120 + i) + 15)) = true
      rw [Nat.ble_eq_true_of_le (show 16 * (120 + i) ≤ 16 * (120 + i) + j by omega), Nat.ble_eq_true_of_le (show 16 * (120 + i) + j ≤ 16 * (120 + i) + 15 by omega)]
      rfl
    by_cases q : brB i j = true
    · rw [if_pos q] at eb
      have ev : vIdiv (w32 (a j + b j)) 2 = bsP a b i j := by
        unfold bsP
        rw [if_pos q]
      obtain ⟨J, u5', h1, h2, h3⟩ := go _ ev (vi (a j))
      refine ⟨J, u5', Eq.trans (P218_11_1 (h1 := by omega) (g1 := by rw [e2]; omega) (h2 := by rw [eb]; decide) (g2 := by rw [e3]; omega) (g3 := by rw [e1]; omega)) ?_, h2, h3⟩
      rw [e1, e2, e3, Int.toNat_natCast, Int.toNat_natCast, Int.toNat_natCast, ha', hb']
      exact h1
    · rw [if_neg q] at eb
      have ev : a j = bsP a b i j := by
        unfold bsP
        rw [if_neg q]
      obtain ⟨J, u5', h1, h2, h3⟩ := go _ ev (vi (a j))
      refine ⟨J, u5', Eq.trans (P218_11_0 (h1 := by omega) (g1 := by rw [e2]; omega) (h2 := eb) (g2 := by rw [e1]; omega)) ?_, h2, h3⟩
      rw [e1, e2, Int.toNat_natCast, Int.toNat_natCast, ha']
      exact h1
/-- child i is there -/
def kdM (J : H3) (a b : Nat → Int) (r : Nat) (k : Int) (i : Nat) : Prop := c16 (nM J (120 + i)) = chP a b i r ∧ J 49 0 (120 + i) = k ∧ J 54 0 i = ((120 + i : Nat) : Int)
theorem l218 {r : Nat} (hr : r < 31) {a b : Nat → Int} {k : Int} {I0 : H3} : ∀ (n i : Nat) (I : H3) (u4 u5 : MV), i + n = 9 → Fr sBd I0 I → c16 (nM I 130) = c16 a → c16 (nM I 131) = c16 b → (∀ j, j < i → kdM I a b r k j) →
    ∃ J, Res (d + 1) 218 2 [vr 12 0, vi k, vi (r : Int), vi (i : Int), u4, u5] [] (mk I L t) = some (vx, mk J L t) ∧ Fr sBd I0 J ∧ J 12 0 12 = 9 ∧ ∀ j, j < 9 → kdM J a b r k j
  | 0, i, I, u4, u5, hi, F, ha, hb, hv => by
    refine ⟨_, P218_2_1 (by omega), F.up rfl, up_e, fun j hj => ?_⟩
    unfold kdM nM
    rw [up_r (show (48 : Nat) ≠ 12 by decide), up_r (show (49 : Nat) ≠ 12 by decide), up_r (show (54 : Nat) ≠ 12 by decide)]
    exact hv j (by omega)
  | n + 1, i, I, u4, u5, hi, F, ha, hb, hv => by
    obtain ⟨J1, u5', h1, F1, e1⟩ := l218j (d := d) (L := L) (t := t) (i := i) (r := r) (by omega) (a := a) (b := b) (x1 := k) 16 0 I u5 rfl (fun c hc => ⟨c16_of ha hc, c16_of hb hc⟩) (fun c hc => by omega)
    have hx := chX_v ⟨i, by omega⟩ ⟨r, hr⟩
    have hx1 : 0 ≤ chX i r ∧ chX i r < 16 := hx.1
    obtain ⟨x, hxx⟩ : ∃ x : Nat, chX i r = (x : Int) := ⟨(chX i r).toNat, by omega⟩
    have hx16 : x < 16 := by omega
    have e120 : w32 (120 + (i : Int)) = ((120 + i : Nat) : Int) := by rw [w32_s (by omega)]; omega
    have eix : w32 (w32 (16 * w32 (120 + (i : Int))) + vIrem (w32 (w32 (5 * (i : Int)) + (r : Int))) 16) = ((16 * (120 + i) + x : Nat) : Int) := by
      have : vIrem (w32 (w32 (5 * (i : Int)) + (r : Int))) 16 = (x : Int) := hxx
      rw [this]
      exact ix1 (by omega) hx16
    have FB : Fr sBd I J1 := F1.mo (fun r' i' c q => by
      unfold sBd at q
      simp only [Bool.or_eq_false_iff, Bool.and_eq_false_iff, beq_eq_false_iff_ne] at q ⊢
      rcases q.1.2 with z | z
      · exact Or.inl (Or.inl (Or.inl z))
      · refine Or.inl (Or.inr (Bool.eq_false_iff.mpr (fun y => ?_)))
        have := Nat.le_of_ble_eq_true y
        rw [Nat.ble_eq_true_of_le (show 1920 ≤ c by omega)] at z
        cases z)
    have out : ∀ f c, c < 16 → f ≠ 120 + i → nM J1 f c = nM I f c := fun f c hc hf => F1 48 0 (16 * f + c) (by
      show ((48 : Nat) == 48 && (0 : Nat) == 0 && Nat.ble (16 * (120 + i)) (16 * f + c) && Nat.ble (16 * f + c) (16 * (120 + i) + 15)) = false
      by_cases z : f < 120 + i
      · rw [ble_f (show 16 * f + c < 16 * (120 + i) by omega)]
        rfl
      · rw [ble_f (show 16 * (120 + i) + 15 < 16 * f + c by omega), Bool.and_false])
    have o49 : J1 49 = I 49 := F1.rg (fun _ _ => rfl)
    have o54 : J1 54 = I 54 := F1.rg (fun _ _ => rfl)
    -- the end of a child
    have go : ∀ (J2 : H3), Fr sBd J1 J2 → (∀ f c, c < 16 → f ≠ 120 + i → nM J2 f c = nM J1 f c) → c16 (nM J2 (120 + i)) = chP a b i r → (∀ f, f ≠ 120 + i → J2 49 0 f = J1 49 0 f) → J2 49 0 (120 + i) = k → (∀ p, p ≠ i → J2 54 0 p = J1 54 0 p) → J2 54 0 i = ((120 + i : Nat) : Int) → ∀ u4 u5, ∃ J, Res (d + 1) 218 2 [vr 12 0, vi k, vi (r : Int), vi (w32 ((i : Int) + 1)), u4, u5] [] (mk J2 L t) = some (vx, mk J L t) ∧ Fr sBd I0 J ∧ J 12 0 12 = 9 ∧ ∀ j, j < 9 → kdM J a b r k j := fun J2 G2 g1 g2 g3 g4 g5 g6 u4 u5 => by
      rw [lem_w32k (k := i) (by omega)]
      refine l218 hr n (i + 1) J2 u4 u5 (by omega) ((F.tr FB).tr G2) ?_ ?_ (fun j hj => ?_)
      · rw [← ha]
        exact c16_cg (fun c hc => (g1 130 c hc (by omega)).trans (out 130 c hc (by omega)))
      · rw [← hb]
        exact c16_cg (fun c hc => (g1 131 c hc (by omega)).trans (out 131 c hc (by omega)))
      · by_cases z : j = i
        · subst z
          exact ⟨g2, g4, g6⟩
        · obtain ⟨v1, v2, v3⟩ := hv j (by omega)
          refine ⟨?_, ?_, ?_⟩
          · rw [← v1]
            exact c16_cg (fun c hc => (g1 _ c hc (by omega)).trans (out _ c hc (by omega)))
          · rw [g3 _ (by omega), o49]
            exact v2
          · rw [g5 j z, o54]
            exact v3
    by_cases q : 0 < (i : Int)
    · have fin : ∀ y : Int, y = mrP i → ∀ u4 u5, ∃ J, Res (d + 1) 218 2 [vr 12 0, vi k, vi (r : Int), vi (w32 ((i : Int) + 1)), u4, u5] [] (mk (up3 (up3 (up3 J1 48 0 (16 * (120 + i) + x) (cutP (w32 (J1 48 0 (16 * (120 + i) + x) + y)) 0 31)) 49 0 (120 + i) k) 54 0 i ((120 + i : Nat) : Int)) L t) = some (vx, mk J L t) ∧ Fr sBd I0 J ∧ J 12 0 12 = 9 ∧ ∀ j, j < 9 → kdM J a b r k j := fun y hy => by
        refine go _ (((Fr.rfl'.up (b48 (by omega))).up (b49 (by omega))).up rfl) (fun f c hc hf => ?_) ?_ (fun f hf => ?_) ?_ (fun p hp => ?_) up_e
        · unfold nM
          rw [up_r (show (48 : Nat) ≠ 54 by decide), up_r (show (48 : Nat) ≠ 49 by decide), up_s (by omega)]
        · rw [← chP_c]
          refine c16_cg (fun c hc => ?_)
          have ex : (chX i r).toNat = x := by omega
          unfold chP nM
          rw [if_pos hc, up_r (show (48 : Nat) ≠ 54 by decide), up_r (show (48 : Nat) ≠ 49 by decide), ex]
          by_cases z : c = x
          · rw [if_pos ⟨by omega, z⟩, z, up_e, hy]
            have := e1 x hx16
            rw [show J1 48 0 (16 * (120 + i) + x) = bsP a b i x from this]
          · rw [if_neg (fun w => z w.2), up_s (by omega)]
            exact e1 c hc
        · rw [up_r (show (49 : Nat) ≠ 54 by decide), up_s hf, up_r (show (49 : Nat) ≠ 48 by decide)]
        · rw [up_r (show (49 : Nat) ≠ 54 by decide), up_e]
        · rw [up_s hp, up_r (show (54 : Nat) ≠ 49 by decide), up_r (show (54 : Nat) ≠ 48 by decide)]
      by_cases q2 : vIrem (i : Int) 2 = 1
      · obtain ⟨J, h, hJ⟩ := fin 2 (by unfold mrP; rw [if_pos q2]) (vi (w32 (w32 (16 * w32 (120 + (i : Int))) + vIrem (w32 (w32 (5 * (i : Int)) + (r : Int))) 16))) u5'
        refine ⟨J, Eq.trans (P218_2_0 (by omega)) (Eq.trans h1 (Eq.trans (P218_11_2 (h1 := by decide) (h2 := q) (g1 := by rw [eix]; omega) (h3 := q2) (g2 := by rw [e120]; omega) (g3 := by omega)) ?_)), hJ⟩
        rw [eix] at h ⊢
        rw [e120]
        exact h
      · obtain ⟨J, h, hJ⟩ := fin (-2) (by unfold mrP; rw [if_neg q2]) (vi (w32 (w32 (16 * w32 (120 + (i : Int))) + vIrem (w32 (w32 (5 * (i : Int)) + (r : Int))) 16))) u5'
        refine ⟨J, Eq.trans (P218_2_0 (by omega)) (Eq.trans h1 (Eq.trans (P218_11_3 (h1 := by decide) (h2 := q) (g1 := by rw [eix]; omega) (h3 := q2) (g2 := by rw [e120]; omega) (g3 := by omega)) ?_)), hJ⟩
        rw [eix] at h ⊢
        rw [e120]
        exact h
    · obtain ⟨J, h, hJ⟩ := go (up3 (up3 J1 49 0 (120 + i) k) 54 0 i ((120 + i : Nat) : Int)) ((Fr.rfl'.up (b49 (by omega))).up rfl) (fun f c hc hf => by
        unfold nM
        rw [up_r (show (48 : Nat) ≠ 54 by decide), up_r (show (48 : Nat) ≠ 49 by decide)]) (by
        rw [← chP_c]
        refine c16_cg (fun c hc => ?_)
        unfold chP nM
        rw [if_pos hc, if_neg (fun z => by omega), up_r (show (48 : Nat) ≠ 54 by decide), up_r (show (48 : Nat) ≠ 49 by decide)]
        exact e1 c hc) (fun f hf => by
        rw [up_r (show (49 : Nat) ≠ 54 by decide), up_s hf]) (by
        rw [up_r (show (49 : Nat) ≠ 54 by decide), up_e]) (fun p hp => by
        rw [up_s hp, up_r (show (54 : Nat) ≠ 49 by decide)]) up_e (vi (w32 (w32 (16 * w32 (120 + (i : Int))) + vIrem (w32 (w32 (5 * (i : Int)) + (r : Int))) 16))) u5'
      refine ⟨J, Eq.trans (P218_2_0 (by omega)) (Eq.trans h1 (Eq.trans (P218_11_4 (h1 := by decide) (h2 := by omega) (g1 := by rw [e120]; omega) (g2 := by omega)) ?_)), hJ⟩
      rw [e120] at h ⊢
      exact h
theorem sp218 {r : Nat} (hr : r < 31) {k : Int} : ∃ J, Cal (d + 1) 218 [vr 12 0, vi k, vi (r : Int)] (mk I L t) = some (vx, mk J L t) ∧ Fr sBd I J ∧ J 12 0 12 = 9 ∧ ∀ j, j < 9 → kdM J (nM I 130) (nM I 131) r k j := by
  obtain ⟨J, h, hJ⟩ := l218 (d := d) (L := L) (t := t) hr (a := nM I 130) (b := nM I 131) (k := k) 9 0 I vx vx rfl Fr.rfl' rfl rfl (fun j hj => by omega)
  exact ⟨J, Eq.trans P218_0_0 h, hJ⟩
/-- distances of a witness, in the model -/
def dsM (I : H3) (w : Nat) (a : Nat → Int) (k : Int) : Int := farP (mA I w) (mG I w (w32 (I 12 0 0 - I 86 0 w))) (I 81 0 w) (c16 (kpM I w)) a k
def MW (I0 I : H3) (w : Nat) : Prop := MAt I (I0 80 0 w).toNat (I0 81 0 w) (gvT (I0 83 0 w) (I0 84 0 w) (I0 85 0 w) (I0 87 0 w)) (c16 (kpM I0 w)) (c16 (ktM I0 w)) (w32 (I0 12 0 0 - I0 86 0 w))
theorem mfarB {w : Nat} {I0 : H3} (F : Fr sBm I0 I) (a : MW I0 I w) {f : Nat} (hf : f < 132) : ∃ J, Cal (d + 2) 188 [vr 12 0, vi (f : Int)] (mk I L t) = some (vi (dsM I0 w (nM I f) (I 49 0 f)), mk J L t) ∧ Fr sF I J ∧ MW I0 J w := by
  have a' : MAt I (I0 80 0 w).toNat (I0 81 0 w) (gvT (I0 83 0 w) (I0 84 0 w) (I0 85 0 w) (I0 87 0 w)) (c16 (kpM I0 w)) (c16 (ktM I0 w)) (w32 (I0 12 0 0 - I0 86 0 w)) := a
  obtain ⟨J, c, G, g⟩ := sp188 (d := d) (f := f) (L := L) (t := t) hf a'.1
  have eg : gN (gvM I) = gvT (I0 83 0 w) (I0 84 0 w) (I0 85 0 w) (I0 87 0 w) (w32 (I0 12 0 0 - I0 86 0 w)) := by
    rw [a'.2.2.1]
    exact gN_gvB _ _ _ _ _
  rw [eg] at c g
  refine ⟨J, c.trans ?_, G, a'.fr G rfl rfl (fun _ => ⟨rfl, rfl, rfl⟩) (fun _ => ⟨rfl, rfl⟩) (g.trans a'.2.2.1.symm)⟩
  have eh : mH I (I0 80 0 w).toNat = mH I0 (I0 80 0 w).toNat := mH_fr F (fun _ => ⟨rfl, rfl, rfl⟩)
  rw [a'.2.1, farP_cg rfl (m' := c16 (kpM I0 w)) (by rw [a'.2.2.2.1, ← a'.2.2.2.1, c16_c]), eh]
  rfl
/-- a line of faces, each with its numbers and kin -/
def lnG (I : H3) (N : Nat → Nat → Int) (K : Nat → Int) : Prop := (0 ≤ I 12 0 12 ∧ I 12 0 12 ≤ 9) ∧ ∀ p : Nat, p < 9 → mrv I (p : Nat) = -1 ∨ ((0 ≤ mrv I (p : Nat) ∧ mrv I (p : Nat) < 130) ∧ c16 (nM I (mrv I (p : Nat)).toNat) = N (cnN (mrv I) p) ∧ I 49 0 (mrv I (p : Nat)).toNat = K (cnN (mrv I) p))
theorem sF_Bm {I J : H3} (h : Fr sF I J) : Fr sBm I J := sMs_B (sF_s h)
theorem lnG_fr {J : H3} {N : Nat → Nat → Int} {K : Nat → Int} (G : Fr sF I J) (h : lnG I N K) : lnG J N K ∧ mrv J = mrv I := by
  have e := mrv_fr G rfl (fun _ => rfl)
  refine ⟨?_, e⟩
  unfold lnG
  rw [e, G 12 0 12 rfl, nM_fr G (fun _ => rfl), G.ri (r := 49) (i := 0) (fun _ => rfl)]
  exact h
theorem l217 {w : Nat} {I0 : H3} {N : Nat → Nat → Int} {K : Nat → Int} {rv : Int → Int} {but : Int} : ∀ (n k : Nat) (s : Int × Int) (I : H3) (u5 : MV), (k : Int) + n = I 12 0 12 → Fr sBm I0 I → MW I0 I w → lnG I N K → mrv I = rv → (s.1 = -1 ∨ 0 ≤ s.1) →
    ∃ J, Res (d + 3) 217 7 [vr 12 0, vi but, vi s.1, vi s.2, vi (k : Int), u5] [] (mk I L t) = some (vi (fo (nlS (fun p => dsM I0 w (N (cnN rv p)) (K (cnN rv p))) rv but) k n s).1, mk J L t) ∧ Fr sBm I0 J ∧ MW I0 J w ∧ lnG J N K ∧ mrv J = rv
  | 0, k, s, I, u5, hk, F, a, hl, hr, hs => ⟨I, P217_7_5 (h1 := by omega), F, a, hl, hr⟩
  | n + 1, k, s, I, u5, hk, F, a, hl, hr, hs => by
    have h9 := hl.1
    have ev : mrv I (k : Int) = I 54 0 k := mrv_at (by omega)
    have hb := hl.2 k (by omega)
    rw [hr] at ev hb
    rw [fo_s]
    have nx : ∀ (s' : Int × Int) (J : H3) (u5 : MV), J 12 0 12 = I 12 0 12 → Fr sBm I0 J → MW I0 J w → lnG J N K → mrv J = rv → (s'.1 = -1 ∨ 0 ≤ s'.1) → ∃ J', Res (d + 3) 217 7 [vr 12 0, vi but, vi s'.1, vi s'.2, vi (w32 ((k : Int) + 1)), u5] [] (mk J L t) = some (vi (fo (nlS (fun p => dsM I0 w (N (cnN rv p)) (K (cnN rv p))) rv but) (k + 1) n s').1, mk J' L t) ∧ Fr sBm I0 J' ∧ MW I0 J' w ∧ lnG J' N K ∧ mrv J' = rv := fun s' J u5 h12 F' a' l' r' hs' => by
      rw [lem_w32k (k := k) (by omega)]
      exact l217 n (k + 1) s' J u5 (by rw [h12]; omega) F' a' l' r' hs'
    by_cases c : rv (k : Nat) = -1
    · have e : nlS (fun p => dsM I0 w (N (cnN rv p)) (K (cnN rv p))) rv but k s = s := if_pos (Or.inl c)
      rw [e]
      obtain ⟨J, h, hJ⟩ := nx s I u5 rfl F a hl hr hs
      exact ⟨J, Eq.trans (P217_7_4 (h1 := by omega) (g1 := by omega) (h2 := by rw [Int.toNat_natCast, ← ev]; exact c)) h, hJ⟩
    · obtain ⟨b1, b2, b3⟩ := hb.resolve_left c
      have h2 : ¬ I 54 0 ((k : Int).toNat) = -1 := by
        rw [Int.toNat_natCast, ← ev]
        exact c
      by_cases q : (k : Int) = but
      · have e : nlS (fun p => dsM I0 w (N (cnN rv p)) (K (cnN rv p))) rv but k s = s := if_pos (Or.inr q)
        rw [e]
        obtain ⟨J, h, hJ⟩ := nx s I u5 rfl F a hl hr hs
        exact ⟨J, Eq.trans (P217_7_0 (h1 := by omega) (g1 := by omega) (h2 := h2) (h3 := q)) h, hJ⟩
      · obtain ⟨J1, c1, G1, m1⟩ := mfarB (d := d) (L := L) (t := t) F a (f := (rv (k : Nat)).toNat) (by omega)
        have ef : (((rv (k : Nat)).toNat : Nat) : Int) = I 54 0 ((k : Int).toNat) := by
          rw [Int.toNat_natCast, ← ev]
          omega
        have ed : dsM I0 w (nM I (rv (k : Nat)).toNat) (I 49 0 (rv (k : Nat)).toNat) = dsM I0 w (N (cnN rv k)) (K (cnN rv k)) := by
          unfold dsM
          rw [b3, farP_cg (f' := N (cnN rv k)) (by rw [← b2, c16_c]) rfl]
        rw [ef, ed] at c1
        obtain ⟨l1, r1⟩ := lnG_fr G1 hl
        have h12 : J1 12 0 12 = I 12 0 12 := G1 12 0 12 rfl
        by_cases q1 : s.1 = -1
        · have e : nlS (fun p => dsM I0 w (N (cnN rv p)) (K (cnN rv p))) rv but k s = ((k : Int), dsM I0 w (N (cnN rv k)) (K (cnN rv k))) := by
            unfold nlS
            rw [if_neg (fun z => z.elim c q), if_pos (Or.inl q1)]
          rw [e]
          obtain ⟨J, h, hJ⟩ := nx ((k : Int), dsM I0 w (N (cnN rv k)) (K (cnN rv k))) J1 (vi (dsM I0 w (N (cnN rv k)) (K (cnN rv k)))) h12 (F.tr (sF_Bm G1)) m1 l1 (r1.trans hr) (Or.inr (by show (0 : Int) ≤ (k : Int); omega))
          exact ⟨J, Eq.trans (P217_7_3 (h1 := by omega) (g1 := by omega) (h2 := h2) (h3 := q) (c1 := c1) (h4 := q1)) h, hJ⟩
        · by_cases q2 : dsM I0 w (N (cnN rv k)) (K (cnN rv k)) < s.2
          · have e : nlS (fun p => dsM I0 w (N (cnN rv p)) (K (cnN rv p))) rv but k s = ((k : Int), dsM I0 w (N (cnN rv k)) (K (cnN rv k))) := by
              unfold nlS
              rw [if_neg (fun z => z.elim c q), if_pos (Or.inr q2)]
            rw [e]
            obtain ⟨J, h, hJ⟩ := nx ((k : Int), dsM I0 w (N (cnN rv k)) (K (cnN rv k))) J1 (vi (dsM I0 w (N (cnN rv k)) (K (cnN rv k)))) h12 (F.tr (sF_Bm G1)) m1 l1 (r1.trans hr) (Or.inr (by show (0 : Int) ≤ (k : Int); omega))
            exact ⟨J, Eq.trans (P217_7_2 (h1 := by omega) (g1 := by omega) (h2 := h2) (h3 := q) (c1 := c1) (h4 := q1) (h5 := q2)) h, hJ⟩
          · have e : nlS (fun p => dsM I0 w (N (cnN rv p)) (K (cnN rv p))) rv but k s = s := by
              unfold nlS
              rw [if_neg (fun z => z.elim c q), if_neg (fun z => z.elim q1 q2)]
            rw [e]
            obtain ⟨J, h, hJ⟩ := nx s J1 (vi (dsM I0 w (N (cnN rv k)) (K (cnN rv k)))) h12 (F.tr (sF_Bm G1)) m1 l1 (r1.trans hr) hs
            exact ⟨J, Eq.trans (P217_7_1 (h1 := by omega) (g1 := by omega) (h2 := h2) (h3 := q) (c1 := c1) (h4 := q1) (h5 := Int.not_lt.mp q2)) h, hJ⟩
theorem sp217 {w : Nat} {I0 : H3} {N : Nat → Nat → Int} {K : Nat → Int} {rv : Int → Int} {but : Int} (F : Fr sBm I0 I) (a : MW I0 I w) (hl : lnG I N K) (hr : mrv I = rv) : ∃ J, Cal (d + 3) 217 [vr 12 0, vi but] (mk I L t) = some (vi (nlF (fun p => dsM I0 w (N (cnN rv p)) (K (cnN rv p))) rv but), mk J L t) ∧ Fr sBm I0 J ∧ MW I0 J w ∧ lnG J N K ∧ mrv J = rv := by
  have h9 := hl.1
  obtain ⟨J, h, hJ⟩ := l217 (d := d) (L := L) (t := t) (but := but) (I 12 0 12).toNat 0 (-1, 0) I vx (by omega) F a hl hr (Or.inl rfl)
  refine ⟨J, Eq.trans P217_0_0 (h.trans ?_), hJ⟩
  have e : fo (nlS (fun p => dsM I0 w (N (cnN rv p)) (K (cnN rv p))) rv but) 0 9 (-1, 0) = fo (nlS (fun p => dsM I0 w (N (cnN rv p)) (K (cnN rv p))) rv but) 0 (I 12 0 12).toNat (-1, 0) := by
    have := fo_add (nlS (fun p => dsM I0 w (N (cnN rv p)) (K (cnN rv p))) rv but) (I 12 0 12).toNat (9 - (I 12 0 12).toNat) 0 (-1, 0)
    rw [show (I 12 0 12).toNat + (9 - (I 12 0 12).toNat) = 9 by omega] at this
    rw [this]
    exact fo_id _ _ _ (fun j b h1 h2 => if_pos (Or.inl (by rw [← hr]; exact mrv_ge (by omega))))
  unfold nlF
  rw [e]
end BREDM
