/-! the model: replayed, spoilt -/
theorem odQ_in9 {H : HH} {G : Nat → Int} {fa rv : Int → Int} {each : Bool} {led push : Int} (hf : ∀ x, 0 ≤ fa x ∧ fa x ≤ 9999) (hp : 0 ≤ push ∧ push ≤ 99) (k : Nat) : -9000000 ≤ odQ (ans H) G fa rv each led push k ∧ odQ (ans H) G fa rv each led push k ≤ 1000000 := by
  by_cases hk : k < 9
  · have := odQ_in (H := H) (G := G) (fa := fa) (rv := rv) (each := each) (led := led) (push := push) hf hp hk
    omega
  · unfold odQ odP
    rw [if_neg hk]
    exact lft_b (odQ_ok hf hp) (Nat.le_refl 9)
theorem mrF_long (lg : Nat → Int × Int × Int) (st : Int × Int × Int → SS → SS) (i : Int) : ∀ (n m l : Nat) (s : SS), (lg (l + n)).1 = 1 → (lg (l + n)).2.2 = i → mrF lg st i (n + m) l s = mrF lg st i n l s
  | 0, m, l, s, h1, h2 => by
    cases m with
    | zero => rfl
    | succ m =>
      rw [Nat.zero_add]
      show (if (lg l).1 = 1 ∧ (lg l).2.2 = i then s else _) = s
      exact if_pos ⟨h1, h2⟩
  | n + 1, m, l, s, h1, h2 => by
    rw [show n + 1 + m = (n + m) + 1 by omega]
    show (if (lg l).1 = 1 ∧ (lg l).2.2 = i then s else _) = if (lg l).1 = 1 ∧ (lg l).2.2 = i then s else _
    by_cases c : (lg l).1 = 1 ∧ (lg l).2.2 = i
    · rw [if_pos c, if_pos c]
    · rw [if_neg c, if_neg c]
      exact mrF_long lg st i n m (l + 1) _ (by rw [show l + 1 + n = l + (n + 1) by omega]; exact h1) (by rw [show l + 1 + n = l + (n + 1) by omega]; exact h2)
/-- what a replay answers, in the model -/
def mrpW (I : H3) (i : Nat) (without : Int) : Int := mopS I i (I 94 0 i).toNat (mrpS I (I 12 0 72).toNat i (I 94 0 i).toNat without)
theorem mopS_in {I : H3} {i w : Nat} {s : SS} (hp : 0 ≤ I 99 0 i ∧ I 99 0 i ≤ 99) : -9000000 ≤ mopS I i w s ∧ mopS I i w s ≤ 1000000 := odQ_in9 (fun x => mfa_in x) hp _
def erM (I : H3) (j i : Int) : Prop := (0 ≤ j ∧ j < I 12 0 3) ∧ (0 ≤ i ∧ i < I 12 0 3) ∧ j < i ∧ I 94 0 j.toNat = I 94 0 i.toNat
section MRPV
variable {d i : Nat} {I0 L : H3} {t : Nat → Nat} {without : Int}
theorem sp236' {I : H3} (hk : mrpOk I0) (hi : (i : Int) < I0 12 0 3) (F : Fr sMs I0 I) : ∃ J, Cal (d + 5) 236 [vr 12 0, vi (i : Int), vi without] (mk I L t) = some (vi (mrpW I0 i without), mk J L t) ∧ Fr sMs I0 J := by
  obtain ⟨l, h1, h2, h3, h4⟩ := hk.2.2.2.2 i hi
  obtain ⟨J, c, G⟩ := sp236 (d := d) (L := L) (t := t) (without := without) hk hi (n := l - (I0 93 0 (I0 94 0 i).toNat).toNat) ⟨l, by omega, h2, h3, h4⟩ F
  refine ⟨J, ?_, G⟩
  rw [c]
  unfold mrpW mrpS
  have e := mrF_long (lgM I0) (mstW I0 (I0 94 0 i).toNat without) (i : Int) (l - (I0 93 0 (I0 94 0 i).toNat).toNat) ((I0 12 0 72).toNat - (l - (I0 93 0 (I0 94 0 i).toNat).toNat)) (I0 93 0 (I0 94 0 i).toNat).toNat (seeP (mA I0 (I0 94 0 i).toNat) (mG I0 (I0 94 0 i).toNat) (nM I0 (I0 82 0 (I0 94 0 i).toNat).toNat), 0) (by rw [show (I0 93 0 (I0 94 0 i).toNat).toNat + (l - (I0 93 0 (I0 94 0 i).toNat).toNat) = l by omega]; exact h3) (by rw [show (I0 93 0 (I0 94 0 i).toNat).toNat + (l - (I0 93 0 (I0 94 0 i).toNat).toNat) = l by omega]; exact h4)
  rw [show l - (I0 93 0 (I0 94 0 i).toNat).toNat + ((I0 12 0 72).toNat - (l - (I0 93 0 (I0 94 0 i).toNat).toNat)) = (I0 12 0 72).toNat by omega] at e
  rw [e]
theorem mrpW_in (hk : mrpOk I0) (hi : (i : Int) < I0 12 0 3) : -9000000 ≤ mrpW I0 i without ∧ mrpW I0 i without ≤ 1000000 := mopS_in (hk.2.2.1.2 i hi).2.2.1
theorem apt_ab {a b : Int} (ha : -9000000 ≤ a ∧ a ≤ 1000000) (hb : -9000000 ≤ b ∧ b ≤ 1000000) : aptP a b = abP (a - b) := by
  unfold aptP abP
  rw [w32_s (x := a - b) (by omega), w32_s (x := b - a) (by omega), w32_s (x := -(a - b)) (by omega)]
  split <;> split <;> omega
theorem sp238 (hk : mrpOk I0) (hkd : ∀ i : Nat, (i : Int) < I0 12 0 3 → 0 ≤ I0 95 0 i ∧ I0 95 0 i ≤ 2) (dec : ∀ j i, Decidable (erM I0 j i)) (i j : Int) : ∃ J, Cal (d + 6) 238 [vr 12 0, vi i, vi j] (mk I0 L t) = some (vi (rpV (erM I0) dec (mrpW I0) (I0 12 0 3) (fun i => I0 95 0 i) i j), mk J L t) ∧ Fr sMs I0 J := by
  have h13 := hk.2.2.1.1
  unfold rpV
  by_cases a : 0 ≤ i ∧ i < I0 12 0 3
  · have hki := hkd i.toNat (by omega)
    by_cases b : I0 95 0 i.toNat = 2
    · rw [if_pos (Or.inr b)]
      exact ⟨I0, P238_0_4 (P237_0_2 (by omega) a (by omega) (by omega)), Fr.rfl'⟩
    · rw [if_neg (fun q => q.elim (fun q => q a) b)]
      have ei : ((i.toNat : Nat) : Int) = i := by omega
      have c0 : Cal (d + 5) 237 [vr 12 0, vi i] (mk I0 L t) = some (vi 1, mk I0 L t) := P237_0_1 (d := d + 3) (by omega) a (by omega) (by omega)
      by_cases c : j = -1
      · rw [if_pos c]
        obtain ⟨J, h, F⟩ := sp236' (d := d) (L := L) (t := t) (i := i.toNat) (without := j) hk (by omega) Fr.rfl'
        rw [ei] at h
        rw [c] at h ⊢
        exact ⟨J, P238_0_3 c0 rfl h, F⟩
      · rw [if_neg c]
        have e1 : w32 (i - 1) = i - 1 := w32_s (by omega)
        by_cases e : erM I0 j i
        · rw [if_pos e]
          obtain ⟨J, h, F⟩ := sp236' (d := d) (L := L) (t := t) (i := i.toNat) (without := j) hk (by omega) Fr.rfl'
          rw [ei] at h
          have e' := e
          obtain ⟨e2, e3, e4, e5⟩ := e'
          exact ⟨J, P238_0_1 c0 c (by rw [e1]; omega) (by omega) (by omega) e5 h, F⟩
        · rw [if_neg e]
          by_cases f : 0 ≤ j ∧ j ≤ i - 1
          · exact ⟨I0, P238_0_2 c0 c (by rw [e1]; exact f) (by omega) (by omega) (fun q => e ⟨by omega, a, by omega, q⟩), Fr.rfl'⟩
          · exact ⟨I0, P238_0_0 c0 c (by rw [e1]; exact f), Fr.rfl'⟩
  · rw [if_pos (Or.inl a)]
    exact ⟨I0, P238_0_4 (P237_0_0 (by omega) a), Fr.rfl'⟩
theorem l239 (hk : mrpOk I0) (dec : ∀ j i, Decidable (erM I0 j i)) (hi : (i : Int) < I0 12 0 3) {all : Int} (hall : -9000000 ≤ all ∧ all ≤ 1000000) : ∀ (n k : Nat) (s : Int × Int) (I : H3) (u : MV), k + n = i → Fr sMs I0 I →
    ∃ J, Res (d + 6) 239 25 [vr 12 0, vi (i : Int), vi all, vi s.1, vi s.2, vi (k : Int), u] [] (mk I L t) = some (vi (fo (spS (fun j => erM I0 j i) (fun j => dec j i) (fun j => mrpW I0 i j) all) k n s).1, mk J L t) ∧ Fr sMs I0 J
  | 0, k, s, I, u, hk', hF => ⟨I, P239_25_3 (by omega), hF⟩
  | n + 1, k, s, I, u, hk', hF => by
    have h13 := hk.2.2.1.1
    rw [fo_s]
    by_cases a : I0 94 0 k = I0 94 0 i
    · have a' : erM I0 (k : Int) (i : Int) := ⟨by omega, by omega, by omega, a⟩
      obtain ⟨J1, c1, F1⟩ := sp236' (d := d) (L := L) (t := t) (i := i) (without := (k : Int)) hk hi hF
      have ea := apt_ab (mrpW_in (without := (k : Int)) hk hi) hall
      have h2 : I 94 0 ((k : Int).toNat) = I 94 0 ((i : Int).toNat) := by
        rw [Int.toNat_natCast, Int.toNat_natCast, hF 94 0 k rfl, hF 94 0 i rfl]
        exact a
      by_cases b : s.2 < abP (mrpW I0 i (k : Int) - all)
      · have es : spS (fun j => erM I0 j i) (fun j => dec j i) (fun j => mrpW I0 i j) all k s = ((k : Int), abP (mrpW I0 i (k : Int) - all)) := by
          unfold spS
          rw [if_pos a', if_pos b]
        rw [es]
        obtain ⟨J, hr, F⟩ := l239 hk dec hi hall n (k + 1) ((k : Int), abP (mrpW I0 i (k : Int) - all)) J1 (vi (abP (mrpW I0 i (k : Int) - all))) (by omega) F1
        refine ⟨J, Eq.trans (P239_25_2 (h1 := by omega) (g1 := by omega) (g2 := by omega) (h2 := h2) (c1 := c1) (h3 := by rw [ea]; exact b)) ?_, F⟩
        rw [lem_w32k (by omega), ea]
        exact hr
      · have es : spS (fun j => erM I0 j i) (fun j => dec j i) (fun j => mrpW I0 i j) all k s = s := by
          unfold spS
          rw [if_pos a', if_neg b]
        rw [es]
        obtain ⟨J, hr, F⟩ := l239 hk dec hi hall n (k + 1) s J1 (vi (abP (mrpW I0 i (k : Int) - all))) (by omega) F1
        refine ⟨J, Eq.trans (P239_25_1 (h1 := by omega) (g1 := by omega) (g2 := by omega) (h2 := h2) (c1 := c1) (h3 := by rw [ea]; exact Int.not_lt.mp b)) ?_, F⟩
        rw [lem_w32k (by omega), ea]
        exact hr
    · have es : spS (fun j => erM I0 j i) (fun j => dec j i) (fun j => mrpW I0 i j) all k s = s := by
        unfold spS
        rw [if_neg (fun q => a q.2.2.2)]
      rw [es]
      obtain ⟨J, hr, F⟩ := l239 hk dec hi hall n (k + 1) s I u (by omega) hF
      refine ⟨J, Eq.trans (P239_25_0 (h1 := by omega) (g1 := by omega) (g2 := by omega) (h2 := by rw [Int.toNat_natCast, Int.toNat_natCast, hF 94 0 k rfl, hF 94 0 i rfl]; exact a)) ?_, F⟩
      rw [lem_w32k (by omega)]
      exact hr
theorem sp239 (hk : mrpOk I0) (hkd : ∀ i : Nat, (i : Int) < I0 12 0 3 → 0 ≤ I0 95 0 i ∧ I0 95 0 i ≤ 2) (dec : ∀ j i, Decidable (erM I0 j i)) (i : Int) : ∃ J, Cal (d + 6) 239 [vr 12 0, vi i] (mk I0 L t) = some (vi (spV (erM I0) dec (mrpW I0) (I0 12 0 3) (fun i => I0 95 0 i) i), mk J L t) ∧ Fr sMs I0 J := by
  have h13 := hk.2.2.1.1
  unfold spV
  by_cases a : 0 ≤ i ∧ i < I0 12 0 3
  · have hki := hkd i.toNat (by omega)
    by_cases b : I0 95 0 i.toNat = 2
    · rw [if_pos (Or.inr b)]
      exact ⟨I0, P239_0_0 (P237_0_2 (by omega) a (by omega) (by omega)), Fr.rfl'⟩
    · rw [if_neg (fun q => q.elim (fun q => q a) b)]
      obtain ⟨x, rfl⟩ : ∃ x : Nat, i = (x : Int) := ⟨i.toNat, by omega⟩
      rw [Int.toNat_natCast] at hki b ⊢
      have c0 : Cal (d + 5) 237 [vr 12 0, vi (x : Int)] (mk I0 L t) = some (vi 1, mk I0 L t) := P237_0_1 (d := d + 3) (by omega) a (by omega) (by rw [Int.toNat_natCast]; omega)
      obtain ⟨J, h, F⟩ := sp236' (d := d) (L := L) (t := t) (i := x) (without := -1) hk a.2 Fr.rfl'
      obtain ⟨J2, h2, F2⟩ := l239 (d := d) (L := L) (t := t) hk dec a.2 (mrpW_in (without := -1) hk a.2) x 0 (-1, 0) J vx (by omega) F
      exact ⟨J2, Eq.trans (P239_0_1 c0 h) h2, F2⟩
  · rw [if_pos (Or.inl a)]
    exact ⟨I0, P239_0_0 (P237_0_0 (by omega) a), Fr.rfl'⟩
end MRPV
/-! two witnesses -/
/-- v was shown a face that w made -/
def wsP (n : Int) (who : Nat → Int) (rvs : Nat → Int → Int) (mb : Nat → Int) (v w : Int) : Prop := ∃ i : Nat, (i : Int) < n ∧ who i = v ∧ ∃ p : Nat, p < 9 ∧ rvs i p ≠ -1 ∧ mb (rvs i p).toNat = w
/-- what both answers, b where they are apart -/
def boV (nw b : Int) (od : Nat → Nat → Nat → Int) (rvs : Nat → Int → Int) (v w r p what : Int) : Int :=
  if ¬ (0 ≤ v ∧ v < nw) ∨ ¬ (0 ≤ w ∧ w < nw) ∨ v = w then -1 else if what = 0 then b else if what ≠ 1 ∨ ¬ (0 ≤ r ∧ r < 6) ∨ rvs r.toNat p = -1 then -1
  else if b = 0 then (if oP (od w.toNat r.toNat) p < oP (od v.toNat r.toNat) p then oP (od w.toNat r.toNat) p else oP (od v.toNat r.toNat) p)
  else w32 (vLdiv (w64 (oP (od v.toNat r.toNat) p * oP (od w.toNat r.toNat) p)) 1000000)
section BOTHM
variable {d i : Nat} {I L : H3} {t : Nat → Nat} {v w : Int}
theorem msw_at {k : Nat} (h : (k : Int) < I 103 0 i) : msw I i (k : Int) = I 102 0 (9 * i + k) := by
  unfold msw rvP
  rw [if_pos ⟨by omega, h⟩, Int.toNat_natCast]
theorem msw_ge {k : Int} (h : I 103 0 i ≤ k) : msw I i k = -1 := by
  unfold msw rvP
  rw [if_neg (by omega)]
def wsH (I : H3) (i : Nat) (w : Int) : Prop := ∃ p : Nat, p < 9 ∧ msw I i p ≠ -1 ∧ I 50 0 (msw I i p).toNat = w
theorem l240p (hi : i < 100) (hm : msOk I i) : ∀ (n k : Nat) (u5 : MV), (k : Int) + n = I 103 0 i → (∀ p : Nat, p < k → ¬ (msw I i p ≠ -1 ∧ I 50 0 (msw I i p).toNat = w)) →
    (wsH I i w ∧ Res d 240 26 [vr 12 0, vi v, vi w, vi (i : Int), vi (k : Int), u5] [] (mk I L t) = some (vi 1, mk I L t)) ∨
    (¬ wsH I i w ∧ ∃ u4 u5', Res d 240 26 [vr 12 0, vi v, vi w, vi (i : Int), vi (k : Int), u5] [] (mk I L t) = Res d 240 2 [vr 12 0, vi v, vi w, vi ((i + 1 : Nat) : Int), u4, u5'] [] (mk I L t))
  | 0, k, u5, hk, hp => by
    refine Or.inr ⟨fun ⟨p, h1, h2, h3⟩ => ?_, ?_⟩
    · by_cases c : p < k
      · exact hp p c ⟨h2, h3⟩
      · exact h2 (msw_ge (by omega))
    · have := P240_26_3 (d := d) (x1 := v) (x2 := w) (x3 := (i : Int)) (x4 := (k : Int)) (u5 := u5) (I := I) (L := L) (t := t) (g1 := by omega) (h1 := by rw [Int.toNat_natCast]; omega)
      rw [lem_w32k (by omega)] at this
      exact ⟨_, _, this⟩
  | n + 1, k, u5, hk, hp => by
    have h9 := hm.1
    have e1 : w32 (9 * (i : Int)) = 9 * (i : Int) := w32_s (by omega)
    have e2 : w32 (9 * (i : Int) + (k : Int)) = ((9 * i + k : Nat) : Int) := by
      rw [w32_s (by omega)]
      omega
    have ev := msw_at (I := I) (i := i) (k := k) (by omega)
    have hb := hm.2 (k : Int)
    rw [ev] at hb
    by_cases c : I 102 0 (9 * i + k) = -1
    · have r := P240_26_2 (d := d) (x1 := v) (x2 := w) (x3 := (i : Int)) (x4 := (k : Int)) (u5 := u5) (I := I) (L := L) (t := t) (g1 := by omega) (h1 := by rw [Int.toNat_natCast]; omega) (g2 := by rw [e1, e2]; omega) (h2 := by rw [e1, e2]; exact c)
      rw [lem_w32k (k := k) (by omega)] at r
      rw [r]
      exact l240p hi hm n (k + 1) _ (by omega) (fun p h => by
        by_cases q : p = k
        · subst q
          rw [ev]
          exact fun z => z.1 c
        · exact hp p (by omega))
    · by_cases c2 : I 50 0 (I 102 0 (9 * i + k)).toNat = w
      · refine Or.inl ⟨⟨k, by omega, by rw [ev]; exact c, by rw [ev]; exact c2⟩, ?_⟩
        exact P240_26_0 (g1 := by omega) (h1 := by rw [Int.toNat_natCast]; omega) (g2 := by rw [e1, e2]; omega) (h2 := by rw [e1, e2]; exact c) (g3 := by rw [e1, e2, Int.toNat_natCast]; omega) (h3 := by rw [e1, e2]; exact c2)
      · have r := P240_26_1 (d := d) (x1 := v) (x2 := w) (x3 := (i : Int)) (x4 := (k : Int)) (u5 := u5) (I := I) (L := L) (t := t) (g1 := by omega) (h1 := by rw [Int.toNat_natCast]; omega) (g2 := by rw [e1, e2]; omega) (h2 := by rw [e1, e2]; exact c) (g3 := by rw [e1, e2, Int.toNat_natCast]; omega) (h3 := by rw [e1, e2]; exact c2)
        rw [lem_w32k (k := k) (by omega)] at r
        rw [r]
        exact l240p hi hm n (k + 1) _ (by omega) (fun p h => by
          by_cases q : p = k
          · subst q
            rw [ev]
            exact fun z => c2 z.2
          · exact hp p (by omega))
abbrev wsM (I : H3) (v w : Int) : Prop := wsP (I 12 0 3) (I 94 0) (msw I) (I 50 0) v w
theorem l240 (hn : 0 ≤ I 12 0 3 ∧ I 12 0 3 ≤ 100) (hm : ∀ i : Nat, (i : Int) < I 12 0 3 → msOk I i) : ∀ (n i : Nat) (u4 u5 : MV), (i : Int) + n = I 12 0 3 → (∀ j : Nat, j < i → ¬ (I 94 0 j = v ∧ wsH I j w)) →
    ∃ b, (b = 0 ∨ b = 1) ∧ (b = 1 ↔ wsM I v w) ∧ Res d 240 2 [vr 12 0, vi v, vi w, vi (i : Int), u4, u5] [] (mk I L t) = some (vi b, mk I L t)
  | 0, i, u4, u5, hi, hp => ⟨0, Or.inl rfl, ⟨fun q => (by cases q), fun ⟨j, h1, h2, h3⟩ => absurd ⟨h2, h3⟩ (hp j (by omega))⟩, P240_2_2 (by omega)⟩
  | n + 1, i, u4, u5, hi, hp => by
    by_cases c : I 94 0 i = v
    · rcases l240p (d := d) (L := L) (t := t) (v := v) (w := w) (by omega) (hm i (by omega)) (I 103 0 i).toNat 0 u5 (by have := (hm i (by omega)).1; omega) (fun p h => by omega) with ⟨q, r⟩ | ⟨q, u4', u5', r⟩
      · exact ⟨1, Or.inr rfl, ⟨fun _ => ⟨i, by omega, c, q⟩, fun _ => rfl⟩, Eq.trans (P240_2_1 (h1 := by omega) (g1 := by omega) (h2 := c)) r⟩
      · obtain ⟨b, b1, b2, r2⟩ := l240 hn hm n (i + 1) u4' u5' (by omega) (fun j h => by
          by_cases e : j = i
          · subst e
            exact fun z => q z.2
          · exact hp j (by omega))
        exact ⟨b, b1, b2, Eq.trans (P240_2_1 (h1 := by omega) (g1 := by omega) (h2 := c)) (Eq.trans r r2)⟩
    · obtain ⟨b, b1, b2, r2⟩ := l240 hn hm n (i + 1) u4 u5 (by omega) (fun j h => by
        by_cases e : j = i
        · subst e
          exact fun z => c z.1
        · exact hp j (by omega))
      refine ⟨b, b1, b2, Eq.trans (P240_2_0 (h1 := by omega) (g1 := by omega) (h2 := c)) ?_⟩
      rw [lem_w32k (by omega)]
      exact r2
theorem sp240 (hn : 0 ≤ I 12 0 3 ∧ I 12 0 3 ≤ 100) (hm : ∀ i : Nat, (i : Int) < I 12 0 3 → msOk I i) (v w : Int) : ∃ b, (b = 0 ∨ b = 1) ∧ (b = 1 ↔ wsM I v w) ∧ Cal d 240 [vr 12 0, vi v, vi w] (mk I L t) = some (vi b, mk I L t) := by
  obtain ⟨b, b1, b2, r⟩ := l240 (d := d) (L := L) (t := t) (v := v) (w := w) hn hm (I 12 0 3).toNat 0 vx vx (by omega) (fun j h => by omega)
  exact ⟨b, b1, b2, Eq.trans P240_0_0 r⟩
/-- odds of a witness before a row, in the model -/
def modW (I : H3) (w : Nat) (rw' : Int → Int) (each : Bool) (led push : Int) : Nat → Int :=
  odQ (mA I w) (mG I w (w32 (I 12 0 0 - I 86 0 w))) (mfa I (I 80 0 w).toNat (mG I w (w32 (I 12 0 0 - I 86 0 w))) (I 81 0 w) (c16 (kpM I w))) rw' each led push
end BOTHM
