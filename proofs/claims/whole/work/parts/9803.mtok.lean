/-! the model: the next token -/
def mwd (s T : Int) : Int := if s = 0 then (if T ≤ 7 then 20 + T else if T ≤ 17 then 33 + T else 1) else if s = 1 then (if T = 18 then 3 else 1) else (if 19 ≤ T ∧ T ≤ 22 then T - 15 else 1)
def msB (s c : Int) : Bool := decide (c = 59 ∨ (s = 0 ∧ (c = 43 ∨ c = 45 ∨ c = 42 ∨ c = 47 ∨ c = 40 ∨ c = 41)) ∨ (s = 1 ∧ (c = 60 ∨ c = 61 ∨ c = 62)))
/-- the model's token for one of the class -/
def mtkS (s T : Int) : Int := if T = 24 then 0 else if T = 23 then 2 else if T ≤ 25 then mwd s T else if msB s T = true then 100 + T else 1
section MTOK
variable {d : Nat} {L : H3} {t : Nat → Nat} {b b' : Nat → Int} {n : Nat}
/-! bytes behind the end don't count -/
theorem rnF_cg {Q : Int → Bool} (h : ∀ c, c < n → b c = b' c) : ∀ (m p : Nat), p + m ≤ n → rnF Q b m p = rnF Q b' m p
  | 0, _, _ => rfl
  | m + 1, p, hp => by
    show (if Q (b p) = true then rnF Q b m (p + 1) else p) = (if Q (b' p) = true then rnF Q b' m (p + 1) else p)
    rw [h p (by omega), rnF_cg h m (p + 1) (by omega)]
theorem rn_cg {Q : Int → Bool} (h : ∀ c, c < n → b c = b' c) (p : Nat) : rn Q b n p = rn Q b' n p := by
  by_cases z : p ≤ n
  · exact rnF_cg h (n - p) p (by omega)
  · rw [rn_ge (by omega), rn_ge (by omega)]
theorem bl_cg (h : ∀ c, c < n → b c = b' c) : ∀ (m s : Nat), s + m ≤ n → bl b s m = bl b' s m
  | 0, _, _ => rfl
  | m + 1, s, hs => by
    show b s :: bl b (s + 1) m = b' s :: bl b' (s + 1) m
    rw [h s (by omega), bl_cg h m (s + 1) (by omega)]
theorem wd_cg (h : ∀ c, c < n → b c = b' c) {s e : Nat} (hs : s ≤ e) (he : e ≤ n) : wd b s e = wd b' s e := by
  have : mtB b s e = mtB b' s e := by
    funext w
    unfold mtB
    rw [bl_cg h (e - s) s (by omega)]
  unfold wd
  rw [this]
theorem te_cg (h : ∀ c, c < n → b c = b' c) (q : Nat) : teN b n q = teN b' n q := by
  unfold teN
  by_cases z : n ≤ q
  · rw [if_pos z, if_pos z]
  · rw [if_neg z, if_neg z, rn_cg h, rn_cg h, h q (by omega)]
theorem tk_cg (h : ∀ c, c < n → b c = b' c) (q : Nat) : tkC b n q = tkC b' n q := by
  unfold tkC
  by_cases z : n ≤ q
  · rw [if_pos z, if_pos z]
  · have i := rn_i (Q := leB) (b := b) (n := n) (p := q) (by omega)
    rw [if_neg z, if_neg z, wd_cg h i.1 i.2.1, rn_cg h, rn_cg h, h q (by omega)]
theorem vl_cg (h : ∀ c, c < n → b c = b' c) (q : Nat) : vlN b n q = vlN b' n q := by
  unfold vlN
  by_cases z : n ≤ q
  · rw [if_pos z, if_pos z]
  · have i := rn_i (Q := dgB) (b := b) (n := n) (p := q) (by omega)
    have e : nv b q (rn dgB b n q) = nv b' q (rn dgB b n q) := fo_cg _ _ _ (fun j a h1 h2 => by
      unfold nvS
      rw [h j (by omega)])
    rw [if_neg z, if_neg z, e, rn_cg h, h q (by omega)]
theorem st_cg (h : ∀ c, c < n → b c = b' c) : ∀ j, stN b n j = stN b' n j
  | 0 => rn_cg h 0
  | j + 1 => by
    show rn spB b n (teN b n (stN b n j)) = rn spB b' n (teN b' n (stN b' n j))
    rw [st_cg h j, te_cg h, rn_cg h]
theorem l164 {I : H3} {w s e : Nat} (hw : w < 24) (he : e ≤ 400) (hs : s + slen w = e) (e9 : I 12 0 39 = (s : Int)) : ∀ (m k : Nat), k + m = slen w → Res (d + 7) 164 24 [vr 12 0, vr 117 w, vi 1, vi (k : Int)] [] (mk I L t) = some (vi (if (litB.getD w []).drop k = bl (I 62 0) (s + k) m then 1 else 0), mk I L t)
  | 0, k, hk => by
    have e0 : (litB.getD w []).drop k = [] := List.drop_eq_nil_of_le (by have : slen w = (litB.getD w []).length := rfl; omega)
    rw [e0, if_pos (show ([] : List Int) = bl (I 62 0) (s + k) 0 from rfl)]
    exact P164_24_3 (g1 := hw) (h1 := by omega) (g2 := Or.inr rfl)
  | m + 1, k, hk => by
    have hsl : slen w = (litB.getD w []).length := rfl
    have hl : k < (litB.getD w []).length := by omega
    have ew : w32 (I 12 0 39 + (k : Int)) = ((s + k : Nat) : Int) := by rw [e9, w32_s (by omega)]; omega
    rw [getD_e hl]
    show _ = some (vi (if sch w k :: (litB.getD w []).drop (k + 1) = I 62 0 (s + k) :: bl (I 62 0) (s + k + 1) m then 1 else 0), mk I L t)
    by_cases q : sch w k = I 62 0 (s + k)
    · refine Eq.trans (P164_24_0 (g1 := hw) (h1 := by omega) (h2 := by decide) (g2 := by rw [ew]; omega) (g3 := by omega) (h3 := by rw [ew, Int.toNat_natCast, Int.toNat_natCast]; exact q.symm)) ?_
      rw [lem_w32k (k := k) (by omega), l164 hw he hs e9 m (k + 1) (by omega), show s + (k + 1) = s + k + 1 by omega, q]
      by_cases z : (litB.getD w []).drop (k + 1) = bl (I 62 0) (s + k + 1) m
      · rw [if_pos z, if_pos (by rw [z])]
      · rw [if_neg z, if_neg (fun y => z (List.cons.inj y).2)]
    · rw [if_neg (fun y => q (List.cons.inj y).1)]
      refine Eq.trans (P164_24_1 (g1 := hw) (h1 := by omega) (h2 := by decide) (g2 := by rw [ew]; omega) (g3 := by omega) (h3 := by rw [ew, Int.toNat_natCast, Int.toNat_natCast]; exact fun z => q z.symm)) ?_
      rw [lem_w32k (k := k) (by omega)]
      by_cases z : k + 1 < slen w
      · exact P164_24_2 (g1 := hw) (h1 := by omega) (h2 := rfl) (g2 := Or.inl rfl)
      · exact P164_24_3 (g1 := hw) (h1 := by omega) (g2 := Or.inl rfl)
theorem sp164 {I : H3} {w s e : Nat} (hw : w < 24) (he : e ≤ 400) (hs : s ≤ e) (e9 : I 12 0 39 = (s : Int)) (e7 : I 12 0 37 = (e : Int)) : Cal (d + 7) 164 [vr 12 0, vr 117 w] (mk I L t) = some (vi (if mtB (I 62 0) s e w = true then 1 else 0), mk I L t) := by
  have ew : w32 (I 12 0 37 - I 12 0 39) = ((e - s : Nat) : Int) := by rw [e7, e9, w32_s (by omega)]; omega
  have hsl : slen w = (litB.getD w []).length := rfl
  have hm : mtB (I 62 0) s e w = true ↔ litB.getD w [] = bl (I 62 0) s (e - s) := by
    unfold mtB
    rw [decide_eq_true_eq]
  by_cases q : slen w = e - s
  · have r := l164 (d := d) (L := L) (t := t) (I := I) hw he (s := s) (e := e) (by omega) e9 (e - s) 0 (by omega)
    rw [List.drop_zero, show s + 0 = s from rfl] at r
    refine Eq.trans (P164_0_0 (g1 := hw) (h1 := by rw [ew, q])) (Eq.trans r ?_)
    by_cases z : litB.getD w [] = bl (I 62 0) s (e - s)
    · rw [if_pos z, if_pos (hm.mpr z)]
    · rw [if_neg z, if_neg (fun y => z (hm.mp y))]
  · rw [if_neg (fun z => q (by rw [hsl, hm.mp z, bl_len']))]
    refine Eq.trans (P164_0_1 (g1 := hw) (h1 := by rw [ew]; omega)) ?_
    by_cases z : 0 < slen w
    · exact P164_24_2 (g1 := hw) (h1 := by omega) (h2 := rfl) (g2 := Or.inl rfl)
    · exact P164_24_3 (g1 := hw) (h1 := by omega) (g2 := Or.inl rfl)
section WORDS
variable {I : H3} {s e : Nat}
theorem sp165 (he : e ≤ 400) (hs : s ≤ e) (e9 : I 12 0 39 = (s : Int)) (e7 : I 12 0 37 = (e : Int)) : Cal (d + 8) 165 [vr 12 0] (mk I L t) = some (vi (mwd 0 (wd (I 62 0) s e)), mk I L t) := by
  have f : ∀ k, k < 23 → wd (I 62 0) s e ≠ k → Cal (d + 7) 164 [vr 12 0, vr 117 k] (mk I L t) = some (vi 0, mk I L t) := fun k hk h => by
    have c := sp164 (d := d) (L := L) (t := t) (I := I) (w := k) (by omega) he hs e9 e7
    rw [if_neg (fun z => h ((wd_mt hk).mp z))] at c
    exact c
  have g : ∀ k, k < 23 → wd (I 62 0) s e = k → Cal (d + 7) 164 [vr 12 0, vr 117 k] (mk I L t) = some (vi 1, mk I L t) := fun k hk h => by
    have c := sp164 (d := d) (L := L) (t := t) (I := I) (w := k) (by omega) he hs e9 e7
    rw [if_pos ((wd_mt hk).mpr h)] at c
    exact c
  have : wd (I 62 0) s e = 0 ∨ wd (I 62 0) s e = 1 ∨ wd (I 62 0) s e = 2 ∨ wd (I 62 0) s e = 3 ∨ wd (I 62 0) s e = 4 ∨ wd (I 62 0) s e = 5 ∨ wd (I 62 0) s e = 6 ∨ wd (I 62 0) s e = 7 ∨ wd (I 62 0) s e = 8 ∨ wd (I 62 0) s e = 9 ∨ wd (I 62 0) s e = 10 ∨ wd (I 62 0) s e = 11 ∨ wd (I 62 0) s e = 12 ∨ wd (I 62 0) s e = 13 ∨ wd (I 62 0) s e = 14 ∨ wd (I 62 0) s e = 15 ∨ wd (I 62 0) s e = 16 ∨ wd (I 62 0) s e = 17 ∨ 18 ≤ wd (I 62 0) s e := by omega
  rcases this with h | h | h | h | h | h | h | h | h | h | h | h | h | h | h | h | h | h | h
  · rw [h]
    exact P165_0_0 (d := d + 7)  (c1 := g 0 (by decide) h)
  · rw [h]
    exact P165_0_1 (d := d + 7) (c1 := f 0 (by decide) (by rw [h]; decide)) (c2 := g 1 (by decide) h)
  · rw [h]
    exact P165_0_2 (d := d + 7) (c1 := f 0 (by decide) (by rw [h]; decide)) (c2 := f 1 (by decide) (by rw [h]; decide)) (c3 := g 2 (by decide) h)
  · rw [h]
    exact P165_0_3 (d := d + 7) (c1 := f 0 (by decide) (by rw [h]; decide)) (c2 := f 1 (by decide) (by rw [h]; decide)) (c3 := f 2 (by decide) (by rw [h]; decide)) (c4 := g 3 (by decide) h)
  · rw [h]
    exact P165_0_4 (d := d + 7) (c1 := f 0 (by decide) (by rw [h]; decide)) (c2 := f 1 (by decide) (by rw [h]; decide)) (c3 := f 2 (by decide) (by rw [h]; decide)) (c4 := f 3 (by decide) (by rw [h]; decide)) (c5 := g 4 (by decide) h)
  · rw [h]
    exact P165_0_5 (d := d + 7) (c1 := f 0 (by decide) (by rw [h]; decide)) (c2 := f 1 (by decide) (by rw [h]; decide)) (c3 := f 2 (by decide) (by rw [h]; decide)) (c4 := f 3 (by decide) (by rw [h]; decide)) (c5 := f 4 (by decide) (by rw [h]; decide)) (c6 := g 5 (by decide) h)
  · rw [h]
    exact P165_0_6 (d := d + 7) (c1 := f 0 (by decide) (by rw [h]; decide)) (c2 := f 1 (by decide) (by rw [h]; decide)) (c3 := f 2 (by decide) (by rw [h]; decide)) (c4 := f 3 (by decide) (by rw [h]; decide)) (c5 := f 4 (by decide) (by rw [h]; decide)) (c6 := f 5 (by decide) (by rw [h]; decide)) (c7 := g 6 (by decide) h)
  · rw [h]
    exact P165_0_7 (d := d + 7) (c1 := f 0 (by decide) (by rw [h]; decide)) (c2 := f 1 (by decide) (by rw [h]; decide)) (c3 := f 2 (by decide) (by rw [h]; decide)) (c4 := f 3 (by decide) (by rw [h]; decide)) (c5 := f 4 (by decide) (by rw [h]; decide)) (c6 := f 5 (by decide) (by rw [h]; decide)) (c7 := f 6 (by decide) (by rw [h]; decide)) (c8 := g 7 (by decide) h)
  · rw [h]
    exact P165_0_8 (d := d + 7) (c1 := f 0 (by decide) (by rw [h]; decide)) (c2 := f 1 (by decide) (by rw [h]; decide)) (c3 := f 2 (by decide) (by rw [h]; decide)) (c4 := f 3 (by decide) (by rw [h]; decide)) (c5 := f 4 (by decide) (by rw [h]; decide)) (c6 := f 5 (by decide) (by rw [h]; decide)) (c7 := f 6 (by decide) (by rw [h]; decide)) (c8 := f 7 (by decide) (by rw [h]; decide)) (c9 := g 8 (by decide) h)
  · rw [h]
    exact P165_0_9 (d := d + 7) (c1 := f 0 (by decide) (by rw [h]; decide)) (c2 := f 1 (by decide) (by rw [h]; decide)) (c3 := f 2 (by decide) (by rw [h]; decide)) (c4 := f 3 (by decide) (by rw [h]; decide)) (c5 := f 4 (by decide) (by rw [h]; decide)) (c6 := f 5 (by decide) (by rw [h]; decide)) (c7 := f 6 (by decide) (by rw [h]; decide)) (c8 := f 7 (by decide) (by rw [h]; decide)) (c9 := f 8 (by decide) (by rw [h]; decide)) (c10 := g 9 (by decide) h)
  · rw [h]
    exact P165_0_10 (d := d + 7) (c1 := f 0 (by decide) (by rw [h]; decide)) (c2 := f 1 (by decide) (by rw [h]; decide)) (c3 := f 2 (by decide) (by rw [h]; decide)) (c4 := f 3 (by decide) (by rw [h]; decide)) (c5 := f 4 (by decide) (by rw [h]; decide)) (c6 := f 5 (by decide) (by rw [h]; decide)) (c7 := f 6 (by decide) (by rw [h]; decide)) (c8 := f 7 (by decide) (by rw [h]; decide)) (c9 := f 8 (by decide) (by rw [h]; decide)) (c10 := f 9 (by decide) (by rw [h]; decide)) (c11 := g 10 (by decide) h)
  · rw [h]
    exact P165_0_11 (d := d + 7) (c1 := f 0 (by decide) (by rw [h]; decide)) (c2 := f 1 (by decide) (by rw [h]; decide)) (c3 := f 2 (by decide) (by rw [h]; decide)) (c4 := f 3 (by decide) (by rw [h]; decide)) (c5 := f 4 (by decide) (by rw [h]; decide)) (c6 := f 5 (by decide) (by rw [h]; decide)) (c7 := f 6 (by decide) (by rw [h]; decide)) (c8 := f 7 (by decide) (by rw [h]; decide)) (c9 := f 8 (by decide) (by rw [h]; decide)) (c10 := f 9 (by decide) (by rw [h]; decide)) (c11 := f 10 (by decide) (by rw [h]; decide)) (c12 := g 11 (by decide) h)
  · rw [h]
    exact P165_0_12 (d := d + 7) (c1 := f 0 (by decide) (by rw [h]; decide)) (c2 := f 1 (by decide) (by rw [h]; decide)) (c3 := f 2 (by decide) (by rw [h]; decide)) (c4 := f 3 (by decide) (by rw [h]; decide)) (c5 := f 4 (by decide) (by rw [h]; decide)) (c6 := f 5 (by decide) (by rw [h]; decide)) (c7 := f 6 (by decide) (by rw [h]; decide)) (c8 := f 7 (by decide) (by rw [h]; decide)) (c9 := f 8 (by decide) (by rw [h]; decide)) (c10 := f 9 (by decide) (by rw [h]; decide)) (c11 := f 10 (by decide) (by rw [h]; decide)) (c12 := f 11 (by decide) (by rw [h]; decide)) (c13 := g 12 (by decide) h)
  · rw [h]
    exact P165_0_13 (d := d + 7) (c1 := f 0 (by decide) (by rw [h]; decide)) (c2 := f 1 (by decide) (by rw [h]; decide)) (c3 := f 2 (by decide) (by rw [h]; decide)) (c4 := f 3 (by decide) (by rw [h]; decide)) (c5 := f 4 (by decide) (by rw [h]; decide)) (c6 := f 5 (by decide) (by rw [h]; decide)) (c7 := f 6 (by decide) (by rw [h]; decide)) (c8 := f 7 (by decide) (by rw [h]; decide)) (c9 := f 8 (by decide) (by rw [h]; decide)) (c10 := f 9 (by decide) (by rw [h]; decide)) (c11 := f 10 (by decide) (by rw [h]; decide)) (c12 := f 11 (by decide) (by rw [h]; decide)) (c13 := f 12 (by decide) (by rw [h]; decide)) (c14 := g 13 (by decide) h)
  · rw [h]
    exact P165_0_14 (d := d + 7) (c1 := f 0 (by decide) (by rw [h]; decide)) (c2 := f 1 (by decide) (by rw [h]; decide)) (c3 := f 2 (by decide) (by rw [h]; decide)) (c4 := f 3 (by decide) (by rw [h]; decide)) (c5 := f 4 (by decide) (by rw [h]; decide)) (c6 := f 5 (by decide) (by rw [h]; decide)) (c7 := f 6 (by decide) (by rw [h]; decide)) (c8 := f 7 (by decide) (by rw [h]; decide)) (c9 := f 8 (by decide) (by rw [h]; decide)) (c10 := f 9 (by decide) (by rw [h]; decide)) (c11 := f 10 (by decide) (by rw [h]; decide)) (c12 := f 11 (by decide) (by rw [h]; decide)) (c13 := f 12 (by decide) (by rw [h]; decide)) (c14 := f 13 (by decide) (by rw [h]; decide)) (c15 := g 14 (by decide) h)
  · rw [h]
    exact P165_0_15 (d := d + 7) (c1 := f 0 (by decide) (by rw [h]; decide)) (c2 := f 1 (by decide) (by rw [h]; decide)) (c3 := f 2 (by decide) (by rw [h]; decide)) (c4 := f 3 (by decide) (by rw [h]; decide)) (c5 := f 4 (by decide) (by rw [h]; decide)) (c6 := f 5 (by decide) (by rw [h]; decide)) (c7 := f 6 (by decide) (by rw [h]; decide)) (c8 := f 7 (by decide) (by rw [h]; decide)) (c9 := f 8 (by decide) (by rw [h]; decide)) (c10 := f 9 (by decide) (by rw [h]; decide)) (c11 := f 10 (by decide) (by rw [h]; decide)) (c12 := f 11 (by decide) (by rw [h]; decide)) (c13 := f 12 (by decide) (by rw [h]; decide)) (c14 := f 13 (by decide) (by rw [h]; decide)) (c15 := f 14 (by decide) (by rw [h]; decide)) (c16 := g 15 (by decide) h)
  · rw [h]
    exact P165_0_16 (d := d + 7) (c1 := f 0 (by decide) (by rw [h]; decide)) (c2 := f 1 (by decide) (by rw [h]; decide)) (c3 := f 2 (by decide) (by rw [h]; decide)) (c4 := f 3 (by decide) (by rw [h]; decide)) (c5 := f 4 (by decide) (by rw [h]; decide)) (c6 := f 5 (by decide) (by rw [h]; decide)) (c7 := f 6 (by decide) (by rw [h]; decide)) (c8 := f 7 (by decide) (by rw [h]; decide)) (c9 := f 8 (by decide) (by rw [h]; decide)) (c10 := f 9 (by decide) (by rw [h]; decide)) (c11 := f 10 (by decide) (by rw [h]; decide)) (c12 := f 11 (by decide) (by rw [h]; decide)) (c13 := f 12 (by decide) (by rw [h]; decide)) (c14 := f 13 (by decide) (by rw [h]; decide)) (c15 := f 14 (by decide) (by rw [h]; decide)) (c16 := f 15 (by decide) (by rw [h]; decide)) (c17 := g 16 (by decide) h)
  · rw [h]
    exact P165_0_17 (d := d + 7) (c1 := f 0 (by decide) (by rw [h]; decide)) (c2 := f 1 (by decide) (by rw [h]; decide)) (c3 := f 2 (by decide) (by rw [h]; decide)) (c4 := f 3 (by decide) (by rw [h]; decide)) (c5 := f 4 (by decide) (by rw [h]; decide)) (c6 := f 5 (by decide) (by rw [h]; decide)) (c7 := f 6 (by decide) (by rw [h]; decide)) (c8 := f 7 (by decide) (by rw [h]; decide)) (c9 := f 8 (by decide) (by rw [h]; decide)) (c10 := f 9 (by decide) (by rw [h]; decide)) (c11 := f 10 (by decide) (by rw [h]; decide)) (c12 := f 11 (by decide) (by rw [h]; decide)) (c13 := f 12 (by decide) (by rw [h]; decide)) (c14 := f 13 (by decide) (by rw [h]; decide)) (c15 := f 14 (by decide) (by rw [h]; decide)) (c16 := f 15 (by decide) (by rw [h]; decide)) (c17 := f 16 (by decide) (by rw [h]; decide)) (c18 := g 17 (by decide) h)
  · have e1 : mwd 0 (wd (I 62 0) s e) = 1 := by
      unfold mwd
      rw [if_pos rfl, if_neg (by omega), if_neg (by omega)]
    rw [e1]
    exact P165_0_18 (d := d + 7) (c1 := f 0 (by decide) (by omega)) (c2 := f 1 (by decide) (by omega)) (c3 := f 2 (by decide) (by omega)) (c4 := f 3 (by decide) (by omega)) (c5 := f 4 (by decide) (by omega)) (c6 := f 5 (by decide) (by omega)) (c7 := f 6 (by decide) (by omega)) (c8 := f 7 (by decide) (by omega)) (c9 := f 8 (by decide) (by omega)) (c10 := f 9 (by decide) (by omega)) (c11 := f 10 (by decide) (by omega)) (c12 := f 11 (by decide) (by omega)) (c13 := f 12 (by decide) (by omega)) (c14 := f 13 (by decide) (by omega)) (c15 := f 14 (by decide) (by omega)) (c16 := f 15 (by decide) (by omega)) (c17 := f 16 (by decide) (by omega)) (c18 := f 17 (by decide) (by omega))
theorem sp166 {so : Int} (h45 : I 12 0 45 = so) (hso : so = 0 ∨ so = 1 ∨ so = 2) (he : e ≤ 400) (hs : s ≤ e) (e9 : I 12 0 39 = (s : Int)) (e7 : I 12 0 37 = (e : Int)) : Cal (d + 9) 166 [vr 12 0] (mk I L t) = some (vi (mwd so (wd (I 62 0) s e)), mk I L t) := by
  have f : ∀ k, k < 23 → wd (I 62 0) s e ≠ k → Cal (d + 8) 164 [vr 12 0, vr 117 k] (mk I L t) = some (vi 0, mk I L t) := fun k hk h => by
    have c := sp164 (d := d + 1) (L := L) (t := t) (I := I) (w := k) (by omega) he hs e9 e7
    rw [if_neg (fun z => h ((wd_mt hk).mp z))] at c
    exact c
  have g : ∀ k, k < 23 → wd (I 62 0) s e = k → Cal (d + 8) 164 [vr 12 0, vr 117 k] (mk I L t) = some (vi 1, mk I L t) := fun k hk h => by
    have c := sp164 (d := d + 1) (L := L) (t := t) (I := I) (w := k) (by omega) he hs e9 e7
    rw [if_pos ((wd_mt hk).mpr h)] at c
    exact c
  rcases hso with z | z | z <;> subst z
  · exact P166_0_0 (h1 := h45) (c1 := sp165 he hs e9 e7)
  · have n0 : ¬ I 12 0 45 = 0 := by omega
    by_cases h : wd (I 62 0) s e = 18
    · rw [h]
      exact P166_0_1 (h1 := n0) (h2 := h45) (c1 := g 18 (by decide) h)
    · have e1 : mwd 1 (wd (I 62 0) s e) = 1 := by
        unfold mwd
        rw [if_neg (by decide), if_pos rfl, if_neg (by omega)]
      rw [e1]
      exact P166_0_2 (h1 := n0) (h2 := h45) (c1 := f 18 (by decide) h)
  · have n0 : ¬ I 12 0 45 = 0 := by omega
    have n1 : ¬ I 12 0 45 = 1 := by omega
    have : wd (I 62 0) s e = 19 ∨ wd (I 62 0) s e = 20 ∨ wd (I 62 0) s e = 21 ∨ wd (I 62 0) s e = 22 ∨ ¬ (19 ≤ wd (I 62 0) s e ∧ wd (I 62 0) s e ≤ 22) := by omega
    rcases this with h | h | h | h | h
    · rw [h]
      exact P166_0_3 (h1 := n0) (h2 := n1) (c1 := g 19 (by decide) h)
    · rw [h]
      exact P166_0_4 (h1 := n0) (h2 := n1) (c1 := f 19 (by decide) (by omega)) (c2 := g 20 (by decide) h)
    · rw [h]
      exact P166_0_5 (h1 := n0) (h2 := n1) (c1 := f 19 (by decide) (by omega)) (c2 := f 20 (by decide) (by omega)) (c3 := g 21 (by decide) h)
    · rw [h]
      exact P166_0_6 (h1 := n0) (h2 := n1) (c1 := f 19 (by decide) (by omega)) (c2 := f 20 (by decide) (by omega)) (c3 := f 21 (by decide) (by omega)) (c4 := g 22 (by decide) h)
    · have e1 : mwd 2 (wd (I 62 0) s e) = 1 := by
        unfold mwd
        rw [if_neg (by decide), if_neg (by decide), if_neg (by omega)]
      rw [e1]
      exact P166_0_7 (h1 := n0) (h2 := n1) (c1 := f 19 (by decide) (by omega)) (c2 := f 20 (by decide) (by omega)) (c3 := f 21 (by decide) (by omega)) (c4 := f 22 (by decide) (by omega))
theorem sp167 {so c : Int} (h45 : I 12 0 45 = so) : Cal d 167 [vr 12 0, vi c] (mk I L t) = some (vi (if msB so c = true then 1 else 0), mk I L t) := by
  have hm : msB so c = true ↔ (c = 59 ∨ (so = 0 ∧ (c = 43 ∨ c = 45 ∨ c = 42 ∨ c = 47 ∨ c = 40 ∨ c = 41)) ∨ (so = 1 ∧ (c = 60 ∨ c = 61 ∨ c = 62))) := by
    unfold msB
    rw [decide_eq_true_eq]
  by_cases h : c = 59
  · rw [if_pos (hm.mpr (Or.inl h))]
    exact P167_0_0 h
  · by_cases z : so = 0
    · have h0 : I 12 0 45 = 0 := by omega
      by_cases h1 : c = 43
      · rw [if_pos (hm.mpr (by omega))]
        exact P167_0_7 (h1 := h) (h2 := h0) (h3 := h1)
      · by_cases h2 : c = 45
        · rw [if_pos (hm.mpr (by omega))]
          exact P167_0_6 (h1 := h) (h2 := h0) (h3 := h1) (h4 := h2)
        · by_cases h3 : c = 42
          · rw [if_pos (hm.mpr (by omega))]
            exact P167_0_5 (h1 := h) (h2 := h0) (h3 := h1) (h4 := h2) (h5 := h3)
          · by_cases h4 : c = 47
            · rw [if_pos (hm.mpr (by omega))]
              exact P167_0_4 (h1 := h) (h2 := h0) (h3 := h1) (h4 := h2) (h5 := h3) (h6 := h4)
            · by_cases h5 : c = 40
              · rw [if_pos (hm.mpr (by omega))]
                exact P167_0_3 (h1 := h) (h2 := h0) (h3 := h1) (h4 := h2) (h5 := h3) (h6 := h4) (h7 := h5)
              · by_cases h6 : c = 41
                · rw [if_pos (hm.mpr (by omega))]
                  exact P167_0_1 (h1 := h) (h2 := h0) (h3 := h1) (h4 := h2) (h5 := h3) (h6 := h4) (h7 := h5) (h8 := h6)
                · rw [if_neg (fun z => absurd (hm.mp z) (by omega))]
                  exact P167_0_2 (h1 := h) (h2 := h0) (h3 := h1) (h4 := h2) (h5 := h3) (h6 := h4) (h7 := h5) (h8 := h6)
    · have h0 : ¬ I 12 0 45 = 0 := by omega
      by_cases y : so = 1
      · have h1 : I 12 0 45 = 1 := by omega
        by_cases h2 : c = 60
        · rw [if_pos (hm.mpr (by omega))]
          exact P167_0_11 (h1 := h) (h2 := h0) (h3 := h1) (h4 := h2)
        · by_cases h3 : c = 61
          · rw [if_pos (hm.mpr (by omega))]
            exact P167_0_10 (h1 := h) (h2 := h0) (h3 := h1) (h4 := h2) (h5 := h3)
          · by_cases h4 : c = 62
            · rw [if_pos (hm.mpr (by omega))]
              exact P167_0_8 (h1 := h) (h2 := h0) (h3 := h1) (h4 := h2) (h5 := h3) (h6 := h4)
            · rw [if_neg (fun z => absurd (hm.mp z) (by omega))]
              exact P167_0_9 (h1 := h) (h2 := h0) (h3 := h1) (h4 := h2) (h5 := h3) (h6 := h4)
      · rw [if_neg (fun z => absurd (hm.mp z) (by omega))]
        exact P167_0_12 (h1 := h) (h2 := h0) (h3 := by omega)
end WORDS
def s37 (r _ c : Nat) : Bool := r == 12 && (c == 37 || c == 38 || c == 39 || c == 40)
theorem rv_at {I : H3} {p : Nat} (e36 : I 12 0 36 = (n : Int)) (e62 : I 62 0 = b) (e37 : I 12 0 37 = (p : Int)) (hp : p < n) : rvP (I 12 0 36) (I 62 0) (I 12 0 37) = b p := by
  rw [rvP_pos (by omega), e62, e37, Int.toNat_natCast]
theorem rv_end {I : H3} {p : Nat} (e36 : I 12 0 36 = (n : Int)) (e37 : I 12 0 37 = (p : Int)) (hp : n ≤ p) : rvP (I 12 0 36) (I 62 0) (I 12 0 37) = -1 := rvP_neg (by omega)
theorem l168w {so x : Int} {s : Nat} (h400 : n ≤ 400) (hso : so = 0 ∨ so = 1 ∨ so = 2) : ∀ (m p : Nat) (I : H3), p + m = n → s ≤ p → I 12 0 36 = (n : Int) → I 62 0 = b → I 12 0 37 = (p : Int) → I 12 0 39 = (s : Int) → I 12 0 45 = so →
    ∃ J, Res (d + 10) 168 76 [vr 12 0, vi x] [] (mk I L t) = some (vx, mk J L t) ∧ Fr s37 I J ∧ J 12 0 37 = (rn leB b n p : Int) ∧ J 12 0 38 = mwd so (wd b s (rn leB b n p)) ∧ J 12 0 39 = (s : Int) ∧ J 12 0 40 = I 12 0 40
  | 0, p, I, hp, hs, e36, e62, e37, e39, e45 => by
    rw [rn_ge (by omega)]
    have v := rv_end e36 e37 (show n ≤ p by omega)
    have c1 := sp166 (d := d) (L := L) (t := t) (I := I) (s := s) (e := p) e45 hso (by omega) hs e39 e37
    refine ⟨_, P168_76_0 (d := d + 8) (x1 := x) (g1 := by omega) (g2 := by omega) (h1 := by rw [v]; exact fun z => absurd (isLet_iff.mp z) (by decide)) (c1 := c1), Fr.rfl'.up rfl, ?_, ?_, ?_, ?_⟩
    · rw [up_s (by decide), e37]
    · rw [up_e, e62]
    · rw [up_s (by decide), e39]
    · rw [up_s (by decide)]
  | m + 1, p, I, hp, hs, e36, e62, e37, e39, e45 => by
    have v := rv_at e36 e62 e37 (show p < n by omega)
    by_cases q : leB (b p) = true
    · rw [rn_t (by omega) q]
      obtain ⟨J, r, F, v1, v2, v3, v4⟩ := l168w (x := x) (s := s) h400 hso m (p + 1) (up3 I 12 0 37 ((p + 1 : Nat) : Int)) (by omega) (by omega) (by rw [up_s (by decide)]; exact e36) (by rw [up_r (by decide)]; exact e62) up_e (by rw [up_s (by decide)]; exact e39) (by rw [up_s (by decide)]; exact e45)
      refine ⟨J, Eq.trans (P168_76_1 (d := d + 8) (g1 := by omega) (g2 := by omega) (h1 := by rw [v]; exact isLet_iff.mpr q)) ?_, Fr.tr (Fr.rfl'.up rfl) F, v1, v2, v3, by rw [v4, up_s (by decide)]⟩
      rw [e37, lem_w32k (k := p) (by omega)]
      exact r
    · rw [rn_f (by omega) q]
      have c1 := sp166 (d := d) (L := L) (t := t) (I := I) (s := s) (e := p) e45 hso (by omega) hs e39 e37
      refine ⟨_, P168_76_0 (d := d + 8) (x1 := x) (g1 := by omega) (g2 := by omega) (h1 := by rw [v]; exact fun z => q (isLet_iff.mp z)) (c1 := c1), Fr.rfl'.up rfl, ?_, ?_, ?_, ?_⟩
      · rw [up_s (by decide), e37]
      · rw [up_e, e62]
      · rw [up_s (by decide), e39]
      · rw [up_s (by decide)]
theorem l168d {x : Int} {s : Nat} (h400 : n ≤ 400) : ∀ (m p : Nat) (I : H3), p + m = n → s ≤ p → I 12 0 36 = (n : Int) → I 62 0 = b → I 12 0 37 = (p : Int) → I 12 0 39 = (s : Int) → I 12 0 40 = fo (nvS b s) s (p - s) 0 →
    ∃ J, Res (d + 2) 168 126 [vr 12 0, vi x] [] (mk I L t) = some (vx, mk J L t) ∧ Fr s37 I J ∧ J 12 0 37 = (rn dgB b n p : Int) ∧ J 12 0 38 = (if rn dgB b n p - s ≤ 4 then 2 else 1) ∧ J 12 0 39 = (s : Int) ∧ J 12 0 40 = nv b s (rn dgB b n p)
  | 0, p, I, hp, hs, e36, e62, e37, e39, ev => by
    rw [rn_ge (by omega)]
    have v := rv_end e36 e37 (show n ≤ p by omega)
    have ew : w32 (I 12 0 37 - I 12 0 39) = ((p - s : Nat) : Int) := by rw [e37, e39, w32_s (by omega)]; omega
    have nd : ¬ (48 ≤ rvP (I 12 0 36) (I 62 0) (I 12 0 37) ∧ rvP (I 12 0 36) (I 62 0) (I 12 0 37) ≤ 57) := by rw [v]; omega
    by_cases z : p - s ≤ 4
    · rw [if_pos z]
      exact ⟨_, P168_126_0 (g1 := by omega) (g2 := by omega) (h1 := nd) (h2 := by rw [ew]; omega), Fr.rfl'.up rfl, by rw [up_s (by decide), e37], up_e, by rw [up_s (by decide), e39], by rw [up_s (by decide), ev]; rfl⟩
    · rw [if_neg z]
      exact ⟨_, P168_126_1 (g1 := by omega) (g2 := by omega) (h1 := nd) (h2 := by rw [ew]; omega), Fr.rfl'.up rfl, by rw [up_s (by decide), e37], up_e, by rw [up_s (by decide), e39], by rw [up_s (by decide), ev]; rfl⟩
  | m + 1, p, I, hp, hs, e36, e62, e37, e39, ev => by
    have v := rv_at e36 e62 e37 (show p < n by omega)
    have ew : w32 (I 12 0 37 - I 12 0 39) = ((p - s : Nat) : Int) := by rw [e37, e39, w32_s (by omega)]; omega
    have e4 : w32 (I 12 0 39 + 4) = ((s + 4 : Nat) : Int) := by rw [e39, w32_s (by omega)]; omega
    by_cases q : dgB (b p) = true
    · rw [rn_t (by omega) q]
      have ef : fo (nvS b s) s (p + 1 - s) 0 = nvS b s p (fo (nvS b s) s (p - s) 0) := by
        rw [show p + 1 - s = (p - s) + 1 by omega, fo_e, show s + (p - s) = p by omega]
      by_cases z : p < s + 4
      · obtain ⟨J, r, F, v1, v2, v3, v4⟩ := l168d (x := x) (s := s) h400 m (p + 1) (up3 (up3 I 12 0 40 (fo (nvS b s) s (p + 1 - s) 0)) 12 0 37 ((p + 1 : Nat) : Int)) (by omega) (by omega) (by rw [up_s (by decide), up_s (by decide)]; exact e36) (by rw [up_r (by decide), up_r (by decide)]; exact e62) up_e (by rw [up_s (by decide), up_s (by decide)]; exact e39) (by rw [up_s (by decide), up_e])
        refine ⟨J, ?_, Fr.tr ((Fr.rfl'.up rfl).up rfl) F, v1, v2, v3, v4⟩
        refine Eq.trans (P168_126_2 (g1 := by omega) (g2 := by omega) (h1 := by rw [v]; exact dg_iff.mpr q) (h2 := by rw [e4, e37]; omega)) ?_
        rw [v, e37, lem_w32k (k := p) (by omega), ev]
        rw [ef] at r
        unfold nvS at r
        rw [if_pos (by omega)] at r
        exact r
      · obtain ⟨J, r, F, v1, v2, v3, v4⟩ := l168d (x := x) (s := s) h400 m (p + 1) (up3 I 12 0 37 ((p + 1 : Nat) : Int)) (by omega) (by omega) (by rw [up_s (by decide)]; exact e36) (by rw [up_r (by decide)]; exact e62) up_e (by rw [up_s (by decide)]; exact e39) (by
          rw [up_s (by decide), ef, ev]
          unfold nvS
          rw [if_neg (by omega)])
        refine ⟨J, ?_, Fr.tr (Fr.rfl'.up rfl) F, v1, v2, v3, v4⟩
        refine Eq.trans (P168_126_3 (g1 := by omega) (g2 := by omega) (h1 := by rw [v]; exact dg_iff.mpr q) (h2 := by rw [e4, e37]; omega)) ?_
        rw [e37, lem_w32k (k := p) (by omega)]
        exact r
    · rw [rn_f (by omega) q]
      have nd : ¬ (48 ≤ rvP (I 12 0 36) (I 62 0) (I 12 0 37) ∧ rvP (I 12 0 36) (I 62 0) (I 12 0 37) ≤ 57) := by rw [v]; exact fun z => q (dg_iff.mp z)
      by_cases z : p - s ≤ 4
      · rw [if_pos z]
        exact ⟨_, P168_126_0 (g1 := by omega) (g2 := by omega) (h1 := nd) (h2 := by rw [ew]; omega), Fr.rfl'.up rfl, by rw [up_s (by decide), e37], up_e, by rw [up_s (by decide), e39], by rw [up_s (by decide), ev]; rfl⟩
      · rw [if_neg z]
        exact ⟨_, P168_126_1 (g1 := by omega) (g2 := by omega) (h1 := nd) (h2 := by rw [ew]; omega), Fr.rfl'.up rfl, by rw [up_s (by decide), e37], up_e, by rw [up_s (by decide), e39], by rw [up_s (by decide), ev]; rfl⟩
/-- the token that begins at q has been read -/
def MTk (b : Nat → Int) (n q : Nat) (so : Int) (I : H3) : Prop := I 12 0 39 = (q : Int) ∧ I 12 0 37 = (teN b n q : Int) ∧ I 12 0 38 = mtkS so (tkC b n q) ∧ (tkC b n q = 23 → I 12 0 40 = vlN b n q)
theorem sg_no {c : Int} (h : sgB c = true) : ¬ leB c = true ∧ ¬ dgB c = true ∧ 25 < c := by
  unfold sgB at h
  unfold leB dgB
  rw [decide_eq_true_eq] at h ⊢
  rw [decide_eq_true_eq]
  omega
theorem ms_sg {so c : Int} (h : msB so c = true) : sgB c = true := by
  unfold msB at h
  unfold sgB
  rw [decide_eq_true_eq] at h ⊢
  omega
theorem l168 {so : Int} (h400 : n ≤ 400) (hso : so = 0 ∨ so = 1 ∨ so = 2) (hb : ∀ c, c < n → 0 ≤ b c ∧ b c ≤ 255) : ∀ (m p : Nat) (I : H3), p + m = n → I 12 0 36 = (n : Int) → I 62 0 = b → I 12 0 37 = (p : Int) → I 12 0 45 = so →
    ∃ J, Res (d + 10) 168 0 [vr 12 0, vx] [] (mk I L t) = some (vx, mk J L t) ∧ Fr s37 I J ∧ MTk b n (rn spB b n p) so J
  | 0, p, I, hp, e36, e62, e37, e45 => by
    rw [rn_ge (by omega)]
    have v := rv_end e36 e37 (show n ≤ p by omega)
    have te : teN b n p = p := if_pos (by omega)
    have tk : tkC b n p = 24 := tk_end.mpr (by omega)
    refine ⟨_, P168_0_1 (d := d + 8) (g1 := by omega) (g2 := by omega) (h1 := by rw [v]; decide) (h2 := by rw [v]; decide) (h3 := by rw [up_r (by decide)]; exact v), (Fr.rfl'.up rfl).up rfl, ?_, ?_, ?_, fun z => by omega⟩
    · rw [up_s (by decide), up_e, e37]
    · rw [up_s (by decide), up_s (by decide), te, e37]
    · rw [up_e, tk]
      rfl
  | m + 1, p, I, hp, e36, e62, e37, e45 => by
    have v := rv_at e36 e62 e37 (show p < n by omega)
    have bp := hb p (by omega)
    have v' : rvP (I 12 0 36) (up3 I 12 0 39 (I 12 0 37) 62 0) (I 12 0 37) = b p := by rw [up_r (show (62 : Nat) ≠ 12 by decide)]; exact v
    have g1 : I 12 0 36 ≤ 400 := by omega
    have g2 : 0 ≤ I 12 0 37 := by omega
    have ep := lem_w32k (k := p) (by omega)
    by_cases q : spB (b p) = true
    · rw [rn_t (by omega) q]
      obtain ⟨J, r, F, rest⟩ := l168 h400 hso hb m (p + 1) (up3 I 12 0 37 ((p + 1 : Nat) : Int)) (by omega) (by rw [up_s (by decide)]; exact e36) (by rw [up_r (by decide)]; exact e62) up_e (by rw [up_s (by decide)]; exact e45)
      refine ⟨J, Eq.trans ?_ r, Fr.tr (Fr.rfl'.up rfl) F, rest⟩
      unfold spB at q
      rw [decide_eq_true_eq] at q
      by_cases z : b p = 32
      · have r1 := P168_0_6 (d := d + 8) (L := L) (t := t) (I := I) (g1 := g1) (g2 := g2) (h1 := by rw [v]; exact z)
        rw [r1, e37, ep]
      · have r1 := P168_0_0 (d := d + 8) (L := L) (t := t) (I := I) (g1 := g1) (g2 := g2) (h1 := by rw [v]; exact z) (h2 := by rw [v]; exact q.resolve_left z)
        rw [r1, e37, ep]
    · rw [rn_f (by omega) q]
      have q' : ¬ b p = 32 ∧ ¬ b p = 10 := by
        unfold spB at q
        rw [decide_eq_true_eq] at q
        exact ⟨fun z => q (Or.inl z), fun z => q (Or.inr z)⟩
      have h1 : ¬ rvP (I 12 0 36) (I 62 0) (I 12 0 37) = 32 := by rw [v]; exact q'.1
      have h2 : ¬ rvP (I 12 0 36) (I 62 0) (I 12 0 37) = 10 := by rw [v]; exact q'.2
      have h3 : ¬ rvP (I 12 0 36) (up3 I 12 0 39 (I 12 0 37) 62 0) (I 12 0 37) = -1 := by rw [v']; omega
      by_cases a : leB (b p) = true
      · have eA : teN b n p = rn leB b n p := by unfold teN; rw [if_neg (by omega), if_pos a]
        have eT : tkC b n p = (wd b p (rn leB b n p) : Int) := by unfold tkC; rw [if_neg (by omega), if_pos a]
        obtain ⟨J, r, F, v1, v2, v3, v4⟩ := l168w (d := d) (L := L) (t := t) (b := b) (x := b p) (s := p) h400 hso (m + 1) p (up3 I 12 0 39 (p : Int)) hp (Nat.le_refl _) (by rw [up_s (by decide)]; exact e36) (by rw [up_r (by decide)]; exact e62) (by rw [up_s (by decide)]; exact e37) up_e (by rw [up_s (by decide)]; exact e45)
        have r1 := P168_0_5 (d := d + 8) (L := L) (t := t) (I := I) (g1 := g1) (g2 := g2) (h1 := h1) (h2 := h2) (h3 := h3) (h4 := by rw [v']; exact isLet_iff.mpr a)
        rw [v', e37] at r1
        have wi := wd_in b p (rn leB b n p)
        refine ⟨J, Eq.trans r1 r, Fr.tr (Fr.rfl'.up rfl) F, v3, by rw [v1, eA], ?_, fun z => ?_⟩
        · rw [v2, eT]
          unfold mtkS
          have : (wd b p (rn leB b n p) : Int) ≤ 25 := by rcases wi with ⟨_, w⟩ | ⟨w, _⟩ <;> omega
          have n4 : ¬ (wd b p (rn leB b n p) : Int) = 24 := by rcases wi with ⟨_, w⟩ | ⟨w, _⟩ <;> omega
          have n3 : ¬ (wd b p (rn leB b n p) : Int) = 23 := by rcases wi with ⟨_, w⟩ | ⟨w, _⟩ <;> omega
          rw [if_neg n4, if_neg n3, if_pos this]
        · rw [eT] at z
          rcases wi with ⟨_, w⟩ | ⟨w, _⟩ <;> omega
      · have h4 : ¬ isLet (rvP (I 12 0 36) (up3 I 12 0 39 (I 12 0 37) 62 0) (I 12 0 37)) := by rw [v']; exact fun z => a (isLet_iff.mp z)
        by_cases c : dgB (b p) = true
        · have eA : teN b n p = rn dgB b n p := by unfold teN; rw [if_neg (by omega), if_neg a, if_pos c]
          have eT : tkC b n p = (if rn dgB b n p - p ≤ 4 then 23 else 25) := by unfold tkC; rw [if_neg (by omega), if_neg a, if_pos c]
          have eV : vlN b n p = nv b p (rn dgB b n p) := by unfold vlN; rw [if_neg (by omega), if_neg a, if_pos c]
          obtain ⟨J, r, F, v1, v2, v3, v4⟩ := l168d (d := d + 8) (L := L) (t := t) (b := b) (x := b p) (s := p) h400 (m + 1) p (up3 (up3 I 12 0 39 (p : Int)) 12 0 40 0) hp (Nat.le_refl _) (by rw [up_s (by decide), up_s (by decide)]; exact e36) (by rw [up_r (by decide), up_r (by decide)]; exact e62) (by rw [up_s (by decide), up_s (by decide)]; exact e37) (by rw [up_s (by decide), up_e]) (by rw [up_e, Nat.sub_self]; rfl)
          have r1 := P168_0_4 (d := d + 8) (L := L) (t := t) (I := I) (g1 := g1) (g2 := g2) (h1 := h1) (h2 := h2) (h3 := h3) (h4 := h4) (h5 := by rw [v']; exact dg_iff.mpr c)
          rw [v', e37] at r1
          refine ⟨J, Eq.trans r1 r, Fr.tr ((Fr.rfl'.up rfl).up rfl) F, v3, by rw [v1, eA], ?_, fun z => by rw [v4, eV]⟩
          rw [v2, eT]
          by_cases y : rn dgB b n p - p ≤ 4
          · rw [if_pos y, if_pos y]
            rfl
          · rw [if_neg y, if_neg y]
            rcases hso with w | w | w <;> subst w <;> rfl
        · have h5 : ¬ (48 ≤ rvP (I 12 0 36) (up3 I 12 0 39 (I 12 0 37) 62 0) (I 12 0 37) ∧ rvP (I 12 0 36) (up3 I 12 0 39 (I 12 0 37) 62 0) (I 12 0 37) ≤ 57) := by rw [v']; exact fun z => c (dg_iff.mp z)
          have eA : teN b n p = p + 1 := by unfold teN; rw [if_neg (by omega), if_neg a, if_neg c]
          have eT : tkC b n p = if sgB (b p) = true then b p else 25 := by unfold tkC; rw [if_neg (by omega), if_neg a, if_neg c]
          have c1 := sp167 (d := d + 9) (L := L) (t := t) (I := up3 (up3 I 12 0 39 (p : Int)) 12 0 37 ((p + 1 : Nat) : Int)) (so := so) (c := b p) (by rw [up_s (by decide), up_s (by decide)]; exact e45)
          have FF : Fr s37 I (up3 (up3 I 12 0 39 (p : Int)) 12 0 37 ((p + 1 : Nat) : Int)) := (Fr.rfl'.up rfl).up rfl
          by_cases g : msB so (b p) = true
          · rw [if_pos g] at c1
            have sg := ms_sg g
            rw [if_pos sg] at eT
            have r1 := P168_0_2 (d := d + 8) (L := L) (t := t) (I := I) (g1 := g1) (g2 := g2) (h1 := h1) (h2 := h2) (h3 := h3) (h4 := h4) (h5 := h5) (c1 := by rw [v', e37, ep]; exact c1)
            rw [v', w32_s (x := 100 + b p) (by omega)] at r1
            refine ⟨_, r1, FF.up rfl, ?_, ?_, ?_, fun z => ?_⟩
            · rw [up_s (by decide), up_s (by decide), up_e]
            · rw [up_s (by decide), up_e, eA]
            · rw [up_e, eT]
              have := sg_no sg
              unfold mtkS
              rw [if_neg (by omega), if_neg (by omega), if_neg (by omega), if_pos g]
            · have := sg_no sg
              omega
          · rw [if_neg g] at c1
            have r1 := P168_0_3 (d := d + 8) (L := L) (t := t) (I := I) (g1 := g1) (g2 := g2) (h1 := h1) (h2 := h2) (h3 := h3) (h4 := h4) (h5 := h5) (c1 := by rw [v', e37, ep]; exact c1)
            refine ⟨_, r1, FF.up rfl, ?_, ?_, ?_, fun z => ?_⟩
            · rw [up_s (by decide), up_s (by decide), up_e]
            · rw [up_s (by decide), up_e, eA]
            · rw [up_e, eT]
              by_cases sg : sgB (b p) = true
              · have := sg_no sg
                rw [if_pos sg]
                unfold mtkS
                rw [if_neg (by omega), if_neg (by omega), if_neg (by omega), if_neg g]
              · rw [if_neg sg]
                rcases hso with w | w | w <;> subst w <;> rfl
            · by_cases sg : sgB (b p) = true
              · have := sg_no sg
                rw [if_pos sg] at eT
                omega
              · rw [if_neg sg] at eT
                omega
/-- the model at token j -/
def MCur (b : Nat → Int) (n : Nat) (so : Int) (I : H3) (j : Nat) : Prop := (I 12 0 36 = (n : Int) ∧ I 12 0 41 = 0) ∧ (∀ c, c < n → I 62 0 c = b c) ∧ I 12 0 45 = so ∧ MTk b n (stN b n j) so I
theorem MTk.cg {q : Nat} {so : Int} {I : H3} (h : ∀ c, c < n → b c = b' c) (k : MTk b n q so I) : MTk b' n q so I := by
  unfold MTk at k ⊢
  rw [← te_cg h, ← tk_cg h, ← vl_cg h]
  exact k
theorem sp168' {so : Int} {I : H3} {p : Nat} (h400 : n ≤ 400) (hso : so = 0 ∨ so = 1 ∨ so = 2) (hb : ∀ c, c < n → 0 ≤ b c ∧ b c ≤ 255) (e36 : I 12 0 36 = (n : Int)) (e62 : ∀ c, c < n → I 62 0 c = b c) (e45 : I 12 0 45 = so) (e37 : I 12 0 37 = (p : Int)) (hp : p ≤ n) : ∃ J, Cal (d + 10) 168 [vr 12 0] (mk I L t) = some (vx, mk J L t) ∧ Fr s37 I J ∧ MTk b n (rn spB b n p) so J := by
  obtain ⟨J, r, F, k⟩ := l168 (d := d) (L := L) (t := t) (b := I 62 0) (n := n) (so := so) h400 hso (fun c hc => by rw [e62 c hc]; exact hb c hc) (n - p) p I (by omega) e36 rfl e37 e45
  rw [rn_cg e62] at k
  exact ⟨J, r, F, k.cg e62⟩
theorem sp168 {so : Int} {I : H3} {j : Nat} (h400 : n ≤ 400) (hso : so = 0 ∨ so = 1 ∨ so = 2) (hb : ∀ c, c < n → 0 ≤ b c ∧ b c ≤ 255) (h : MCur b n so I j) : ∃ J, Cal (d + 10) 168 [vr 12 0] (mk I L t) = some (vx, mk J L t) ∧ Fr s37 I J ∧ MCur b n so J (j + 1) := by
  obtain ⟨⟨e36, e41⟩, e62, e45, k⟩ := h
  have a := (st_in (b := b) (n := n) j).1
  have te : teN b n (stN b n j) ≤ n := by
    by_cases z : stN b n j < n
    · exact (te_in z).2
    · rw [show teN b n (stN b n j) = stN b n j from if_pos (by omega)]
      exact a
  obtain ⟨J, c, F, m⟩ := sp168' (d := d) (L := L) (t := t) (I := I) h400 hso hb e36 e62 e45 k.2.1 te
  exact ⟨J, c, F, by rw [F 12 0 36 rfl, F 12 0 41 rfl]; exact ⟨e36, e41⟩, by rw [F.ri (r := 62) (i := 0) (fun _ => rfl)]; exact e62, by rw [F 12 0 45 rfl]; exact e45, m⟩
theorem MCur.fr {S : Nat → Nat → Nat → Bool} {so : Int} {j : Nat} {I J : H3} (h : MCur b n so I j) (F : Fr S I J) (h1 : ∀ c, S 62 0 c = false) (h2 : S 12 0 36 = false ∧ S 12 0 37 = false ∧ S 12 0 38 = false ∧ S 12 0 39 = false ∧ S 12 0 40 = false ∧ S 12 0 45 = false ∧ S 12 0 41 = false) : MCur b n so J j := by
  unfold MCur MTk
  rw [F.ri (r := 62) (i := 0) h1, F 12 0 36 h2.1, F 12 0 37 h2.2.1, F 12 0 38 h2.2.2.1, F 12 0 39 h2.2.2.2.1, F 12 0 40 h2.2.2.2.2.1, F 12 0 45 h2.2.2.2.2.2.1, F 12 0 41 h2.2.2.2.2.2.2]
  exact h
end MTOK
