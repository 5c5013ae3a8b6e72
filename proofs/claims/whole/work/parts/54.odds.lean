/-! the class: odds -/
theorem vLdiv_pos {a b : Int} (ha : 0 ≤ a ∧ a ≤ 9000000000000000000) (hb : 0 < b ∧ b ≤ 9000000000000000000) : vLdiv a b = a / b := by
  show (Int64.ofInt a / Int64.ofInt b).toInt = _
  have h1 : (Int64.ofInt a).toInt = a := w64_id (by omega) (by omega)
  have h2 : (Int64.ofInt b).toInt = b := w64_id (by omega) (by omega)
  have h0 : 0 ≤ a / b := Int.ediv_nonneg ha.1 (by omega)
  have h3 : a / b ≤ a := Int.ediv_le_self _ ha.1
  rw [Int64.toInt_div, h1, h2, Int.tdiv_eq_ediv_of_nonneg ha.1]
  have := w64_id (x := a / b) (by omega) (by omega)
  rw [w64_eq] at this
  exact this
theorem lcmp_pos {a : Int} (h : 0 < a) : vLcmp a 0 = 1 := if_pos h
theorem od_e {l w nob : Int} (hl : 0 ≤ l ∧ l ≤ 1000000) (hw : 0 ≤ w ∧ w ≤ 20000) (hn : 1 ≤ nob ∧ nob ≤ 10000) : w32 (vLdiv (w64 (l * w)) (w + nob)) = l * w / (w + nob) ∧ 0 ≤ l * w / (w + nob) ∧ l * w / (w + nob) ≤ l := by
  have m0 : 0 ≤ l * w := Int.mul_nonneg hl.1 hw.1
  have m1 : l * w ≤ 1000000 * 20000 := Int.mul_le_mul hl.2 hw.2 hw.1 (by decide)
  have d0 : 0 ≤ l * w / (w + nob) := Int.ediv_nonneg m0 (by omega)
  have d1 : l * w / (w + nob) ≤ l := by
    apply Int.ediv_le_of_le_mul (by omega)
    exact Int.mul_le_mul_of_nonneg_left (by omega) hl.1
  rw [w64_id (by omega) (by omega), vLdiv_pos (by omega) (by omega)]
  exact ⟨w32_s (by omega), d0, d1⟩
theorem od_a {w all : Int} (hw : 0 ≤ w ∧ w ≤ 20000) (ha : w ≤ all ∧ 1 ≤ all ∧ all ≤ 1000000) : w32 (vLdiv (w64 (1000000 * w)) all) = 1000000 * w / all ∧ 0 ≤ 1000000 * w / all ∧ 1000000 * w / all ≤ 1000000 := by
  have d0 : 0 ≤ 1000000 * w / all := Int.ediv_nonneg (by omega) (by omega)
  have d1 : 1000000 * w / all ≤ 1000000 := Int.ediv_le_of_le_mul (by omega) (by omega)
  rw [w64_id (by omega) (by omega), vLdiv_pos (by omega) (by omega)]
  exact ⟨w32_s (by omega), d0, d1⟩
/-- weights and nobody's weight in bounds -/
def wOk (w : Nat → Int) (nob : Int) : Prop := (∀ k, k < 9 → 0 ≤ w k ∧ w k ≤ 20000) ∧ 1 ≤ nob ∧ nob ≤ 10000
theorem all_step (w : Nat → Int) (nob : Int) (h : wOk w nob) : ∀ (n k : Nat) (a : Int), k + n = 9 → nob ≤ a → a ≤ nob + 20000 * k → a ≤ fo (fun k a => w32 (a + w k)) k n a ∧ fo (fun k a => w32 (a + w k)) k n a ≤ nob + 20000 * 9 ∧ ∀ j, k ≤ j → j < 9 → w j ≤ fo (fun k a => w32 (a + w k)) k n a
  | 0, k, a, hk, h1, h2 => ⟨Int.le_refl _, by rw [fo_0]; omega, fun j h3 h4 => by omega⟩
  | n + 1, k, a, hk, h1, h2 => by
    have hw := h.1 k (by omega)
    have hn := h.2
    have e : w32 (a + w k) = a + w k := w32_s (by omega)
    obtain ⟨a1, a2, a3⟩ := all_step w nob h n (k + 1) (a + w k) (by omega) (by omega) (by omega)
    rw [fo_s, e]
    refine ⟨by omega, a2, fun j h3 h4 => ?_⟩
    by_cases hj : j = k
    · subst hj
      omega
    · exact a3 j (by omega) h4
theorem all_in {w : Nat → Int} {nob : Int} (h : wOk w nob) : nob ≤ allP w nob ∧ allP w nob ≤ 1000000 ∧ ∀ j, j < 9 → w j ≤ allP w nob := by
  obtain ⟨a1, a2, a3⟩ := all_step w nob h 9 0 nob rfl (Int.le_refl _) (by omega)
  have hn := h.2
  refine ⟨a1, ?_, fun j hj => a3 j (by omega) hj⟩
  show fo (fun k a => w32 (a + w k)) 0 9 nob ≤ _
  omega
theorem od1_in {each : Bool} {w : Nat → Int} {nob l : Int} (h : wOk w nob) (hl : if each then 0 ≤ l ∧ l ≤ 1000000 else -100000000 ≤ l ∧ l ≤ 1000000) {k : Nat} (hk : k < 9) :
    0 ≤ od1 each (allP w nob) nob l (w k) ∧ od1 each (allP w nob) nob l (w k) ≤ 1000000 ∧ (each = true → od1 each (allP w nob) nob l (w k) ≤ l) := by
  cases each with
  | true =>
    have hl' : 0 ≤ l ∧ l ≤ 1000000 := hl
    have := od_e hl' (h.1 k hk) h.2
    show 0 ≤ l * w k / (w k + nob) ∧ l * w k / (w k + nob) ≤ 1000000 ∧ (true = true → l * w k / (w k + nob) ≤ l)
    omega
  | false =>
    have a := all_in h
    have hn := h.2
    have := od_a (h.1 k hk) ⟨a.2.2 k hk, by omega, a.2.1⟩
    show 0 ≤ 1000000 * w k / allP w nob ∧ 1000000 * w k / allP w nob ≤ 1000000 ∧ (false = true → 1000000 * w k / allP w nob ≤ l)
    exact ⟨this.2.1, this.2.2, fun h => by cases h⟩
theorem lft_in {each : Bool} {w : Nat → Int} {nob : Int} (h : wOk w nob) : ∀ k, k ≤ 9 → (if each then 0 ≤ lftP each (allP w nob) nob w k ∧ lftP each (allP w nob) nob w k ≤ 1000000 else -1000000 * (k : Int) ≤ lftP each (allP w nob) nob w k ∧ lftP each (allP w nob) nob w k ≤ 1000000)
  | 0, _ => by
    show if each = true then 0 ≤ (1000000 : Int) ∧ (1000000 : Int) ≤ 1000000 else -1000000 * ((0 : Nat) : Int) ≤ 1000000 ∧ (1000000 : Int) ≤ 1000000
    cases each <;> simp
  | k + 1, hk => by
    have ih := lft_in (each := each) h k (by omega)
    have s := od1_in (each := each) (l := lftP each (allP w nob) nob w k) h (by
      cases each with
      | true => exact ih
      | false =>
        have ih' : -1000000 * (k : Int) ≤ lftP false (allP w nob) nob w k ∧ lftP false (allP w nob) nob w k ≤ 1000000 := ih
        show -100000000 ≤ lftP false (allP w nob) nob w k ∧ lftP false (allP w nob) nob w k ≤ 1000000
        omega) (show k < 9 by omega)
    have e : lftP each (allP w nob) nob w (k + 1) = lftP each (allP w nob) nob w k - od1 each (allP w nob) nob (lftP each (allP w nob) nob w k) (w k) := rfl
    rw [e]
    cases each with
    | true =>
      have ih' : 0 ≤ lftP true (allP w nob) nob w k ∧ lftP true (allP w nob) nob w k ≤ 1000000 := ih
      have s3 := s.2.2 rfl
      show 0 ≤ lftP true (allP w nob) nob w k - od1 true (allP w nob) nob (lftP true (allP w nob) nob w k) (w k) ∧ lftP true (allP w nob) nob w k - od1 true (allP w nob) nob (lftP true (allP w nob) nob w k) (w k) ≤ 1000000
      omega
    | false =>
      have ih' : -1000000 * (k : Int) ≤ lftP false (allP w nob) nob w k ∧ lftP false (allP w nob) nob w k ≤ 1000000 := ih
      show -1000000 * ((k + 1 : Nat) : Int) ≤ lftP false (allP w nob) nob w k - od1 false (allP w nob) nob (lftP false (allP w nob) nob w k) (w k) ∧ lftP false (allP w nob) nob w k - od1 false (allP w nob) nob (lftP false (allP w nob) nob w k) (w k) ≤ 1000000
      omega
theorem lft_b {each : Bool} {w : Nat → Int} {nob : Int} (h : wOk w nob) {k : Nat} (hk : k ≤ 9) : -9000000 ≤ lftP each (allP w nob) nob w k ∧ lftP each (allP w nob) nob w k ≤ 1000000 := by
  have := lft_in (each := each) h k hk
  cases each with
  | true =>
    have t : 0 ≤ lftP true (allP w nob) nob w k ∧ lftP true (allP w nob) nob w k ≤ 1000000 := this
    omega
  | false =>
    have t : -1000000 * (k : Int) ≤ lftP false (allP w nob) nob w k ∧ lftP false (allP w nob) nob w k ≤ 1000000 := this
    omega
theorem odP_in {each : Bool} {w : Nat → Int} {nob : Int} (h : wOk w nob) {k : Nat} (hk : k < 9) : 0 ≤ odP each (allP w nob) nob w k ∧ odP each (allP w nob) nob w k ≤ 1000000 := by
  unfold odP
  rw [if_pos hk]
  have l := lft_in (each := each) h k (by omega)
  have s := od1_in (each := each) (l := lftP each (allP w nob) nob w k) h (by
    cases each with
    | true => exact l
    | false =>
      have t : -1000000 * (k : Int) ≤ lftP false (allP w nob) nob w k ∧ lftP false (allP w nob) nob w k ≤ 1000000 := l
      show -100000000 ≤ lftP false (allP w nob) nob w k ∧ lftP false (allP w nob) nob w k ≤ 1000000
      omega) hk
  exact ⟨s.1, s.2.1⟩
def bI (b : Bool) : Int := if b then 1 else 0
def s15 (r _ _ : Nat) : Bool := r == 15
section SHARE
variable {d : Nat} {L : H3} {t : Nat → Nat} {I0 : H3} {w : Nat → Int} {nob : Int} {each : Bool}
theorem l2a (hw : ∀ k, k < 9 → I0 14 0 k = w k) : ∀ (n k : Nat) (a : Int), k + n = 9 → Res d 2 5 [vr 0 0, vi (bI each), vi nob, vi a, vi (k : Int), vx, vx, vx, vx, vx, vx, vx] [] (mk I0 L t) = Res d 2 35 [vr 0 0, vi (bI each), vi nob, vi (fo (fun k a => w32 (a + w k)) k n a), vi 1000000, vi 0, vx, vx, vx, vx, vx, vx] [] (mk I0 L t)
  | 0, k, a, hk => P2_5_1 (by omega)
  | n + 1, k, a, hk => by
    refine Eq.trans (P2_5_0 (by omega) (by omega)) ?_
    rw [lem_w32k (by omega), Int.toNat_natCast, hw k (by omega), fo_s]
    exact l2a hw n (k + 1) _ (by omega)
theorem l2b (h : wOk w nob) (hw : ∀ k, k < 9 → I0 14 0 k = w k) : ∀ (n k : Nat) (I : H3) (u6 u8 u10 : MV), k + n = 9 → Fr s15 I0 I → (∀ j, j < k → I 15 0 j = odP each (allP w nob) nob w j) →
    ∃ J, Res d 2 35 [vr 0 0, vi (bI each), vi nob, vi (allP w nob), vi (lftP each (allP w nob) nob w k), vi (k : Int), u6, vx, u8, vx, u10, vx] [] (mk I L t) = some (vx, mk J L t) ∧ Fr s15 I0 J ∧ ∀ j, j < 10 → J 15 0 j = odP each (allP w nob) nob w j
  | 0, k, I, u6, u8, u10, hk, hF, hj => by
    have hk9 : k = 9 := by omega
    subst hk9
    refine ⟨_, P2_35_4 (by omega), hF.up rfl, fun j h1 => ?_⟩
    by_cases hj9 : j = 9
    · subst hj9
      rw [up_e]
      rfl
    · rw [up_s hj9]
      exact hj j (by omega)
  | n + 1, k, I, u6, u8, u10, hk, hF, hj => by
    have hwk := h.1 k (by omega)
    have hn := h.2
    have ha := all_in h
    have e14 : I 14 0 ((k : Int).toNat) = w k := (hF 14 0 k rfl).trans (hw k (by omega))
    have lb := lft_b (each := each) h (show k ≤ 9 by omega)
    have lb1 := lft_b (each := each) h (show k + 1 ≤ 9 by omega)
    have go : ∀ v, od1 each (allP w nob) nob (lftP each (allP w nob) nob w k) (w k) = v → ∀ u6' u8' u10',
        ∃ J, Res d 2 35 [vr 0 0, vi (bI each), vi nob, vi (allP w nob), vi (w32 (lftP each (allP w nob) nob w k - up3 I 15 0 k v 15 0 k)), vi (w32 ((k : Int) + 1)), u6', vx, u8', vx, u10', vx] [] (mk (up3 I 15 0 k v) L t) = some (vx, mk J L t) ∧ Fr s15 I0 J ∧ ∀ j, j < 10 → J 15 0 j = odP each (allP w nob) nob w j := by
      intro v hv u6' u8' u10'
      have el : lftP each (allP w nob) nob w k - v = lftP each (allP w nob) nob w (k + 1) := by rw [← hv]; rfl
      rw [up_e, el, w32_s (by omega), lem_w32k (by omega)]
      refine l2b h hw n (k + 1) (up3 I 15 0 k v) u6' u8' u10' (by omega) (hF.up rfl) (fun j h1 => ?_)
      by_cases hjk : j = k
      · subst hjk
        rw [up_e]
        unfold odP
        rw [if_pos (by omega)]
        exact hv.symm
      · rw [up_s hjk]
        exact hj j (by omega)
    cases each with
    | true =>
      have lt := lft_in (each := true) h k (by omega)
      have lt' : 0 ≤ lftP true (allP w nob) nob w k ∧ lftP true (allP w nob) nob w k ≤ 1000000 := lt
      have od := od_e lt' hwk hn
      have e64 : w64 (w k + nob) = w k + nob := w64_id (by omega) (by omega)
      obtain ⟨J, hr, hJ⟩ := go _ rfl (vl (w k)) (vl (lftP true (allP w nob) nob w k)) (vl (w k + nob))
      refine ⟨J, Eq.trans (P2_35_1 (h1 := by omega) (g1 := by omega) (h2 := by decide) (h3 := by rw [e14, e64, lcmp_pos (by omega)]; decide) (g2 := by rw [e14, e64]; omega) (g3 := by omega)) ?_, hJ⟩
      rw [e14, e64, od.1]
      exact hr
    | false =>
      have od := od_a hwk ⟨ha.2.2 k (by omega), by omega, ha.2.1⟩
      obtain ⟨J, hr, hJ⟩ := go _ rfl (vl (w k)) (vl 1000000) (vl (allP w nob))
      refine ⟨J, Eq.trans (P2_35_3 (h1 := by omega) (g1 := by omega) (h2 := by decide) (h3 := by rw [lcmp_pos (by omega)]; decide) (g2 := by omega) (g3 := by omega)) ?_, hJ⟩
      rw [e14, od.1]
      exact hr
theorem s2 (h : wOk w nob) (hw : ∀ k, k < 9 → I0 14 0 k = w k) : ∃ J, Cal d 2 [vr 0 0, vi (bI each), vi nob] (mk I0 L t) = some (vx, mk J L t) ∧ Fr s15 I0 J ∧ ∀ j, j < 10 → J 15 0 j = odP each (allP w nob) nob w j := by
  obtain ⟨J, hr, hJ⟩ := l2b (d := d) (L := L) (t := t) (each := each) h hw 9 0 I0 vx vx vx rfl Fr.rfl' (fun j hj => by omega)
  exact ⟨J, Eq.trans P2_0_0 (Eq.trans (l2a hw 9 0 nob rfl) hr), hJ⟩
end SHARE
/-- the odds at a place (nobody's where it is none) -/
def oP (od : Nat → Int) (p : Int) : Int := od (if 0 ≤ p ∧ p ≤ 8 then p.toNat else 9)
theorem s1 {d : Nat} {I L : H3} {t : Nat → Nat} {p : Int} : Cal (d + 1) 1 [vr 0 0, vi p] (mk I L t) = some (vi (oP (I 15 0) p), mk I L t) := by
  unfold oP
  by_cases h : 0 ≤ p ∧ p ≤ 8
  · rw [if_pos h]
    exact P1_0_1 h (by omega)
  · rw [if_neg h]
    exact P1_0_0 h
theorem oP_cg {f g : Nat → Int} (h : ∀ k, k < 10 → f k = g k) (p : Int) : oP f p = oP g p := by
  unfold oP
  split
  · exact h _ (by omega)
  · exact h _ (by omega)
theorem wt_in {fa rv : Int → Int} {limit led push : Int} (hl : 0 ≤ limit ∧ limit ≤ 9999) (hf : ∀ f, 0 ≤ fa f ∧ fa f ≤ 9999) (hp : 0 ≤ push ∧ push ≤ 99) (k : Nat) : 0 ≤ wtP fa rv limit led push k ∧ wtP fa rv limit led push k ≤ 20000 := by
  unfold wtP
  have := hf (rv (k : Int))
  have e := w32_s (x := limit - fa (rv (k : Int))) (by omega)
  rw [e]
  split
  · decide
  · split
    · split
      · rw [w32_s (by omega)]
        omega
      · rw [w32_s (by omega)]
        omega
    · split <;> omega
def wtW (I : H3) (t : Nat → Nat) (w : Nat) (rw' : Int → Int) (led push : Int) : Nat → Int := wtP (fW I t w) rw' (aW I t w 4 (gvW I w)) led push
def nbW (I : H3) (t : Nat → Nat) (w : Nat) : Int := aW I t w 5 (gvW I w)
/-- the odds that a row gives -/
def odW (I : H3) (t : Nat → Nat) (w : Nat) (rw' : Int → Int) (each : Bool) (led push : Int) : Nat → Int := odP each (allP (wtW I t w rw' led push) (nbW I t w)) (nbW I t w) (wtW I t w rw' led push)
theorem wtW_ok {I : H3} {t : Nat → Nat} {w : Nat} {rw' : Int → Int} {led push : Int} (hp : 0 ≤ push ∧ push ≤ 99) : wOk (wtW I t w rw' led push) (nbW I t w) := by
  have h4 := aW_in (I := I) (t := t) (w := w) (k := 4) (g := gvW I w) (by decide)
  have h5 := aW_in (I := I) (t := t) (w := w) (k := 5) (g := gvW I w) (by decide)
  have r4 : rom 0 4 = 0 ∧ rom 1 4 = 9999 ∧ rom 0 5 = 1 ∧ rom 1 5 = 9999 := by decide +kernel
  rw [r4.1, r4.2.1] at h4
  rw [r4.2.2.1, r4.2.2.2] at h5
  refine ⟨fun k _ => wt_in h4 (fun f => fW_in f) hp k, h5.1, ?_⟩
  have := h5.2
  show aW I t w 5 (gvW I w) ≤ 10000
  omega
section WEIGH
variable {d w r : Nat} {L : H3} {t : Nat → Nat} {I0 : H3} {led push : Int} {fa : Int → Int} {limit nob : Int} {each : Bool} {kind : Int}
theorem l127 (hfa : FarOk d w fa I0 t) (hr : rwOk I0 r) (hk1 : kind = 1 ↔ each = true) (hok : wOk (wtP fa (rv I0 r) limit led push) nob) : ∀ (n k : Nat) (I : H3) (u9 u10 : MV), Fr sX I0 I → k + n = 9 → (∀ j, j < k → I 14 0 j = wtP fa (rv I0 r) limit led push j) →
    ∃ J, Res (d + 1) 127 19 [vr 11 0, vr 3 w, vr 4 r, vi kind, vi led, vi push, vi limit, vi nob, vi (k : Int), u9, u10] [] (mk I L t) = some (vx, mk J L t) ∧ Fr sX I0 J ∧ ∀ j, j < 10 → J 15 0 j = odP each (allP (wtP fa (rv I0 r) limit led push) nob) nob (wtP fa (rv I0 r) limit led push) j
  | 0, k, I, u9, u10, hF, hk, hj => by
    have hk9 : k = 9 := by omega
    subst hk9
    obtain ⟨J, c, fr, e⟩ := s2 (d := d) (L := L) (t := t) (I0 := I) (each := each) hok (fun j hj9 => hj j hj9)
    have F : Fr sX I0 J := hF.tr (fr.mo (fun r i c k => by
      simp only [sX, Bool.or_eq_false_iff] at k
      exact k.1.1.1.1.2))
    refine ⟨J, ?_, F, e⟩
    cases each with
    | true => exact P127_19_3 (by omega) (hk1.mpr rfl) c
    | false => exact P127_19_4 (by omega) (fun h => by cases hk1.mp h) c
  | n + 1, k, I, u9, u10, hF, hk, hj => by
    have e4 : I 4 = I0 4 := hF.rg (fun _ _ => rfl)
    have e30 : I 30 = I0 30 := hF.rg (fun _ _ => rfl)
    have ev : rvP (I 4 r 1) (I 30 r) (k : Int) = rv I0 r (k : Int) := by rw [e4, e30]; rfl
    have hb : I 4 r 1 ≤ 9 := by rw [e4]; exact hr.1
    have go : ∀ (J1 : H3) (v : Int), Fr sX I0 J1 → (∀ j, j < k → J1 14 0 j = wtP fa (rv I0 r) limit led push j) → wtP fa (rv I0 r) limit led push k = v → ∀ u9' u10',
        ∃ J, Res (d + 1) 127 19 [vr 11 0, vr 3 w, vr 4 r, vi kind, vi led, vi push, vi limit, vi nob, vi (w32 ((k : Int) + 1)), u9', u10'] [] (mk (up3 J1 14 0 k v) L t) = some (vx, mk J L t) ∧ Fr sX I0 J ∧ ∀ j, j < 10 → J 15 0 j = odP each (allP (wtP fa (rv I0 r) limit led push) nob) nob (wtP fa (rv I0 r) limit led push) j := by
      intro J1 v F1 hj1 hv u9' u10'
      rw [lem_w32k (by omega)]
      refine l127 hfa hr hk1 hok n (k + 1) _ u9' u10' (F1.up rfl) (by omega) (fun j h1 => ?_)
      by_cases hjk : j = k
      · subst hjk
        rw [up_e, hv]
      · rw [up_s hjk]
        exact hj1 j (by omega)
    by_cases h2 : rv I0 r (k : Int) = -1
    · obtain ⟨J, hr', hJ⟩ := go I 0 hF hj (by unfold wtP; rw [if_pos h2]) (vi (rv I0 r (k : Int))) (vi 0)
      refine ⟨J, Eq.trans (P127_19_0 (h1 := by omega) (g1 := hb) (h2 := by rw [ev]; exact h2) (g2 := by omega)) ?_, hJ⟩
      rw [ev]
      exact hr'
    · have hrng : 0 ≤ rv I0 r (k : Int) ∧ rv I0 r (k : Int) < 120 := (hr.2 (k : Int)).resolve_left h2
      obtain ⟨J1, c1, f1⟩ := hfa I L hF (rv I0 r (k : Int)) hrng
      have hj1 : ∀ j, j < k → J1 14 0 j = wtP fa (rv I0 r) limit led push j := fun j h1 => (f1 14 0 j rfl).trans (hj j h1)
      by_cases h3 : (k : Int) = led
      · obtain ⟨J, hr', hJ⟩ := go J1 _ (hF.tr (sAsk_X f1)) hj1 (by unfold wtP; rw [if_neg h2, if_pos h3]) (vi (rv I0 r (k : Int))) (vi (if 0 < w32 (limit - fa (rv I0 r (k : Int))) then w32 (limit - fa (rv I0 r (k : Int))) else 0))
        refine ⟨J, Eq.trans (P127_19_1 (h1 := by omega) (g1 := hb) (h2 := by rw [ev]; exact h2) (g2 := by rw [ev]; exact hrng) (c1 := by rw [ev]; exact c1) (h3 := h3) (g3 := by omega)) ?_, hJ⟩
        rw [ev]
        exact hr'
      · obtain ⟨J, hr', hJ⟩ := go J1 _ (hF.tr (sAsk_X f1)) hj1 (by unfold wtP; rw [if_neg h2, if_neg h3]) (vi (rv I0 r (k : Int))) (vi (if 0 < w32 (limit - fa (rv I0 r (k : Int))) then w32 (limit - fa (rv I0 r (k : Int))) else 0))
        refine ⟨J, Eq.trans (P127_19_2 (h1 := by omega) (g1 := hb) (h2 := by rw [ev]; exact h2) (g2 := by rw [ev]; exact hrng) (c1 := by rw [ev]; exact c1) (h3 := h3) (g3 := by omega)) ?_, hJ⟩
        rw [ev]
        exact hr'
end WEIGH
theorem s127 {d w r : Nat} {I L : H3} {t : Nat → Nat} {kind led push : Int} (hm : mOk I t w) (hw : R31 (I 28 w)) (hF : fcOk I) (hr : rwOk I r) (hp : 0 ≤ push ∧ push ≤ 99) :
    ∃ J, Cal (d + 4) 127 [vr 11 0, vr 3 w, vr 4 r, vi kind, vi led, vi push] (mk I L t) = some (vx, mk J L t) ∧ Fr sX I J ∧ ∀ j, j < 10 → J 15 0 j = odW I t w (rv I r) (decide (kind = 1)) led push j := by
  obtain ⟨J1, c1, f1⟩ := s114 (d := d + 1) (L := L) (k := 4) (by decide) hm
  have e3 : J1 3 = I 3 := f1.rg (fun _ _ => rfl)
  have e23 : J1 23 = I 23 := f1.rg (fun _ _ => rfl)
  have e24 : J1 24 = I 24 := f1.rg (fun _ _ => rfl)
  have e25 : J1 25 = I 25 := f1.rg (fun _ _ => rfl)
  have e26 : J1 26 = I 26 := f1.rg (fun _ _ => rfl)
  obtain ⟨J2, c2, f2⟩ := s114 (d := d + 1) (w := w) (I := J1) (t := t) (L := L) (k := 5) (by decide) (mOk_cg e3 e23 e24 e25 e26 hm)
  have ea : aW J1 t w 5 (gvW J1 w) = nbW I t w := by
    unfold aW nbW aW
    rw [hC_cg e23 e24 e25 e26, gvW_cg e3, e3]
  rw [ea] at c2
  obtain ⟨J, hr', hJ⟩ := l127 (d := d + 3) (L := L) (each := decide (kind = 1)) (kind := kind) (nob := nbW I t w) (led := led) (push := push) (limit := aW I t w 4 (gvW I w)) (far_ok (d := d) hm hw hF) hr (by rw [decide_eq_true_iff]) (wtW_ok hp) 9 0 J2 vx vx (sAsk_X (f1.tr f2)) rfl (fun j hj => by omega)
  exact ⟨J, Eq.trans (P127_0_0 (c1 := c1) (c2 := c2)) hr', hJ⟩
theorem s128 {d w i : Nat} {I L : H3} {t : Nat → Nat} (hm : mOk I t w) (hw : R31 (I 28 w)) (hF : fcOk I) (hr : rwOk I (6 + i)) (hp : 0 ≤ I 6 i 5 ∧ I 6 i 5 ≤ 99) :
    ∃ J, Cal (d + 5) 128 [vr 11 0, vr 3 w, vr 6 i] (mk I L t) = some (vi (oP (odW I t w (rv I (6 + i)) (decide (I 6 i 2 = 1)) (I 6 i 4) (I 6 i 5)) (I 6 i 6)), mk J L t) ∧ Fr sX I J := by
  obtain ⟨J, c, f, e⟩ := s127 (d := d) (L := L) (kind := I 6 i 2) (led := I 6 i 4) hm hw hF hr hp
  have e6 : J 6 = I 6 := f.rg (fun _ _ => rfl)
  refine ⟨J, Eq.trans (P128_0_0 (c1 := c) (c2 := s1)) ?_, f⟩
  rw [e6, oP_cg e]
