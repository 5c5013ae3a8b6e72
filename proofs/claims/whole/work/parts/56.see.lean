/-! the class: a sight; faces put together -/
theorem cp_sr {I : H3} {r i r2 i2 n : Nat} : cpI I r i 0 r2 i2 0 n = sr I r2 i2 n (I r i) := by
  funext a b c
  unfold cpI sr
  by_cases h : a = r2 ∧ b = i2 ∧ c < n
  · rw [if_pos h, if_pos ⟨h.1, h.2.1, Nat.zero_le _, by omega⟩, Nat.zero_add, Nat.sub_zero]
  · rw [if_neg h, if_neg (fun k => h ⟨k.1, k.2.1, by omega⟩)]
/-- what a sight leaves -/
def seeP (A : Nat → (Nat → Int) → Int) (G : Int → Nat → Int) (f : Nat → Int) : Nat → Int := fun j => if j < 16 then blrP (f j) (A 1 (G 0)) else 0
theorem seeP_in {A : Nat → (Nat → Int) → Int} {G : Int → Nat → Int} {f : Nat → Int} : R31 (seeP A G f) := by
  intro j hj
  unfold seeP
  rw [if_pos hj]
  exact blrP_in _ _
theorem seeP_c {A : Nat → (Nat → Int) → Int} {G : Int → Nat → Int} {f : Nat → Int} : seeP A G (c16 f) = seeP A G f := by
  funext j
  unfold seeP
  split
  · next h => rw [c16_lt h]
  · rfl
theorem c16_see {A : Nat → (Nat → Int) → Int} {G : Int → Nat → Int} {f : Nat → Int} : c16 (seeP A G f) = seeP A G f := by
  funext j
  unfold c16
  split
  · rfl
  · next h =>
    unfold seeP
    rw [if_neg h]
def sSe (w r i c : Nat) : Bool := r == 13 || r == 27 || (r == 28 && i == w) || (r == 29 && i == w) || (r == 3 && i == w && c == 10)
section SEE
variable {d w k : Nat} {L : H3} {t : Nat → Nat} {I0 : H3} {f : Nat} {b : Int}
theorem l119a (hb : 0 ≤ b ∧ b ≤ 15) (hf : R31 (I0 22 f)) : ∀ (n j : Nat), j + n = 16 →
    Res (d + 2) 119 41 [vr 11 0, vr 3 w, vr 115 k, vi b, vr 22 f, vi (j : Int)] [] (mk (sr I0 28 w j (fun j => blrP (I0 22 f j) b)) L t) = some (vx, mk (sr I0 28 w 16 (fun j => blrP (I0 22 f j) b)) L t)
  | 0, j, hj => by
    have hk' : j = 16 := by omega
    subst hk'
    exact P119a_41_1 (by omega)
  | n + 1, j, hj => by
    have e : ∀ c, sr I0 28 w j (fun j => blrP (I0 22 f j) b) 22 f c = I0 22 f c := fun c => by rw [sr_r (by decide)]
    refine Eq.trans (P119a_41_0 (h1 := by omega) (g1 := by omega) (g2 := hb) (g3 := by rw [e]; exact hf _ (by omega))) ?_
    rw [lem_w32k (by omega), Int.toNat_natCast, e, sr_s (f := fun j => blrP (I0 22 f j) b)]
    exact l119a hb hf n (j + 1) (by omega)
theorem l119b (hb : 0 ≤ b ∧ b ≤ 15) (hf : R31 (I0 22 f)) : ∀ (n j : Nat), j + n = 16 →
    Res (d + 2) 119 41 [vr 11 0, vr 3 w, vr 29 k, vi b, vr 22 f, vi (j : Int)] [] (mk (sr I0 28 w j (fun j => blrP (I0 22 f j) b)) L t) = some (vx, mk (sr I0 28 w 16 (fun j => blrP (I0 22 f j) b)) L t)
  | 0, j, hj => by
    have hk' : j = 16 := by omega
    subst hk'
    exact P119b_41_1 (by omega)
  | n + 1, j, hj => by
    have e : ∀ c, sr I0 28 w j (fun j => blrP (I0 22 f j) b) 22 f c = I0 22 f c := fun c => by rw [sr_r (by decide)]
    refine Eq.trans (P119b_41_0 (h1 := by omega) (g1 := by omega) (g2 := hb) (g3 := by rw [e]; exact hf _ (by omega))) ?_
    rw [lem_w32k (by omega), Int.toNat_natCast, e, sr_s (f := fun j => blrP (I0 22 f j) b)]
    exact l119b hb hf n (j + 1) (by omega)
/-- the mind's face is a face -/
def snOk (I : H3) (w : Nat) : Prop := 0 ≤ I 3 w 4 ∧ I 3 w 4 < 120
theorem see_h {I J1 : H3} {ty : Nat → Int} (hm : mOk I t w) (hF : fcOk I) (hs : snOk I w) (f1 : Fr sAsk (up3 (sr I 29 w 16 ty) 3 w 10 0) J1) :
    (0 ≤ J1 3 w 4 ∧ J1 3 w 4 < 120) ∧ R31 (J1 22 (J1 3 w 4).toNat) ∧ Fr (sSe w) I (sr J1 28 w 16 (fun j => blrP (J1 22 (J1 3 w 4).toNat j) (aW I t w 1 (gvD I w 0)))) ∧ c16 (sr J1 28 w 16 (fun j => blrP (J1 22 (J1 3 w 4).toNat j) (aW I t w 1 (gvD I w 0))) 28 w) = seeP (aW I t w) (gvD I w) (I 22 (I 3 w 4).toNat) ∧ c16 (sr J1 28 w 16 (fun j => blrP (J1 22 (J1 3 w 4).toNat j) (aW I t w 1 (gvD I w 0))) 29 w) = c16 ty ∧ sr J1 28 w 16 (fun j => blrP (J1 22 (J1 3 w 4).toNat j) (aW I t w 1 (gvD I w 0))) 3 w 10 = 0 := by
  have F1 : Fr (sSe w) I (up3 (sr I 29 w 16 ty) 3 w 10 0) := (Fr.rfl'.wr (fun c _ => by simp [sSe])).up (by simp [sSe])
  have F2 : Fr (sSe w) I J1 := F1.tr (f1.mo (fun r i c h => by
    simp only [sSe, Bool.or_eq_false_iff] at h
    simp only [sAsk, Bool.or_eq_false_iff]
    exact h.1.1.1))
  have e22 : J1 22 = I 22 := F2.rg (fun _ _ => rfl)
  have e4 : J1 3 w 4 = I 3 w 4 := F2 3 w 4 (by simp [sSe])
  rw [e22, e4]
  refine ⟨hs, hF _ (by have := hs.1; have := hs.2; omega), F2.wr (fun c _ => by simp [sSe]), ?_, ?_, ?_⟩
  · rw [sr_c16]
    rfl
  · rw [sr_r (by decide)]
    have : J1 29 w = up3 (sr I 29 w 16 ty) 3 w 10 0 29 w := f1.ri (fun _ => rfl)
    rw [this, up_r (by decide), sr_c16]
  · rw [sr_r (by decide)]
    have : J1 3 w 10 = up3 (sr I 29 w 16 ty) 3 w 10 0 3 w 10 := f1 3 w 10 rfl
    rw [this, up_e]
theorem s119a {I : H3} (hm : mOk I t w) (hF : fcOk I) (hs : snOk I w) : ∃ J, Cal (d + 3) 119 [vr 11 0, vr 3 w, vr 115 k] (mk I L t) = some (vx, mk J L t) ∧ Fr (sSe w) I J ∧ c16 (J 28 w) = seeP (aW I t w) (gvD I w) (I 22 (I 3 w 4).toNat) ∧ c16 (J 29 w) = c16 (I 115 k) ∧ J 3 w 10 = 0 := by
  have F1 : Fr (sSe w) I (up3 (sr I 29 w 16 (I 115 k)) 3 w 10 0) := (Fr.rfl'.wr (fun c _ => by simp [sSe])).up (by simp [sSe])
  have ⟨hm1, ea⟩ := mOk_fr (t := t) F1 (by simp [sSe]) (fun _ _ => ⟨rfl, rfl, rfl, rfl⟩) hm
  obtain ⟨J1, c1, f1⟩ := s114 (d := d) (L := L) (k := 1) (by decide) hm1
  have eg : gvW (up3 (sr I 29 w 16 (I 115 k)) 3 w 10 0) w = gvD I w 0 := by
    unfold gvW gvD
    rw [F1 3 w 5 (by simp [sSe]), F1 3 w 6 (by simp [sSe]), F1 3 w 7 (by simp [sSe]), F1 3 w 8 (by simp [sSe]), up_e]
  rw [ea, eg] at c1
  obtain ⟨h1, h2, h3⟩ := see_h (t := t) hm hF hs f1
  have hr := l119a (d := d + 1) (w := w) (k := k) (L := L) (t := t) (I0 := J1) (f := (J1 3 w 4).toNat) (b := aW I t w 1 (gvD I w 0)) aW_1 h2 16 0 rfl
  rw [sr_0] at hr
  refine ⟨_, Eq.trans (P119a_0_0 (c1 := by rw [cp_sr]; exact c1) (g1 := h1)) hr, h3⟩
theorem s119b {I : H3} (hm : mOk I t w) (hF : fcOk I) (hs : snOk I w) : ∃ J, Cal (d + 3) 119 [vr 11 0, vr 3 w, vr 29 k] (mk I L t) = some (vx, mk J L t) ∧ Fr (sSe w) I J ∧ c16 (J 28 w) = seeP (aW I t w) (gvD I w) (I 22 (I 3 w 4).toNat) ∧ c16 (J 29 w) = c16 (I 29 k) ∧ J 3 w 10 = 0 := by
  have F1 : Fr (sSe w) I (up3 (sr I 29 w 16 (I 29 k)) 3 w 10 0) := (Fr.rfl'.wr (fun c _ => by simp [sSe])).up (by simp [sSe])
  have ⟨hm1, ea⟩ := mOk_fr (t := t) F1 (by simp [sSe]) (fun _ _ => ⟨rfl, rfl, rfl, rfl⟩) hm
  obtain ⟨J1, c1, f1⟩ := s114 (d := d) (L := L) (k := 1) (by decide) hm1
  have eg : gvW (up3 (sr I 29 w 16 (I 29 k)) 3 w 10 0) w = gvD I w 0 := by
    unfold gvW gvD
    rw [F1 3 w 5 (by simp [sSe]), F1 3 w 6 (by simp [sSe]), F1 3 w 7 (by simp [sSe]), F1 3 w 8 (by simp [sSe]), up_e]
  rw [ea, eg] at c1
  obtain ⟨h1, h2, h3⟩ := see_h (t := t) hm hF hs f1
  have hr := l119b (d := d + 1) (w := w) (k := k) (L := L) (t := t) (I0 := J1) (f := (J1 3 w 4).toNat) (b := aW I t w 1 (gvD I w 0)) aW_1 h2 16 0 rfl
  rw [sr_0] at hr
  refine ⟨_, Eq.trans (P119b_0_0 (c1 := by rw [cp_sr]; exact c1) (g1 := h1)) hr, h3⟩
end SEE
/-! the nearest by a part -/
theorem apt_abs {a b : Int} (ha : 0 ≤ a ∧ a ≤ 31) (hb : 0 ≤ b ∧ b ≤ 31) : (if 0 ≤ w32 (a - b) then w32 (a - b) else w32 (-(w32 (a - b)))) = aptP a b := by
  unfold aptP
  rw [w32_s (x := a - b) (by omega), w32_s (x := -(a - b)) (by omega), w32_s (x := b - a) (by omega)]
  split <;> split <;> omega
def nbS (F : Nat → Nat → Int) (rv : Int → Int) (a b : Int) (j : Nat) (k : Nat) (s : Int × Int) : Int × Int :=
  if rv k = -1 then s else if s.1 = -1 ∨ w32 (aptP (F (rv k).toNat j) a + aptP (F (rv k).toNat (j + 1)) b) < s.2 then (rv k, w32 (aptP (F (rv k).toNat j) a + aptP (F (rv k).toNat (j + 1)) b)) else s
def nbP (F : Nat → Nat → Int) (rv : Int → Int) (m : Nat → Int) (j : Nat) (part : Int) : Int := (fo (nbS F rv (blrP (m j) part) (blrP (m (j + 1)) part) j) 0 9 (-1, 0)).1
/-- a row that has a face -/
def hasF (rv : Int → Int) : Prop := ∃ k : Nat, k < 9 ∧ rv k ≠ -1
theorem nb_in {F : Nat → Nat → Int} {rv : Int → Int} {a b : Int} {j : Nat} (hr : ∀ p : Int, rv p = -1 ∨ (0 ≤ rv p ∧ rv p < 120)) : ∀ (n k : Nat) (s : Int × Int), (s.1 = -1 ∨ (0 ≤ s.1 ∧ s.1 < 120)) →
    ((fo (nbS F rv a b j) k n s).1 = -1 ∨ (0 ≤ (fo (nbS F rv a b j) k n s).1 ∧ (fo (nbS F rv a b j) k n s).1 < 120)) ∧ ((fo (nbS F rv a b j) k n s).1 = -1 → s.1 = -1 ∧ ∀ i : Nat, k ≤ i → i < k + n → rv i = -1)
  | 0, k, s, h => ⟨h, fun h1 => ⟨h1, fun i h2 h3 => by omega⟩⟩
  | n + 1, k, s, h => by
    rw [fo_s]
    have hs : ((nbS F rv a b j k s).1 = -1 ∨ (0 ≤ (nbS F rv a b j k s).1 ∧ (nbS F rv a b j k s).1 < 120)) ∧ ((nbS F rv a b j k s).1 = -1 → s.1 = -1 ∧ rv k = -1) := by
      unfold nbS
      by_cases h1 : rv k = -1
      · rw [if_pos h1]
        exact ⟨h, fun q => ⟨q, h1⟩⟩
      · rw [if_neg h1]
        split
        · exact ⟨hr k, fun q => absurd q h1⟩
        · next h2 => exact ⟨h, fun q => absurd (Or.inl q) h2⟩
    obtain ⟨i1, i2⟩ := nb_in hr n (k + 1) (nbS F rv a b j k s) hs.1
    refine ⟨i1, fun q => ?_⟩
    obtain ⟨q1, q2⟩ := i2 q
    obtain ⟨q3, q4⟩ := hs.2 q1
    refine ⟨q3, fun i h2 h3 => ?_⟩
    by_cases hi : i = k
    · subst hi
      exact q4
    · exact q2 i (by omega) (by omega)
theorem nbP_in {F : Nat → Nat → Int} {rv : Int → Int} {m : Nat → Int} {j : Nat} {part : Int} (hr : ∀ p : Int, rv p = -1 ∨ (0 ≤ rv p ∧ rv p < 120)) (hh : hasF rv) : 0 ≤ nbP F rv m j part ∧ nbP F rv m j part < 120 := by
  obtain ⟨i1, i2⟩ := nb_in (F := F) (a := blrP (m j) part) (b := blrP (m (j + 1)) part) (j := j) hr 9 0 (-1, 0) (Or.inl rfl)
  rcases i1 with i1 | i1
  · obtain ⟨k, hk, hv⟩ := hh
    exact absurd ((i2 i1).2 k (by omega) (by omega)) hv
  · exact i1
section NEAR
variable {d w r : Nat} {I L : H3} {t : Nat → Nat} {j : Nat} {part : Int}
theorem l123 (hF : fcOk I) (hr : rwOk I r) (hj : j + 1 < 16) {a b : Int} (ha : 0 ≤ a ∧ a ≤ 31) (hb : 0 ≤ b ∧ b ≤ 31) : ∀ (n k : Nat) (s : Int × Int) (u10 u11 u12 : MV), k + n = 9 →
    Res (d + 2) 123 37 [vr 11 0, vr 3 w, vr 4 r, vi (j : Int), vi part, vi a, vi b, vi s.1, vi s.2, vi (k : Int), u10, u11, u12] [] (mk I L t) = some (vi (fo (nbS (I 22) (rv I r) a b j) k n s).1, mk I L t)
  | 0, k, s, u10, u11, u12, hk => P123_37_4 (by omega)
  | n + 1, k, s, u10, u11, u12, hk => by
    have ev : rvP (I 4 r 1) (I 30 r) (k : Int) = rv I r (k : Int) := rfl
    have ej : w32 ((j : Int) + 1) = ((j + 1 : Nat) : Int) := lem_w32k (by omega)
    rw [fo_s]
    by_cases h1 : rv I r (k : Int) = -1
    · have es : nbS (I 22) (rv I r) a b j k s = s := if_pos h1
      rw [es]
      refine Eq.trans (P123_37_3 (by omega) hr.1 (by rw [ev]; exact h1)) ?_
      rw [lem_w32k (by omega), ev]
      exact l123 hF hr hj ha hb n (k + 1) s _ u11 u12 (by omega)
    · have hrng := (hr.2 (k : Int)).resolve_left h1
      have hrng' : (rv I r (k : Int)).toNat < 120 := by
        have h2 : 0 ≤ rv I r (k : Int) ∧ rv I r (k : Int) < 120 := hrng
        omega
      have f1 := hF _ hrng' j (by omega)
      have f2 := hF _ hrng' (j + 1) hj
      have a1 := apt_abs f1 ha
      have a2 := apt_abs f2 hb
      by_cases h3 : s.1 = -1
      · have es : nbS (I 22) (rv I r) a b j k s = (rv I r (k : Int), w32 (aptP (I 22 (rv I r (k : Int)).toNat j) a + aptP (I 22 (rv I r (k : Int)).toNat (j + 1)) b)) := by
          unfold nbS
          rw [if_neg h1, if_pos (Or.inl h3)]
        rw [es]
        refine Eq.trans (P123_37_2 (h1 := by omega) (g1 := hr.1) (h2 := by rw [ev]; exact h1) (g2 := by rw [ev]; exact hrng) (g3 := by omega) (g4 := by rw [ej]; omega) (h3 := h3)) ?_
        rw [lem_w32k (k := k) (by omega), ev, ej, Int.toNat_natCast, Int.toNat_natCast, a1, a2]
        exact l123 hF hr hj ha hb n (k + 1) (_, _) _ _ _ (by omega)
      · by_cases h4 : w32 (aptP (I 22 (rv I r (k : Int)).toNat j) a + aptP (I 22 (rv I r (k : Int)).toNat (j + 1)) b) < s.2
        · have es : nbS (I 22) (rv I r) a b j k s = (rv I r (k : Int), w32 (aptP (I 22 (rv I r (k : Int)).toNat j) a + aptP (I 22 (rv I r (k : Int)).toNat (j + 1)) b)) := by
            unfold nbS
            rw [if_neg h1, if_pos (Or.inr h4)]
          rw [es]
          refine Eq.trans (P123_37_0 (h1 := by omega) (g1 := hr.1) (h2 := by rw [ev]; exact h1) (g2 := by rw [ev]; exact hrng) (g3 := by omega) (g4 := by rw [ej]; omega) (h3 := h3) (h4 := by rw [ev, ej, Int.toNat_natCast, Int.toNat_natCast, a1, a2]; exact h4)) ?_
          rw [lem_w32k (k := k) (by omega), ev, ej, Int.toNat_natCast, Int.toNat_natCast, a1, a2]
          exact l123 hF hr hj ha hb n (k + 1) (_, _) _ _ _ (by omega)
        · have es : nbS (I 22) (rv I r) a b j k s = s := by
            unfold nbS
            rw [if_neg h1, if_neg (fun q => q.elim h3 h4)]
          rw [es]
          refine Eq.trans (P123_37_1 (h1 := by omega) (g1 := hr.1) (h2 := by rw [ev]; exact h1) (g2 := by rw [ev]; exact hrng) (g3 := by omega) (g4 := by rw [ej]; omega) (h3 := h3) (h4 := by rw [ev, ej, Int.toNat_natCast, Int.toNat_natCast, a1, a2]; omega)) ?_
          rw [lem_w32k (by omega), ev]
          exact l123 hF hr hj ha hb n (k + 1) s _ _ _ (by omega)
theorem s123 (hF : fcOk I) (hr : rwOk I r) (h31 : R31 (I 28 w)) (hj : j + 1 < 16) (hp : 0 ≤ part ∧ part ≤ 15) : Cal (d + 2) 123 [vr 11 0, vr 3 w, vr 4 r, vi (j : Int), vi part] (mk I L t) = some (vi (nbP (I 22) (rv I r) (I 28 w) j part), mk I L t) := by
  have ej : w32 ((j : Int) + 1) = ((j + 1 : Nat) : Int) := lem_w32k (by omega)
  refine Eq.trans (P123_0_0 (g1 := by omega) (g2 := hp) (g3 := h31 j (by omega)) (g4 := by rw [ej]; omega) (g5 := by rw [ej]; exact h31 (j + 1) hj)) ?_
  rw [ej]
  exact l123 hF hr hj (blrP_in _ _) (blrP_in _ _) 9 0 (-1, 0) vx vx vx rfl
end NEAR
/-! a face put together -/
/-- after p parts -/
def cmS (F : Nat → Nat → Int) (nb : Nat → Int) (p j : Nat) : Int :=
  if j < 12 then (if j < 2 * p then F (nb (j / 2)).toNat j else 0) else fo (fun q a => w32 (a + F (nb q).toNat j)) 0 p 0
def cmP (F : Nat → Nat → Int) (nb : Nat → Int) : Nat → Int := fun j => if j < 12 then F (nb (j / 2)).toNat j else if j < 16 then vIdiv (fo (fun q a => w32 (a + F (nb q).toNat j)) 0 6 0) 6 else 0
def s16 (r _ _ : Nat) : Bool := r == 16
def sCm (r _ _ : Nat) : Bool := r == 13 || r == 16 || r == 27
section COMP
variable {d w r : Nat} {L : H3} {t : Nat → Nat} {I0 : H3} {part : Int} {nb : Nat → Int}
theorem l122i {p f : Nat} (hp : p < 6) (hf : (nb p).toNat = f) : ∀ (n j : Nat) (I : H3) , j + n = 16 → 12 ≤ j → Fr s16 I0 I → (∀ c, c < 16 → I 16 0 c = if c < 12 ∨ c < j then cmS (I0 22) nb (p + 1) c else cmS (I0 22) nb p c) →
    ∃ J, Res (d + 1) 122 100 [vr 11 0, vr 3 w, vr 4 r, vi part, vr 16 0, vi (p : Int), vi (nb p), vr 22 f, vi (j : Int)] [] (mk I L t) = Res (d + 1) 122 26 [vr 11 0, vr 3 w, vr 4 r, vi part, vr 16 0, vi ((p + 1 : Nat) : Int), vi (nb p), vr 22 f, vi 16] [] (mk J L t) ∧ Fr s16 I0 J ∧ ∀ c, c < 16 → J 16 0 c = cmS (I0 22) nb (p + 1) c
  | 0, j, I, hj, h12, hF, hc => by
    have hk' : j = 16 := by omega
    subst hk'
    refine ⟨I, Eq.trans (P122_100_1 (by omega)) ?_, hF, fun c h => ?_⟩
    · rw [lem_w32k (by omega)]
      rfl
    · rw [hc c h, if_pos (Or.inr h)]
  | n + 1, j, I, hj, h12, hF, hc => by
    have e22 : I 22 = I0 22 := hF.rg (fun _ _ => rfl)
    have ev : w32 (I 16 0 ((j : Int).toNat) + I 22 f ((j : Int).toNat)) = cmS (I0 22) nb (p + 1) j := by
      rw [Int.toNat_natCast, hc j (by omega), if_neg (by omega), e22]
      unfold cmS
      rw [if_neg (by omega), if_neg (by omega), fo_e, Nat.zero_add, hf]
    obtain ⟨J, hr, hJ⟩ := l122i hp hf n (j + 1) (up3 I 16 0 j (cmS (I0 22) nb (p + 1) j)) (by omega) (by omega) (hF.up rfl) (fun c h => by
      by_cases hcj : c = j
      · subst hcj
        rw [up_e, if_pos (by omega)]
      · rw [up_s hcj, hc c h]
        by_cases h1 : c < 12 ∨ c < j
        · rw [if_pos h1, if_pos (by omega)]
        · rw [if_neg h1, if_neg (by omega)])
    refine ⟨J, Eq.trans (P122_100_0 (h1 := by omega) (g1 := by omega)) ?_, hJ⟩
    rw [ev, lem_w32k (by omega)]
    exact hr
theorem l122 (hF0 : fcOk I0) (hr : rwOk I0 r) (h31 : R31 (I0 28 w)) (hp : 0 ≤ part ∧ part ≤ 15) (hh : hasF (rv I0 r)) (hnb : nb = fun p => nbP (I0 22) (rv I0 r) (I0 28 w) (2 * p) part) : ∀ (n p : Nat) (I : H3) (u6 u7 u8 : MV), p + n = 6 → Fr s16 I0 I → (∀ c, c < 16 → I 16 0 c = cmS (I0 22) nb p c) →
    ∃ J, ∃ u6' u7' u8' : MV, Res (d + 3) 122 26 [vr 11 0, vr 3 w, vr 4 r, vi part, vr 16 0, vi (p : Int), u6, u7, u8] [] (mk I L t) = Res (d + 3) 122 136 [vr 11 0, vr 3 w, vr 4 r, vi part, vr 16 0, vi 12, u6', u7', u8'] [] (mk J L t) ∧ Fr s16 I0 J ∧ ∀ c, c < 16 → J 16 0 c = cmS (I0 22) nb 6 c
  | 0, p, I, u6, u7, u8, hk, hF, hc => by
    have hk' : p = 6 := by omega
    subst hk'
    exact ⟨I, u6, u7, u8, P122_26_2 (by omega), hF, hc⟩
  | n + 1, p, I, u6, u7, u8, hk, hF, hc => by
    have e22 : I 22 = I0 22 := hF.rg (fun _ _ => rfl)
    have e28 : I 28 = I0 28 := hF.rg (fun _ _ => rfl)
    have e4 : I 4 = I0 4 := hF.rg (fun _ _ => rfl)
    have e30 : I 30 = I0 30 := hF.rg (fun _ _ => rfl)
    have er : rv I r = rv I0 r := by unfold rv; rw [e4, e30]
    have e2 : w32 (2 * (p : Int)) = ((2 * p : Nat) : Int) := by rw [w32_s (by omega)]; omega
    have e3 : w32 (((2 * p : Nat) : Int) + 1) = ((2 * p + 1 : Nat) : Int) := lem_w32k (by omega)
    have c1 := s123 (d := d) (w := w) (r := r) (I := I) (L := L) (t := t) (j := 2 * p) (part := part) (by unfold fcOk; rw [e22]; exact hF0) (by unfold rwOk; rw [e4, e30]; exact hr) (by rw [e28]; exact h31) (by omega) hp
    have enb : nbP (I 22) (rv I r) (I 28 w) (2 * p) part = nb p := by rw [e22, er, e28, hnb]
    rw [enb] at c1
    have hin : 0 ≤ nb p ∧ nb p < 120 := by rw [hnb]; exact nbP_in hr.2 hh
    obtain ⟨J1, hr1, hF1, hc1⟩ := l122i (d := d + 2) (w := w) (r := r) (L := L) (t := t) (I0 := I0) (part := part) (nb := nb) (p := p) (f := (nb p).toNat) (by omega) rfl 4 12 (up3 (up3 I 16 0 (2 * p) (I 22 (nb p).toNat (2 * p))) 16 0 (2 * p + 1) (I 22 (nb p).toNat (2 * p + 1))) rfl (by decide) ((hF.up rfl).up rfl) (fun c h => by
      by_cases h1 : c = 2 * p + 1
      · subst h1
        rw [up_e, if_pos (by omega), e22]
        unfold cmS
        rw [if_pos (by omega), if_pos (by omega), show (2 * p + 1) / 2 = p by omega]
      · rw [up_s h1]
        by_cases h2 : c = 2 * p
        · subst h2
          rw [up_e, if_pos (by omega), e22]
          unfold cmS
          rw [if_pos (by omega), if_pos (by omega), show 2 * p / 2 = p by omega]
        · rw [up_s h2, hc c h]
          by_cases h3 : c < 12
          · rw [if_pos (by omega)]
            unfold cmS
            rw [if_pos h3, if_pos h3]
            by_cases h4 : c < 2 * p
            · rw [if_pos h4, if_pos (by omega)]
            · rw [if_neg h4, if_neg (by omega)]
          · rw [if_neg (by omega)])
    obtain ⟨J, v6, v7, v8, hr2, hJ⟩ := l122 hF0 hr h31 hp hh hnb n (p + 1) J1 (vi (nb p)) (vr 22 (nb p).toNat) (vi 16) (by omega) hF1 hc1
    refine ⟨J, v6, v7, v8, Eq.trans (P122_26_0 (h1 := by omega) (c1 := by rw [e2]; exact c1) (h2 := by omega) (g1 := hin) (g2 := by rw [e2]; omega) (g3 := by rw [e2, e3]; omega)) ?_, hJ⟩
    rw [e2, e3]
    exact Eq.trans hr1 hr2
theorem l122d {g : Nat → Int} : ∀ (n j : Nat) (I : H3) (u6 u7 u8 : MV), j + n = 16 → 12 ≤ j → Fr s16 I0 I → (∀ c, c < 16 → I 16 0 c = if 12 ≤ c ∧ c < j then vIdiv (g c) 6 else g c) →
    ∃ J, Res (d + 1) 122 136 [vr 11 0, vr 3 w, vr 4 r, vi part, vr 16 0, vi (j : Int), u6, u7, u8] [] (mk I L t) = some (vx, mk J L t) ∧ Fr s16 I0 J ∧ ∀ c, c < 16 → J 16 0 c = if 12 ≤ c then vIdiv (g c) 6 else g c
  | 0, j, I, u6, u7, u8, hj, h12, hF, hc => by
    refine ⟨I, P122_136_1 (by omega), hF, fun c h => ?_⟩
    rw [hc c h]
    by_cases h1 : 12 ≤ c
    · rw [if_pos ⟨h1, by omega⟩, if_pos h1]
    · rw [if_neg (by omega), if_neg h1]
  | n + 1, j, I, u6, u7, u8, hj, h12, hF, hc => by
    obtain ⟨J, hr, hJ⟩ := l122d (g := g) n (j + 1) (up3 I 16 0 j (vIdiv (g j) 6)) u6 u7 u8 (by omega) (by omega) (hF.up rfl) (fun c h => by
      by_cases hcj : c = j
      · subst hcj
        rw [up_e, if_pos (by omega)]
      · rw [up_s hcj, hc c h]
        by_cases h1 : 12 ≤ c ∧ c < j
        · rw [if_pos h1, if_pos (by omega)]
        · rw [if_neg h1, if_neg (by omega)])
    refine ⟨J, Eq.trans (P122_136_0 (h1 := by omega) (g1 := by omega)) ?_, hJ⟩
    rw [lem_w32k (by omega), Int.toNat_natCast, hc j (by omega), if_neg (by omega)]
    exact hr
/-- what a mind puts together out of a row -/
def npW (I : H3) (t : Nat → Nat) (w : Nat) (rw' : Int → Int) (p : Nat) : Int := nbP (I 22) rw' (I 28 w) (2 * p) (aW I t w 7 (gvW I w))
theorem s122 {I : H3} (hm : mOk I t w) (hF0 : fcOk I) (hr : rwOk I r) (h31 : R31 (I 28 w)) (hh : hasF (rv I r)) :
    ∃ J, Cal (d + 3) 122 [vr 11 0, vr 3 w, vr 4 r] (mk I L t) = some (vx, mk J L t) ∧ Fr sCm I J ∧ c16 (J 16 0) = cmP (I 22) (npW I t w (rv I r)) := by
  obtain ⟨J1, c1, f1⟩ := s114 (d := d) (L := L) (k := 7) (by decide) hm
  have c2 := s249 (d := d + 2) (r := 16) (i := 0) (n := 16) (x := 0) (I := J1) (L := L) (t := t) rfl rfl rfl (by decide) (by decide)
  have F1 : Fr sCm I (sr J1 16 0 16 (fun _ => 0)) := (f1.mo (fun r i c h => by
    simp only [sCm, Bool.or_eq_false_iff] at h
    simp only [sAsk, Bool.or_eq_false_iff]
    exact ⟨h.1.1, h.2⟩)).wr (fun _ _ => rfl)
  have e22 : sr J1 16 0 16 (fun _ => 0) 22 = I 22 := F1.rg (fun _ _ => rfl)
  have e28 : sr J1 16 0 16 (fun _ => 0) 28 = I 28 := F1.rg (fun _ _ => rfl)
  have e4 : sr J1 16 0 16 (fun _ => 0) 4 = I 4 := F1.rg (fun _ _ => rfl)
  have e30 : sr J1 16 0 16 (fun _ => 0) 30 = I 30 := F1.rg (fun _ _ => rfl)
  have er : rv (sr J1 16 0 16 (fun _ => 0)) r = rv I r := by unfold rv; rw [e4, e30]
  obtain ⟨J2, v6, v7, v8, hr2, hF2, hc2⟩ := l122 (d := d) (w := w) (r := r) (L := L) (t := t) (I0 := sr J1 16 0 16 (fun _ => 0)) (part := aW I t w 7 (gvW I w)) (nb := npW I t w (rv I r)) (by unfold fcOk; rw [e22]; exact hF0) (by unfold rwOk; rw [e4, e30]; exact hr) (by rw [e28]; exact h31) aW_7 (by rw [er]; exact hh) (by rw [e22, er, e28]; rfl) 6 0 _ vx vx vx rfl Fr.rfl' (fun c h => by
    rw [sr_lt h]
    unfold cmS
    split
    · rw [if_neg (by omega)]
    · rfl)
  obtain ⟨J, hr3, hF3, hc3⟩ := l122d (d := d + 2) (w := w) (r := r) (L := L) (t := t) (I0 := sr J1 16 0 16 (fun _ => 0)) (part := aW I t w 7 (gvW I w)) (g := cmS (I 22) (npW I t w (rv I r)) 6) 4 12 J2 v6 v7 v8 rfl (by decide) hF2 (fun c h => by
    rw [if_neg (by omega), hc2 c h, e22])
  refine ⟨J, Eq.trans (P122_0_0 (c1 := c1) (c2 := c2)) (Eq.trans hr2 hr3), F1.tr (hF3.mo (fun r i c h => ?_)), ?_⟩
  · simp only [sCm, Bool.or_eq_false_iff] at h
    exact h.1.2
  · funext c
    unfold cmP c16
    by_cases h : c < 16
    · rw [if_pos h, hc3 c h]
      unfold cmS
      by_cases h1 : c < 12
      · rw [if_neg (by omega), if_pos h1, if_pos h1, if_pos (by omega)]
      · rw [if_pos (by omega), if_neg h1, if_neg h1, if_pos h]
    · rw [if_neg h, if_neg (by omega), if_neg h]
end COMP
