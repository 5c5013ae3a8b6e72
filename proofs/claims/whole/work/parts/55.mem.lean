/-! memories: pulled, faded, seen -/
theorem w32_comm (a b : Int) : w32 (a * b) = w32 (b * a) := by rw [Int.mul_comm]
theorem pul_c (b : Int) (o m : Nat → Int) : pulP b (c16 o) (c16 m) = pulP b o m := by
  funext j
  unfold pulP
  split
  · next h => rw [c16_lt h, c16_lt h]
  · rfl
theorem pul_c1 (b : Int) (o m : Nat → Int) : pulP b (c16 o) m = pulP b o m := by
  funext j
  unfold pulP
  split
  · next h => rw [c16_lt h]
  · rfl
theorem pul_c2 (b : Int) (o m : Nat → Int) : pulP b o (c16 m) = pulP b o m := by
  funext j
  unfold pulP
  split
  · next h => rw [c16_lt h]
  · rfl
theorem c16_pul (b : Int) (o m : Nat → Int) : c16 (pulP b o m) = pulP b o m := by
  funext j
  unfold c16
  split
  · rfl
  · next h =>
    unfold pulP
    rw [if_neg h]
theorem tdiv100 {P x : Int} (h : (0 ≤ P ∧ P ≤ 100 * x) ∨ (100 * x ≤ P ∧ P ≤ 0)) : (0 ≤ P.tdiv 100 ∧ P.tdiv 100 ≤ x) ∨ (x ≤ P.tdiv 100 ∧ P.tdiv 100 ≤ 0) := by
  rcases h with h | h
  · left
    rw [Int.tdiv_eq_ediv_of_nonneg h.1]
    omega
  · right
    have e : P = -(-P) := by omega
    rw [e, Int.neg_tdiv, Int.tdiv_eq_ediv_of_nonneg (show 0 ≤ -P by omega)]
    omega
theorem pul_in {b : Int} {o m : Nat → Int} (hb : 0 ≤ b ∧ b ≤ 100) (ho : R31 o) (hm : R31 m) : R31 (pulP b o m) := by
  intro j hj
  have h1 := ho j hj
  have h2 := hm j hj
  unfold pulP
  rw [if_pos hj, w32_s (x := o j - m j) (by omega)]
  have hP : (0 ≤ b * (o j - m j) ∧ b * (o j - m j) ≤ 100 * (o j - m j)) ∨ (100 * (o j - m j) ≤ b * (o j - m j) ∧ b * (o j - m j) ≤ 0) := by
    by_cases h : 0 ≤ o j - m j
    · exact Or.inl ⟨Int.mul_nonneg hb.1 h, Int.mul_le_mul_of_nonneg_right hb.2 h⟩
    · right
      have e1 : b * (o j - m j) = -(b * (m j - o j)) := by rw [← Int.mul_neg]; congr 1; omega
      have a1 : 0 ≤ b * (m j - o j) := Int.mul_nonneg hb.1 (by omega)
      have a2 : b * (m j - o j) ≤ 100 * (m j - o j) := Int.mul_le_mul_of_nonneg_right hb.2 (by omega)
      rw [e1]
      omega
  rw [w32_s (x := b * (o j - m j)) (by omega), vIdiv_eq (by omega) (by omega)]
  have hq := tdiv100 hP
  rw [w32_s (x := (b * (o j - m j)).tdiv 100) (by omega), w32_s (by omega)]
  omega
theorem pul_0 {o m : Nat → Int} {j : Nat} (hj : j < 16) (hm : R31 m) : pulP 0 o m j = m j := by
  have h2 := hm j hj
  unfold pulP
  rw [if_pos hj, Int.zero_mul]
  have e : vIdiv (w32 0) 100 = 0 := by decide +kernel
  rw [e, Int.add_zero, w32_s (by omega)]
theorem sr_self {I : H3} {r i n : Nat} {f : Nat → Int} (h : ∀ c, c < n → f c = I r i c) : sr I r i n f = I := by
  funext a b c
  unfold sr
  split
  · next k => rw [k.1, k.2.1, h c k.2.2]
  · rfl
theorem sr_cg {I : H3} {r i n : Nat} {f g : Nat → Int} (h : ∀ c, c < n → f c = g c) : sr I r i n f = sr I r i n g := by
  funext a b c
  unfold sr
  split
  · next k => exact h c k.2.2
  · rfl
section PULL
variable {d w r1 i1 : Nat} {I L : H3} {t : Nat → Nat} {o : Nat → Int} {b : Int}
theorem l23 (hb : b ≠ 0) (ha : alen 0 r1 i1 = 16) (ho : ∀ n f c, c < 16 → ldI (mk (sr I 28 w n f) L t) r1 i1 c = o c) : ∀ (n k : Nat), k + n = 16 →
    Res d 23 2 [vr 3 w, vr r1 i1, vi b, vi (k : Int)] [] (mk (sr I 28 w k (pulP b o (I 28 w))) L t) = some (vx, mk (sr I 28 w 16 (pulP b o (I 28 w))) L t)
  | 0, k, hk => by
    have hk' : k = 16 := by omega
    subst hk'
    exact P23_2_2 (by omega)
  | n + 1, k, hk => by
    refine Eq.trans (P23_2_0 (n1 := 16) (h1 := by omega) (h2 := hb) (g1 := by omega) (g2 := by rw [ha]; rfl) (g3 := by omega)) ?_
    rw [lem_w32k (by omega), Int.toNat_natCast, ho _ _ _ (by omega), sr_ge (Nat.le_refl k)]
    have e : w32 (I 28 w k + vIdiv (w32 (b * w32 (o k - I 28 w k))) 100) = pulP b o (I 28 w) k := by
      unfold pulP
      rw [if_pos (by omega)]
    rw [e, sr_s]
    exact l23 hb ha ho n (k + 1) (by omega)
theorem s23 (hm : R31 (I 28 w)) (ha : alen 0 r1 i1 = 16) (ho : ∀ n f c, c < 16 → ldI (mk (sr I 28 w n f) L t) r1 i1 c = o c) : Cal d 23 [vr 3 w, vr r1 i1, vi b] (mk I L t) = some (vx, mk (sr I 28 w 16 (pulP b o (I 28 w))) L t) := by
  refine Eq.trans P23_0_0 ?_
  by_cases hb : b = 0
  · subst hb
    refine Eq.trans (P23_2_1 (by decide) rfl) ?_
    rw [sr_self (fun c hc => pul_0 hc hm)]
  · have := l23 (d := d) (L := L) (t := t) hb ha ho 16 0 rfl
    rw [sr_0] at this
    exact this
end PULL
/-- as often -/
def waP {α : Type} (f : α → α) : Nat → α → α
  | 0, a => a
  | n + 1, a => waP f n (f a)
theorem waP_add {α : Type} (f : α → α) : ∀ (n m : Nat) (a : α), waP f (n + m) a = waP f m (waP f n a)
  | 0, m, a => by rw [Nat.zero_add]; rfl
  | n + 1, m, a => by
    rw [show n + 1 + m = (n + m) + 1 by omega]
    exact waP_add f n m (f a)
/-- a day: the memory and the days -/
def dayP (A : Nat → (Nat → Int) → Int) (G : Int → Nat → Int) (ty : Nat → Int) (s : (Nat → Int) × Int) : (Nat → Int) × Int := (pulP (A 2 (G s.2)) ty s.1, w32 (s.2 + 1))
def gvD (I : H3) (w : Nat) (dy : Int) : Nat → Int := gvB (I 3 w 5) (I 3 w 6) (I 3 w 7) dy (I 3 w 8)
def sMm (w r i _ : Nat) : Bool := r == 13 || r == 27 || (r == 28 && i == w)
def sMd (w r i c : Nat) : Bool := r == 13 || r == 27 || (r == 28 && i == w) || (r == 3 && i == w && c == 10)
theorem sAsk_Mm {w : Nat} {I J : H3} (h : Fr sAsk I J) : Fr (sMm w) I J := h.mo (fun r i c k => by
  simp only [sMm, Bool.or_eq_false_iff] at k
  simp only [sAsk, Bool.or_eq_false_iff]
  exact k.1)
theorem sMm_Md {w : Nat} {I J : H3} (h : Fr (sMm w) I J) : Fr (sMd w) I J := h.mo (fun r i c k => by
  simp only [sMd, Bool.or_eq_false_iff] at k
  simp only [sMm, Bool.or_eq_false_iff]
  exact k.1)
theorem mOk_fr {S : Nat → Nat → Nat → Bool} {I J : H3} {t : Nat → Nat} {w : Nat} (k : Fr S I J) (h3 : S 3 w 2 = false) (h : ∀ i c, S 23 i c = false ∧ S 24 i c = false ∧ S 25 i c = false ∧ S 26 i c = false) (hm : mOk I t w) : mOk J t w ∧ aW J t w = aW I t w := by
  have e : J 3 w 2 = I 3 w 2 := k 3 w 2 h3
  have e23 : J 23 = I 23 := k.rg (fun i c => (h i c).1)
  have e24 : J 24 = I 24 := k.rg (fun i c => (h i c).2.1)
  have e25 : J 25 = I 25 := k.rg (fun i c => (h i c).2.2.1)
  have e26 : J 26 = I 26 := k.rg (fun i c => (h i c).2.2.2)
  constructor
  · unfold mOk
    rw [e, hC_cg e23 e24 e25 e26]
    exact ⟨hm.1, hOk_cg e25 e26 hm.2.1, hm.2.2⟩
  · unfold aW
    rw [e, hC_cg e23 e24 e25 e26]
theorem r2_100 : rom 0 2 = 0 ∧ rom 1 2 = 100 ∧ rom 0 3 = 0 ∧ rom 1 3 = 100 ∧ rom 0 1 = 0 ∧ rom 1 1 = 15 ∧ rom 0 7 = 0 ∧ rom 1 7 = 15 ∧ rom 0 6 = 0 ∧ rom 1 6 = 100 := by decide +kernel
theorem aW_2 {I : H3} {t : Nat → Nat} {w : Nat} {g : Nat → Int} : 0 ≤ aW I t w 2 g ∧ aW I t w 2 g ≤ 100 := by
  have := aW_in (I := I) (t := t) (w := w) (k := 2) (g := g) (by decide)
  rwa [r2_100.1, r2_100.2.1] at this
theorem aW_3 {I : H3} {t : Nat → Nat} {w : Nat} {g : Nat → Int} : 0 ≤ aW I t w 3 g ∧ aW I t w 3 g ≤ 100 := by
  have := aW_in (I := I) (t := t) (w := w) (k := 3) (g := g) (by decide)
  rwa [r2_100.2.2.1, r2_100.2.2.2.1] at this
theorem aW_1 {I : H3} {t : Nat → Nat} {w : Nat} {g : Nat → Int} : 0 ≤ aW I t w 1 g ∧ aW I t w 1 g ≤ 15 := by
  have := aW_in (I := I) (t := t) (w := w) (k := 1) (g := g) (by decide)
  rwa [r2_100.2.2.2.2.1, r2_100.2.2.2.2.2.1] at this
theorem aW_7 {I : H3} {t : Nat → Nat} {w : Nat} {g : Nat → Int} : 0 ≤ aW I t w 7 g ∧ aW I t w 7 g ≤ 15 := by
  have := aW_in (I := I) (t := t) (w := w) (k := 7) (g := g) (by decide)
  rwa [r2_100.2.2.2.2.2.2.1, r2_100.2.2.2.2.2.2.2.1] at this
section WAIT
variable {d w : Nat} {I0 L : H3} {t : Nat → Nat}
theorem l120 (hm : mOk I0 t w) (hty : R31 (I0 29 w)) {N : Int} : ∀ (n k : Nat) (I : H3), (N ≤ (k : Int) → n = 0) → ((k : Int) < N → (k : Int) + n = N) → k + n < 1000000 → Fr (sMd w) I0 I → R31 (I 28 w) →
    ∃ J, Res (d + 3) 120 2 [vr 11 0, vr 3 w, vi N, vi (k : Int)] [] (mk I L t) = some (vx, mk J L t) ∧ Fr (sMd w) I0 J ∧ (c16 (J 28 w), J 3 w 10) = waP (dayP (aW I0 t w) (gvD I0 w) (I0 29 w)) n (c16 (I 28 w), I 3 w 10) ∧ R31 (J 28 w)
  | 0, k, I, h0, h1, hb, hF, h31 => ⟨I, P120_2_1 (by by_cases h : (k : Int) < N; have := h1 h; omega; omega), hF, rfl, h31⟩
  | n + 1, k, I, h0, h1, hb, hF, h31 => by
    have hlt : (k : Int) < N := by
      by_cases h : N ≤ (k : Int)
      · have := h0 h
        omega
      · omega
    have hN := h1 hlt
    have ⟨hm1, ea⟩ := mOk_fr (t := t) hF (by simp [sMd]) (fun _ _ => ⟨rfl, rfl, rfl, rfl⟩) hm
    obtain ⟨J1, c1, f1⟩ := s114 (d := d) (L := L) (k := 2) (by decide) hm1
    have eg : gvW I w = gvD I0 w (I 3 w 10) := by
      unfold gvW gvD
      rw [hF 3 w 5 (by simp [sMd]), hF 3 w 6 (by simp [sMd]), hF 3 w 7 (by simp [sMd]), hF 3 w 8 (by simp [sMd])]
    rw [ea, eg] at c1
    have e28 : J1 28 w = I 28 w := f1.ri (fun _ => rfl)
    have e29 : J1 29 w = I0 29 w := (f1.ri (fun _ => rfl)).trans (hF.ri (fun _ => rfl))
    have c2 := s23 (d := d + 2) (w := w) (I := J1) (L := L) (t := t) (r1 := 29) (i1 := w) (o := I0 29 w) (b := aW I0 t w 2 (gvD I0 w (I 3 w 10))) (by rw [e28]; exact h31) rfl (fun m f c hc => by show sr J1 28 w m f 29 w c = _; rw [sr_r (by decide), e29])
    rw [e28] at c2
    have e10 : J1 3 w 10 = I 3 w 10 := f1 3 w 10 rfl
    have F2 : Fr (sMd w) I0 (up3 (sr J1 28 w 16 (pulP (aW I0 t w 2 (gvD I0 w (I 3 w 10))) (I0 29 w) (I 28 w))) 3 w 10 (w32 (I 3 w 10 + 1))) :=
      ((hF.tr (sMm_Md (sAsk_Mm f1))).wr (fun c _ => by simp [sMd])).up (by simp [sMd])
    have e2 : c16 (up3 (sr J1 28 w 16 (pulP (aW I0 t w 2 (gvD I0 w (I 3 w 10))) (I0 29 w) (I 28 w))) 3 w 10 (w32 (I 3 w 10 + 1)) 28 w) = pulP (aW I0 t w 2 (gvD I0 w (I 3 w 10))) (I0 29 w) (I 28 w) := by
      rw [up_r (by decide), sr_c16, c16_pul]
    have h31' : R31 (up3 (sr J1 28 w 16 (pulP (aW I0 t w 2 (gvD I0 w (I 3 w 10))) (I0 29 w) (I 28 w))) 3 w 10 (w32 (I 3 w 10 + 1)) 28 w) := by
      apply R31.c
      rw [e2]
      exact pul_in aW_2 hty h31
    obtain ⟨J, hr, hJ, hv, hj31⟩ := l120 (N := N) hm hty n (k + 1) _ (fun h => by omega) (fun h => by omega) (by omega) F2 h31'
    refine ⟨J, Eq.trans (P120_2_0 (h1 := hlt) (c1 := c1) (c2 := c2)) ?_, hJ, ?_, hj31⟩
    · have ex : sr J1 28 w 16 (pulP (aW I0 t w 2 (gvD I0 w (I 3 w 10))) (I0 29 w) (I 28 w)) 3 w 10 = I 3 w 10 := by rw [sr_r (by decide), e10]
      rw [ex, lem_w32k (by omega)]
      exact hr
    · rw [hv, e2, up_e]
      show _ = waP (dayP (aW I0 t w) (gvD I0 w) (I0 29 w)) n (dayP (aW I0 t w) (gvD I0 w) (I0 29 w) (c16 (I 28 w), I 3 w 10))
      unfold dayP
      rw [pul_c2]
/-- n days: what becomes of a memory -/
theorem s120 {I : H3} (hm : mOk I t w) (hty : R31 (I 29 w)) (h31 : R31 (I 28 w)) {N : Int} (hN : N < 100000) :
    ∃ J, Cal (d + 3) 120 [vr 11 0, vr 3 w, vi N] (mk I L t) = some (vx, mk J L t) ∧ Fr (sMd w) I J ∧ (c16 (J 28 w), J 3 w 10) = waP (dayP (aW I t w) (gvD I w) (I 29 w)) N.toNat (c16 (I 28 w), I 3 w 10) ∧ R31 (J 28 w) := by
  obtain ⟨J, hr, h⟩ := l120 (d := d) (L := L) (N := N) hm hty N.toNat 0 I (fun h => by omega) (fun h => by omega) (by omega) Fr.rfl' h31
  exact ⟨J, Eq.trans P120_0_0 hr, h⟩
end WAIT
/-- pulled by what was shown -/
def shwS (F : Nat → Nat → Int) (rv : Int → Int) (half : Int) (k : Nat) (m : Nat → Int) : Nat → Int := if rv k = -1 then m else pulP half (F (rv k).toNat) m
def shwP (F : Nat → Nat → Int) (rv : Int → Int) (pull pick : Int) (m : Nat → Int) : Nat → Int :=
  let m1 := fo (shwS F rv (vIdiv pull 2)) 0 9 m
  if rv pick = -1 then m1 else pulP pull (F (rv pick).toNat) m1
theorem half_in {p : Int} (h : 0 ≤ p ∧ p ≤ 100) : 0 ≤ vIdiv p 2 ∧ vIdiv p 2 ≤ 100 := by
  rw [vIdiv_pos (by omega) (by omega)]
  omega
section SHOWN
variable {d w i : Nat} {I0 L : H3} {t : Nat → Nat} {pull : Int}
theorem l121 (hp : 0 ≤ pull ∧ pull ≤ 100) (hF0 : fcOk I0) (hr : rwOk I0 (6 + i)) : ∀ (n k : Nat) (I : H3) (u : MV), k + n = 9 → Fr (sMm w) I0 I → R31 (I 28 w) →
    ∃ J, Res (d + 1) 121 10 [vr 11 0, vr 3 w, vr 6 i, vi pull, vi (k : Int), u] [] (mk I L t) = some (vx, mk J L t) ∧ Fr (sMm w) I0 J ∧ R31 (J 28 w) ∧
      c16 (J 28 w) = (let m1 := fo (shwS (I0 22) (rv I0 (6 + i)) (vIdiv pull 2)) k n (c16 (I 28 w)); if rv I0 (6 + i) (I0 6 i 6) = -1 then m1 else pulP pull (I0 22 (rv I0 (6 + i) (I0 6 i 6)).toNat) m1)
  | 0, k, I, u, hk, hF, h31 => by
    have e4 : I 4 = I0 4 := hF.rg (fun _ _ => rfl)
    have e30 : I 30 = I0 30 := hF.rg (fun _ _ => rfl)
    have e6 : I 6 = I0 6 := hF.rg (fun _ _ => rfl)
    have e22 : I 22 = I0 22 := hF.rg (fun _ _ => rfl)
    have ev : rvP (I 4 (6 + i) 1) (I 30 (6 + i)) (I 6 i 6) = rv I0 (6 + i) (I0 6 i 6) := by rw [e4, e30, e6]; rfl
    have hb : I 4 (6 + i) 1 ≤ 9 := by rw [e4]; exact hr.1
    rw [fo_0]
    by_cases h1 : rv I0 (6 + i) (I0 6 i 6) = -1
    · refine ⟨I, P121_10_3 (by omega) hb (by rw [ev]; exact h1), hF, h31, ?_⟩
      show _ = if rv I0 (6 + i) (I0 6 i 6) = -1 then _ else _
      rw [if_pos h1]
    · have hrng := (hr.2 (I0 6 i 6)).resolve_left h1
      have c1 := s23 (d := d) (w := w) (I := I) (L := L) (t := t) (r1 := 22) (i1 := (rv I0 (6 + i) (I0 6 i 6)).toNat) (o := I0 22 (rv I0 (6 + i) (I0 6 i 6)).toNat) (b := pull) h31 rfl (fun m f c hc => by show sr I 28 w m f 22 _ c = _; rw [sr_r (by decide), e22])
      refine ⟨_, P121_10_2 (h1 := by omega) (g1 := hb) (h2 := by rw [ev]; exact h1) (g2 := by rw [ev]; exact hrng) (c1 := by rw [ev]; exact c1), hF.wr (fun c _ => by simp [sMm]), ?_, ?_⟩
      · apply R31.c
        rw [sr_c16, c16_pul]
        exact pul_in hp (hF0 _ (by have := hrng.1; have := hrng.2; show (rvP (I0 4 (6 + i) 1) (I0 30 (6 + i)) (I0 6 i 6)).toNat < 120; omega)) h31
      · show _ = if rv I0 (6 + i) (I0 6 i 6) = -1 then _ else _
        rw [if_neg h1, sr_c16, c16_pul, pul_c2]
  | n + 1, k, I, u, hk, hF, h31 => by
    have e4 : I 4 = I0 4 := hF.rg (fun _ _ => rfl)
    have e30 : I 30 = I0 30 := hF.rg (fun _ _ => rfl)
    have e22 : I 22 = I0 22 := hF.rg (fun _ _ => rfl)
    have ev : rvP (I 4 (6 + i) 1) (I 30 (6 + i)) (k : Int) = rv I0 (6 + i) (k : Int) := by rw [e4, e30]; rfl
    have hb : I 4 (6 + i) 1 ≤ 9 := by rw [e4]; exact hr.1
    rw [fo_s]
    by_cases h1 : rv I0 (6 + i) (k : Int) = -1
    · have es : shwS (I0 22) (rv I0 (6 + i)) (vIdiv pull 2) k (c16 (I 28 w)) = c16 (I 28 w) := if_pos h1
      rw [es]
      obtain ⟨J, hr', hJ⟩ := l121 hp hF0 hr n (k + 1) I (vi (rv I0 (6 + i) (k : Int))) (by omega) hF h31
      refine ⟨J, Eq.trans (P121_10_1 (by omega) hb (by rw [ev]; exact h1)) ?_, hJ⟩
      rw [lem_w32k (by omega), ev]
      exact hr'
    · have hrng := (hr.2 (k : Int)).resolve_left h1
      have c1 := s23 (d := d) (w := w) (I := I) (L := L) (t := t) (r1 := 22) (i1 := (rv I0 (6 + i) (k : Int)).toNat) (o := I0 22 (rv I0 (6 + i) (k : Int)).toNat) (b := vIdiv pull 2) h31 rfl (fun m f c hc => by show sr I 28 w m f 22 _ c = _; rw [sr_r (by decide), e22])
      have es : shwS (I0 22) (rv I0 (6 + i)) (vIdiv pull 2) k (c16 (I 28 w)) = c16 (sr I 28 w 16 (pulP (vIdiv pull 2) (I0 22 (rv I0 (6 + i) (k : Int)).toNat) (I 28 w)) 28 w) := by
        unfold shwS
        rw [if_neg h1, sr_c16, c16_pul, pul_c2]
      rw [es]
      obtain ⟨J, hr', hJ⟩ := l121 hp hF0 hr n (k + 1) (sr I 28 w 16 (pulP (vIdiv pull 2) (I0 22 (rv I0 (6 + i) (k : Int)).toNat) (I 28 w))) (vi (rv I0 (6 + i) (k : Int))) (by omega) (hF.wr (fun c _ => by simp [sMm])) (by
        apply R31.c
        rw [sr_c16, c16_pul]
        exact pul_in (half_in hp) (hF0 _ (by have := hrng.1; have := hrng.2; show (rvP (I0 4 (6 + i) 1) (I0 30 (6 + i)) (k : Int)).toNat < 120; omega)) h31)
      refine ⟨J, Eq.trans (P121_10_0 (h1 := by omega) (g1 := hb) (h2 := by rw [ev]; exact h1) (g2 := by rw [ev]; exact hrng) (c1 := by rw [ev]; exact c1)) ?_, hJ⟩
      rw [lem_w32k (by omega), ev]
      exact hr'
theorem s121 {I : H3} (hm : mOk I t w) (h31 : R31 (I 28 w)) (hF0 : fcOk I) (hr : rwOk I (6 + i)) :
    ∃ J, Cal (d + 3) 121 [vr 11 0, vr 3 w, vr 6 i] (mk I L t) = some (vx, mk J L t) ∧ Fr (sMm w) I J ∧ R31 (J 28 w) ∧ c16 (J 28 w) = shwP (I 22) (rv I (6 + i)) (aW I t w 3 (gvW I w)) (I 6 i 6) (c16 (I 28 w)) := by
  obtain ⟨J1, c1, f1⟩ := s114 (d := d) (L := L) (k := 3) (by decide) hm
  have e22 : J1 22 = I 22 := f1.rg (fun _ _ => rfl)
  have e28 : J1 28 = I 28 := f1.rg (fun _ _ => rfl)
  have e4 : J1 4 = I 4 := f1.rg (fun _ _ => rfl)
  have e30 : J1 30 = I 30 := f1.rg (fun _ _ => rfl)
  have e6 : J1 6 = I 6 := f1.rg (fun _ _ => rfl)
  obtain ⟨J, hr', hJ, hj31, hv⟩ := l121 (d := d + 2) (w := w) (i := i) (I0 := J1) (L := L) (t := t) (pull := aW I t w 3 (gvW I w)) aW_3 (by unfold fcOk; rw [e22]; exact hF0) (by unfold rwOk; rw [e4, e30]; exact hr) 9 0 J1 vx rfl Fr.rfl' (by rw [e28]; exact h31)
  refine ⟨J, Eq.trans (P121_0_0 (c1 := c1)) hr', (sAsk_Mm f1).tr hJ, hj31, ?_⟩
  rw [hv]
  unfold shwP rv
  rw [e22, e28, e4, e30, e6]
end SHOWN
