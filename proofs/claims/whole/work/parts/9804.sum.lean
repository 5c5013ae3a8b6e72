/-! sums, products, units: both sides read alike -/
/-- the model's tokens in a head -/
def mt0P (T : Int) : Prop := ((T = 40 ↔ mtkS 0 T = 140) ∧ (T = 23 ↔ mtkS 0 T = 2) ∧ ((8 ≤ T ∧ T ≤ 17) ↔ (40 ≤ mtkS 0 T ∧ mtkS 0 T ≤ 50)) ∧ (8 ≤ T ∧ T ≤ 17 → mtkS 0 T = 33 + T)) ∧ ((T = 43 ↔ mtkS 0 T = 143) ∧ (T = 45 ↔ mtkS 0 T = 145) ∧ (T = 42 ↔ mtkS 0 T = 142) ∧ (T = 47 ↔ mtkS 0 T = 147) ∧ (T = 41 ↔ mtkS 0 T = 141) ∧ (T = 59 ↔ mtkS 0 T = 159)) ∧ (T = 24 ↔ mtkS 0 T = 0) ∧ ((0 ≤ T ∧ T ≤ 7) ↔ (20 ≤ mtkS 0 T ∧ mtkS 0 T ≤ 27)) ∧ (0 ≤ T ∧ T ≤ 7 → mtkS 0 T = 20 + T)
theorem mt0_k : ∀ k : Fin 63, (k.val ≤ 25 ∨ k.val = 40 ∨ k.val = 41 ∨ k.val = 42 ∨ k.val = 43 ∨ k.val = 45 ∨ k.val = 47 ∨ k.val = 59 ∨ k.val = 60 ∨ k.val = 61 ∨ k.val = 62) → mt0P (k.val : Int) := by
  unfold mt0P mtkS mwd msB
  decide +kernel
theorem mt0 (b : Nat → Int) (n q : Nat) : mt0P (tkC b n q) := by
  have h := tk_in b n q
  obtain ⟨x, ex⟩ : ∃ x : Nat, tkC b n q = (x : Int) := ⟨(tkC b n q).toNat, by omega⟩
  rw [ex] at h ⊢
  exact mt0_k ⟨x, by omega⟩ (show x ≤ 25 ∨ x = 40 ∨ x = 41 ∨ x = 42 ∨ x = 43 ∨ x = 45 ∨ x = 47 ∨ x = 59 ∨ x = 60 ∨ x = 61 ∨ x = 62 by omega)
theorem slc_app {s v : Nat → Int} : ∀ (n a : Nat), slc s v a (n + 1) = slc s v a n ++ [(s (a + n), v (a + n))]
  | 0, a => rfl
  | n + 1, a => by
    show (s a, v a) :: slc s v (a + 1) (n + 1) = ((s a, v a) :: slc s v (a + 1) n) ++ _
    rw [slc_app n (a + 1), show a + 1 + n = a + (n + 1) by omega]
    rfl
theorem slc_cg {s s' v v' : Nat → Int} : ∀ (n a : Nat), (∀ c, a ≤ c → c < a + n → s c = s' c ∧ v c = v' c) → slc s v a n = slc s' v' a n
  | 0, _, _ => rfl
  | n + 1, a, h => by
    show (s a, v a) :: _ = (s' a, v' a) :: _
    rw [(h a (Nat.le_refl _) (by omega)).1, (h a (Nat.le_refl _) (by omega)).2, slc_cg n (a + 1) (fun c h1 h2 => h c (by omega) (by omega))]
theorem slc_len {s v : Nat → Int} : ∀ (n a : Nat), (slc s v a n).length = n
  | 0, _ => rfl
  | n + 1, a => by
    show (slc s v (a + 1) n).length + 1 = n + 1
    rw [slc_len n (a + 1)]
/-- steps laid so far -/
def StpC (I : H3) (D : Nat) (X : List (Int × Int)) : Prop := I 2 D 5 = (X.length : Int) ∧ slc (I 23 D) (I 24 D) 0 X.length = X
def fS1 (I : H3) (a : Nat) : Int := mst1 (I 59 0 (2 * a))
def fS2 (I : H3) (a : Nat) : Int := mst2 (I 59 0 (2 * a)) (I 59 0 (2 * a + 1))
def StpM (I : H3) (X : List (Int × Int)) : Prop := I 12 0 35 = (X.length : Int) ∧ slc (fS1 I) (fS2 I) 0 X.length = X
def sAd (D r i c : Nat) : Bool := ((r == 23 || r == 24) && i == D) || (r == 2 && i == D && c == 5)
def sLy (r _ c : Nat) : Bool := r == 59 || (r == 12 && c == 35)
def seg (Y : List (Int × Int)) (h : Nat) : Prop := ∀ R, okL (Y ++ R) h = okL R (h + 1)
section LAY
variable {d D : Nat} {I L : H3} {t : Nat → Nat} {X : List (Int × Int)} {x y : Int}
theorem sp17 (h : StpC I D X) (hl : X.length < 400) : ∃ J, Cal d 17 [vr 2 D, vi x, vi y] (mk I L t) = some (vx, mk J L t) ∧ Fr (sAd D) I J ∧ StpC J D (X ++ [(x, y)]) := by
  have r := P17_0_0 (d := d) (L := L) (t := t) (I := I) (i0 := D) (x1 := x) (x2 := y) (h1 := by rw [h.1]; omega) (g1 := by rw [h.1]; omega)
  rw [h.1, Int.toNat_natCast, lem_w32k (k := X.length) (by omega)] at r
  refine ⟨_, r, ((Fr.rfl'.up (by simp [sAd])).up (by simp [sAd])).up (by simp [sAd]), ?_, ?_⟩
  · rw [up_e, List.length_append]
    rfl
  · rw [List.length_append]
    show slc _ _ 0 (X.length + 1) = _
    rw [slc_app, Nat.zero_add, up_r (show (23 : Nat) ≠ 2 by decide), up_r (show (24 : Nat) ≠ 2 by decide), up_r (show (23 : Nat) ≠ 24 by decide), up_e, up_e]
    congr 1
    refine Eq.trans (slc_cg _ _ (fun c _ hc => ?_)) h.2
    rw [up_s (by omega), up_s (by omega), up_r (show (24 : Nat) ≠ 23 by decide)]
    exact ⟨rfl, rfl⟩
theorem sp17f (h : 0 ≤ I 2 D 5) : ∃ J, Cal d 17 [vr 2 D, vi x, vi y] (mk I L t) = some (vx, mk J L t) ∧ Fr (sAd D) I J ∧ 0 ≤ J 2 D 5 := by
  by_cases q : I 2 D 5 < 400
  · obtain ⟨k, ek⟩ : ∃ k : Nat, I 2 D 5 = (k : Int) := ⟨(I 2 D 5).toNat, by omega⟩
    have r := P17_0_0 (d := d) (L := L) (t := t) (I := I) (i0 := D) (x1 := x) (x2 := y) (h1 := q) (g1 := by omega)
    rw [ek, lem_w32k (k := k) (by omega)] at r
    refine ⟨_, r, ((Fr.rfl'.up (by simp [sAd])).up (by simp [sAd])).up (by simp [sAd]), ?_⟩
    rw [up_e]
    omega
  · exact ⟨I, P17_0_1 (h1 := by omega), Fr.rfl', h⟩
theorem sp171 (h : StpM I X) (hl : X.length < 400) : ∃ J, Cal d 171 [vr 12 0, vi x, vi y] (mk I L t) = some (vx, mk J L t) ∧ Fr sLy I J ∧ StpM J (X ++ [(mst1 x, mst2 x y)]) := by
  have e1 : w32 (2 * I 12 0 35) = ((2 * X.length : Nat) : Int) := by rw [h.1, w32_s (by omega)]; omega
  have e2 : w32 (((2 * X.length : Nat) : Int) + 1) = ((2 * X.length + 1 : Nat) : Int) := lem_w32k (by omega)
  have r := P171_0_0 (d := d) (L := L) (t := t) (I := I) (x1 := x) (x2 := y) (g1 := by rw [e1]; omega) (g2 := by rw [e1, e2]; omega)
  rw [e1, e2, h.1, Int.toNat_natCast, Int.toNat_natCast, lem_w32k (k := X.length) (by omega)] at r
  refine ⟨_, r, ((Fr.rfl'.up rfl).up rfl).up rfl, ?_, ?_⟩
  · rw [up_e, List.length_append]
    rfl
  · rw [List.length_append]
    show slc _ _ 0 (X.length + 1) = _
    rw [slc_app, Nat.zero_add]
    unfold fS1 fS2
    rw [up_r (show (59 : Nat) ≠ 12 by decide), up_e, up_s (show 2 * X.length ≠ 2 * X.length + 1 by omega), up_e]
    congr 1
    refine Eq.trans (slc_cg _ _ (fun c _ hc => ?_)) h.2
    unfold fS1 fS2
    rw [up_s (show 2 * c ≠ 2 * X.length + 1 by omega), up_s (show 2 * c ≠ 2 * X.length by omega), up_s (show 2 * c + 1 ≠ 2 * X.length + 1 by omega), up_s (show 2 * c + 1 ≠ 2 * X.length by omega)]
    exact ⟨rfl, rfl⟩
theorem StpC.fr {S : Nat → Nat → Nat → Bool} {J : H3} (h : StpC I D X) (F : Fr S I J) (h1 : ∀ c, S 23 D c = false ∧ S 24 D c = false) (h2 : S 2 D 5 = false) : StpC J D X := by
  unfold StpC
  rw [F.ri (fun c => (h1 c).1), F.ri (fun c => (h1 c).2), F 2 D 5 h2]
  exact h
theorem StpM.fr {S : Nat → Nat → Nat → Bool} {J : H3} (h : StpM I X) (F : Fr S I J) (h1 : ∀ c, S 59 0 c = false) (h2 : S 12 0 35 = false) : StpM J X := by
  unfold StpM fS1 fS2
  rw [F.ri (r := 59) (i := 0) h1, F 12 0 35 h2]
  exact h
end LAY
/-- what reading a sum may write -/
def sSu (D r i c : Nat) : Bool := (r == 7 && decide (7 ≤ c ∧ c ≤ 12)) || sAd D r i c
def sSw (r _ c : Nat) : Bool := (r == 12 && (c == 35 || decide (37 ≤ c ∧ c ≤ 42) || c == 44)) || r == 59
def TokH (b : Nat → Int) (n N : Nat) : Prop := n ≤ 400 ∧ N ≤ n ∧ stN b n N = n ∧ (∀ i, i < N → stN b n i < n) ∧ ∀ c, c < n → 0 ≤ b c ∧ b c ≤ 255
theorem sAd_su {D : Nat} {I J : H3} (F : Fr (sAd D) I J) : Fr (sSu D) I J := F.mo (fun r i c k => by
  unfold sSu at k
  rw [Bool.or_eq_false_iff] at k
  exact k.2)
theorem s38_su {D : Nat} {I J : H3} (F : Fr s38 I J) : Fr (sSu D) I J := F.mo (fun r i c k => by
  unfold sSu at k
  unfold s38
  simp only [Bool.or_eq_false_iff, Bool.and_eq_false_iff, beq_eq_false_iff_ne, decide_eq_false_iff_not] at k ⊢
  have := k.1
  omega)
theorem sLy_sw {I J : H3} (F : Fr sLy I J) : Fr sSw I J := F.mo (fun r i c k => by
  unfold sSw at k
  unfold sLy
  simp only [Bool.or_eq_false_iff, Bool.and_eq_false_iff, beq_eq_false_iff_ne, decide_eq_false_iff_not] at k ⊢
  omega)
theorem s37_sw {I J : H3} (F : Fr s37 I J) : Fr sSw I J := F.mo (fun r i c k => by
  unfold sSw at k
  unfold s37
  simp only [Bool.or_eq_false_iff, Bool.and_eq_false_iff, beq_eq_false_iff_ne, decide_eq_false_iff_not] at k ⊢
  omega)
section SUM
variable {b : Nat → Int} {n N : Nat} {t t' : Nat → Nat}
def HC (b : Nat → Int) (n N : Nat) (I : H3) (D j : Nat) (X : List (Int × Int)) : Prop := Cur b n N I j ∧ StpC I D X
def HM (b : Nat → Int) (n : Nat) (I : H3) (j : Nat) (X : List (Int × Int)) (o : Nat) : Prop := MCur b n 0 I j ∧ StpM I X ∧ I 12 0 44 = (o : Int)
/-- read without a fault -/
def OkF (J J' : H3) : Prop := J 7 0 11 = 0 ∧ J 7 0 12 = -1 ∧ J' 12 0 41 = 0
/-- refused alike -/
def Fl (D : Nat) (J J' : H3) : Prop := J 7 0 11 = J' 12 0 41 ∧ J 7 0 12 = J' 12 0 42 ∧ 0 ≤ J 2 D 5
def Rd (b : Nat → Int) (n N D : Nat) (I I' J J' : H3) (j : Nat) (X : List (Int × Int)) (o : Nat) (P : List (Int × Int) → Prop) (lo : Nat) (ok : Int) : Prop :=
  Fr (sSu D) I J ∧ Fr sSw I' J' ∧ ((ok = 1 ∧ ∃ j' Y, lo ≤ j' ∧ Y.length + j ≤ j' ∧ HC b n N J D j' (X ++ Y) ∧ HM b n J' j' (X ++ Y) o ∧ P Y) ∨ (ok = 0 ∧ Fl D J J'))
/-- one of the three, on both sides -/
def POk (b : Nat → Int) (n N : Nat) (t t' : Nat → Nat) (zc zm ec em o hb : Nat) : Prop := ∀ (L L' I I' : H3) (j : Nat) (X : List (Int × Int)) (h : Nat), HC b n N I (t 4) j X → HM b n I' j X o → X.length ≤ j → h ≤ hb →
  ∃ ok J J', Cal ec zc [vr 8 0, vi (o : Int)] (mk I L t) = some (vi ok, mk J L t) ∧ Cal em zm [vr 12 0] (mk I' L' t') = some (vi ok, mk J' L' t') ∧ Rd b n N (t 4) I I' J J' j X o (fun Y => seg Y h) (j + 1) ok
theorem HC.lt {I : H3} {D j : Nat} {X : List (Int × Int)} (hT : TokH b n N) (h : HC b n N I D j X) (k : tkC b n (stN b n j) ≠ 24) : j < N := by
  have := h.1.2.2.2.2.2.2.1
  have e : j ≠ N := fun z => k (by rw [z]; exact tk_end.mpr (by rw [hT.2.2.1]; exact Nat.le_refl _))
  omega
theorem HC.step {d : Nat} {L I : H3} {D j : Nat} {X : List (Int × Int)} (hT : TokH b n N) (h : HC b n N I D j X) (hj : j < N) : ∃ J, Cal d 38 [vr 7 0] (mk I L t) = some (vx, mk J L t) ∧ Fr s38 I J ∧ HC b n N J D (j + 1) X := by
  obtain ⟨J, c, F, k⟩ := sp38 (d := d) (L := L) (t := t) (by have := hT.1; have := hT.2.1; omega) h.1 hj
  exact ⟨J, c, F, k, h.2.fr F (fun _ => ⟨rfl, rfl⟩) rfl⟩
theorem HM.step {d : Nat} {L I : H3} {j o : Nat} {X : List (Int × Int)} (hT : TokH b n N) (h : HM b n I j X o) : ∃ J, Cal (d + 10) 168 [vr 12 0] (mk I L t) = some (vx, mk J L t) ∧ Fr s37 I J ∧ HM b n J (j + 1) X o := by
  obtain ⟨J, c, F, k⟩ := sp168 (d := d) (L := L) (t := t) hT.1 (Or.inl rfl) hT.2.2.2.2 h.1
  exact ⟨J, c, F, k, h.2.1.fr F (fun _ => rfl) rfl, by rw [F 12 0 44 rfl]; exact h.2.2⟩
theorem HC.add {d : Nat} {L I : H3} {D j : Nat} {X : List (Int × Int)} {x y : Int} (h : HC b n N I D j X) (hl : X.length < 400) : ∃ J, Cal d 17 [vr 2 D, vi x, vi y] (mk I L t) = some (vx, mk J L t) ∧ Fr (sAd D) I J ∧ HC b n N J D j (X ++ [(x, y)]) := by
  obtain ⟨J, c, F, k⟩ := sp17 (d := d) (L := L) (t := t) (x := x) (y := y) h.2 hl
  exact ⟨J, c, F, h.1.fr F (fun _ => ⟨rfl, rfl, rfl⟩) ⟨rfl, rfl, rfl, rfl, rfl, rfl, rfl⟩, k⟩
theorem HM.lay {d : Nat} {L I : H3} {j o : Nat} {X : List (Int × Int)} {x y : Int} (h : HM b n I j X o) (hl : X.length < 400) : ∃ J, Cal d 171 [vr 12 0, vi x, vi y] (mk I L t) = some (vx, mk J L t) ∧ Fr sLy I J ∧ HM b n J j (X ++ [(mst1 x, mst2 x y)]) o := by
  obtain ⟨J, c, F, k⟩ := sp171 (d := d) (L := L) (t := t) (x := x) (y := y) h.2.1 hl
  exact ⟨J, c, F, h.1.fr F (fun _ => rfl) ⟨rfl, rfl, rfl, rfl, rfl, rfl, rfl⟩, k, by rw [F 12 0 44 rfl]; exact h.2.2⟩
/-- both refuse -/
theorem both_bad {d d' : Nat} {L L' I I' : H3} {D j o : Nat} {X : List (Int × Int)} (k : Int) (h : HC b n N I D j X) (h' : HM b n I' j X o) : ∃ J J', Cal d 37 [vr 7 0, vi k] (mk I L t) = some (vi 0, mk J L t) ∧ Cal d' 169 [vr 12 0, vi k] (mk I' L' t') = some (vi 0, mk J' L' t') ∧ Fr (sSu D) I J ∧ Fr sSw I' J' ∧ Fl D J J' := by
  refine ⟨_, _, P37_0_0, P169_0_0, (Fr.rfl'.up (by simp [sSu])).up (by simp [sSu]), (Fr.rfl'.up rfl).up rfl, ?_, ?_, ?_⟩
  · rw [up_s (by decide), up_e, up_s (by decide), up_e]
  · rw [up_e, up_e, h.1.2.2.2.2.1, h'.1.2.2.2.1]
  · rw [up_r (show (2 : Nat) ≠ 7 by decide), up_r (show (2 : Nat) ≠ 7 by decide), h.2.1]
    omega
/-- a sign that must stand there -/
theorem both_sign {d d' : Nat} {L L' I I' : H3} {D j o : Nat} {X : List (Int × Int)} (c : Int) (hc : ∀ q, tkC b n q = c ↔ mtkS 0 (tkC b n q) = w32 (100 + c)) (hn : c ≠ 24) (hT : TokH b n N) (h : HC b n N I D j X) (h' : HM b n I' j X o) :
    ∃ ok J J', Cal (d + 1) 58 [vr 8 0, vi c] (mk I L t) = some (vi ok, mk J L t) ∧ Cal (d' + 11) 170 [vr 12 0, vi c] (mk I' L' t') = some (vi ok, mk J' L' t') ∧ Fr (sSu D) I J ∧ Fr sSw I' J' ∧ ((ok = 1 ∧ HC b n N J D (j + 1) X ∧ HM b n J' (j + 1) X o) ∨ (ok = 0 ∧ Fl D J J')) := by
  have e := h.1.2.2.2.1
  have e' := h'.1.2.2.2.2.2.1
  by_cases q : tkC b n (stN b n j) = c
  · obtain ⟨J, s, F, k⟩ := h.step (d := d) (L := L) (t := t) hT (h.lt hT (by rw [q]; exact hn))
    obtain ⟨J', s', F', k'⟩ := h'.step (d := d') (L := L') (t := t') hT
    exact ⟨1, J, J', P58_0_2 (h1 := by rw [e]; exact q) (c1 := s), P170_0_2 (h1 := by rw [e']; exact (hc _).mp q) (c1 := s'), s38_su F, s37_sw F', Or.inl ⟨rfl, k, k'⟩⟩
  · obtain ⟨J, J', s, s', F, F', f⟩ := both_bad (d := d) (d' := d' + 10) (L := L) (L' := L') (t := t) (t' := t') 1 h h'
    exact ⟨0, J, J', P58_0_1 (h1 := by rw [e]; exact q) (c1 := s), P170_0_1 (h1 := by rw [e']; exact fun z => q ((hc _).mpr z)) (c1 := s'), F, F', Or.inr ⟨rfl, f⟩⟩
theorem sign41 : ∀ q, tkC b n q = 41 ↔ mtkS 0 (tkC b n q) = w32 (100 + 41) := fun q => (mt0 b n q).2.1.2.2.2.2.1
theorem sign59 : ∀ q, tkC b n q = 59 ↔ mtkS 0 (tkC b n q) = w32 (100 + 59) := fun q => (mt0 b n q).2.1.2.2.2.2.2
theorem unit_ok {e e' m o : Nat} (hT : TokH b n N) (ho : o + m = 8) (hS : ∀ m', m = m' + 1 → POk b n N t t' 54 172 (e + 3 * m' + 4) (e' + 3 * m' + 14) (o + 1) (2 * (o + 1))) : POk b n N t t' 57 174 (e + 3 * m + 2) (e' + 3 * m + 12) o (2 * o + 2) := fun L L' I I' j X h hc hm hl hh => by
  have e8 := hc.1.2.2.2.1
  have e10 := hc.1.2.2.2.2.2.1
  have m38 := hm.1.2.2.2.2.2.1
  have m40 := hm.1.2.2.2.2.2.2
  have M := mt0 b n (stN b n j)
  have hN := hT.1
  have hN2 := hT.2.1
  have jN := hc.1.2.2.2.2.2.2
  by_cases a : tkC b n (stN b n j) = 40
  · have a' : I' 12 0 38 = 140 := by rw [m38]; exact M.1.1.mp a
    by_cases z : o = 8
    · obtain ⟨J, J', s, s', F, F', f⟩ := both_bad (d := e + 3 * m + 1) (d' := e' + 3 * m + 11) (L := L) (L' := L') (t := t) (t' := t') 3 hc hm
      exact ⟨0, J, J', P57_0_1 (h1 := by rw [e8]; exact a) (h2 := by omega) (c1 := s), P174_0_1 (h1 := a') (h2 := by rw [hm.2.2]; omega) (c1 := s'), F, F', Or.inr ⟨rfl, f⟩⟩
    · obtain ⟨m', em⟩ : ∃ m', m = m' + 1 := ⟨m - 1, by omega⟩
      have jlt := hc.lt hT (by rw [a]; decide)
      obtain ⟨I1, s1, F1, k1⟩ := hc.step (d := e + 3 * m + 1) (L := L) (t := t) hT jlt
      have wo : w32 ((o : Int) + 1) = ((o + 1 : Nat) : Int) := lem_w32k (by omega)
      have U : Fr sSw I' (up3 I' 12 0 44 ((o + 1 : Nat) : Int)) := Fr.rfl'.up rfl
      have hm0 : HM b n (up3 I' 12 0 44 ((o + 1 : Nat) : Int)) j X (o + 1) := by
        have F : Fr (fun r _ c => r == 12 && c == 44) I' (up3 I' 12 0 44 ((o + 1 : Nat) : Int)) := Fr.rfl'.up rfl
        exact ⟨hm.1.fr F (fun _ => rfl) ⟨rfl, rfl, rfl, rfl, rfl, rfl, rfl⟩, hm.2.1.fr F (fun _ => rfl) rfl, up_e⟩
      obtain ⟨I1', s1', F1', k1'⟩ := hm0.step (d := e' + 3 * m + 1) (L := L') (t := t') hT
      obtain ⟨ok, J2, J2', s2, s2', F2, F2', out⟩ := hS m' em L L' I1 I1' (j + 1) X h k1 k1' (by omega) (by omega)
      have d1 : e + 3 * m' + 4 = e + 3 * m + 1 := by omega
      have d2 : e' + 3 * m' + 14 = e' + 3 * m + 11 := by omega
      rw [d1] at s2
      rw [d2] at s2'
      have cs1' : Cal (e' + 3 * m + 11) 168 [vr 12 0] (mk (up3 I' 12 0 44 (w32 (I' 12 0 44 + 1))) L' t') = some (vx, mk I1' L' t') := by rw [hm.2.2, wo]; exact s1'
      have n8 : ¬ I' 12 0 44 = 8 := by rw [hm.2.2]; omega
      rcases out with ⟨rfl, j', Y, lo, yl, q1, q2, sg⟩ | ⟨rfl, f⟩
      · obtain ⟨ok2, J3, J3', s3, s3', F3, F3', out2⟩ := both_sign (d := e + 3 * m) (d' := e' + 3 * m) (L := L) (L' := L') (t := t) (t' := t') 41 sign41 (by decide) hT q1 q2
        rcases out2 with ⟨rfl, w1, w2⟩ | ⟨rfl, f⟩
        · have wm : w32 (J3' 12 0 44 - 1) = (o : Int) := by rw [w2.2.2]; exact w32_m2 (by omega)
          have F44 : Fr (fun r _ c => r == 12 && c == 44) J3' (up3 J3' 12 0 44 (o : Int)) := Fr.rfl'.up rfl
          have c' := P174_0_3 (h1 := a') (h2 := n8) (c1 := cs1') (c2 := s2') (c3 := s3')
          rw [wm] at c'
          refine ⟨1, J3, _, P57_0_2 (h1 := by rw [e8]; exact a) (h2 := by omega) (c1 := s1) (c2 := by rw [wo]; exact s2) (c3 := s3), c', (s38_su F1).tr (F2.tr F3), (U.tr ((s37_sw F1').tr (F2'.tr F3'))).up rfl, Or.inl ⟨rfl, j' + 1, Y, by omega, by omega, w1, ⟨w2.1.fr F44 (fun _ => rfl) ⟨rfl, rfl, rfl, rfl, rfl, rfl, rfl⟩, w2.2.1.fr F44 (fun _ => rfl) rfl, up_e⟩, sg⟩⟩
        · exact ⟨0, J3, J3', P57_0_3 (h1 := by rw [e8]; exact a) (h2 := by omega) (c1 := s1) (c2 := by rw [wo]; exact s2) (c3 := s3), P174_0_2 (h1 := a') (h2 := n8) (c1 := cs1') (c2 := s2') (c3 := s3'), (s38_su F1).tr (F2.tr F3), U.tr ((s37_sw F1').tr (F2'.tr F3')), Or.inr ⟨rfl, f⟩⟩
      · exact ⟨0, J2, J2', P57_0_4 (h1 := by rw [e8]; exact a) (h2 := by omega) (c1 := s1) (c2 := by rw [wo]; exact s2), P174_0_4 (h1 := a') (h2 := n8) (c1 := cs1') (c2 := s2'), (s38_su F1).tr F2, U.tr ((s37_sw F1').tr F2'), Or.inr ⟨rfl, f⟩⟩
  · have a1 : ¬ I 7 0 8 = 40 := by rw [e8]; exact a
    have a' : ¬ I' 12 0 38 = 140 := by rw [m38]; exact fun z => a (M.1.1.mpr z)
    by_cases g : tkC b n (stN b n j) = 23
    · have jlt := hc.lt hT (by rw [g]; decide)
      obtain ⟨I1, s1, F1, k1⟩ := hc.add (d := e + 3 * m + 1) (L := L) (t := t) (x := 0) (y := vlN b n (stN b n j)) (by omega)
      obtain ⟨I2, s2, F2, k2⟩ := k1.step (d := e + 3 * m + 1) (L := L) (t := t) hT jlt
      obtain ⟨I1', s1', F1', k1'⟩ := hm.lay (d := e' + 3 * m + 11) (L := L') (t := t') (x := 0) (y := vlN b n (stN b n j)) (by omega)
      obtain ⟨I2', s2', F2', k2'⟩ := k1'.step (d := e' + 3 * m + 1) (L := L') (t := t') hT
      have g2 := M.1.2.1.mp g
      refine ⟨1, I2, I2', P57_0_8 (h1 := a1) (h2 := by rw [e8]; exact g) (c1 := by rw [e10]; exact s1) (c2 := s2), P174_0_7 (h1 := a') (h2 := by rw [m38, g2]; omega) (h3 := by rw [m38]; exact g2) (c1 := by rw [m40 g]; exact s1') (c2 := s2'), (sAd_su F1).tr (s38_su F2), (sLy_sw F1').tr (s37_sw F2'), Or.inl ⟨rfl, j + 1, [(0, vlN b n (stN b n j))], Nat.le_refl _, by show 1 + j ≤ j + 1; omega, k2, k2', fun R => ?_⟩⟩
      show (decide (h < 24) && okL R (h + 1)) = _
      rw [decide_eq_true (by omega), Bool.true_and]
    · have g1 : ¬ I 7 0 8 = 23 := by rw [e8]; exact g
      have g' : ¬ I' 12 0 38 = 2 := by rw [m38]; exact fun z => g (M.1.2.1.mpr z)
      by_cases w : 8 ≤ tkC b n (stN b n j) ∧ tkC b n (stN b n j) ≤ 17
      · have jlt := hc.lt hT (by omega)
        have wT : w32 (tkC b n (stN b n j) - 8) = tkC b n (stN b n j) - 8 := w32_s (by omega)
        have wM := M.1.2.2.2 w
        have wT' : w32 (mtkS 0 (tkC b n (stN b n j)) - 40) = tkC b n (stN b n j) - 7 := by rw [wM, w32_s (by omega)]; omega
        obtain ⟨I1, s1, F1, k1⟩ := hc.add (d := e + 3 * m + 1) (L := L) (t := t) (x := 1) (y := tkC b n (stN b n j) - 8) (by omega)
        obtain ⟨I2, s2, F2, k2⟩ := k1.step (d := e + 3 * m + 1) (L := L) (t := t) hT jlt
        obtain ⟨I1', s1', F1', k1'⟩ := hm.lay (d := e' + 3 * m + 11) (L := L') (t := t') (x := tkC b n (stN b n j) - 7) (y := I' 12 0 40) (by omega)
        have em1 : mst1 (tkC b n (stN b n j) - 7) = 1 := by
          unfold mst1
          rw [if_neg (by omega), if_pos (by omega)]
        have em2 : mst2 (tkC b n (stN b n j) - 7) (I' 12 0 40) = tkC b n (stN b n j) - 8 := by
          unfold mst2
          rw [if_neg (by omega), if_pos (by omega)]
          omega
        rw [em1, em2] at k1'
        obtain ⟨I2', s2', F2', k2'⟩ := k1'.step (d := e' + 3 * m + 1) (L := L') (t := t') hT
        refine ⟨1, I2, I2', P57_0_7 (h1 := a1) (h2 := g1) (h3 := by rw [e8]; exact w) (c1 := by rw [e8, wT]; exact s1) (c2 := s2), P174_0_8 (h1 := a') (h2 := by rw [m38]; exact M.1.2.2.1.mp w) (h3 := g') (c1 := by rw [m38, wT']; exact s1') (c2 := s2'), (sAd_su F1).tr (s38_su F2), (sLy_sw F1').tr (s37_sw F2'), Or.inl ⟨rfl, j + 1, [(1, tkC b n (stN b n j) - 8)], Nat.le_refl _, by show 1 + j ≤ j + 1; omega, k2, k2', fun R => ?_⟩⟩
        show (decide (h < 24) && decide (0 ≤ tkC b n (stN b n j) - 8 ∧ tkC b n (stN b n j) - 8 < 10) && okL R (h + 1)) = _
        rw [decide_eq_true (by omega), decide_eq_true (show 0 ≤ tkC b n (stN b n j) - 8 ∧ tkC b n (stN b n j) - 8 < 10 by omega), Bool.true_and, Bool.true_and]
      · obtain ⟨J, J', s, s', F, F', f⟩ := both_bad (d := e + 3 * m + 1) (d' := e' + 3 * m + 11) (L := L) (L' := L') (t := t) (t' := t') 1 hc hm
        exact ⟨0, J, J', P57_0_6 (h1 := a1) (h2 := g1) (h3 := by rw [e8]; exact w) (c1 := s), P174_0_6 (h1 := a') (h2 := by rw [m38]; exact fun z => w (M.1.2.2.1.mpr z)) (h3 := g') (c1 := s'), F, F', Or.inr ⟨rfl, f⟩⟩
/-- the loop of a product -/
theorem prod_loop {e e' m o : Nat} (hT : TokH b n N) (ho : o ≤ 8) (hU : POk b n N t t' 57 174 (e + 3 * m + 2) (e' + 3 * m + 12) o (2 * o + 2)) (L L' : H3) (h : Nat) (hh : h ≤ 2 * o + 1) : ∀ (f j : Nat) (I I' : H3) (X : List (Int × Int)) (x : Nat) (u u' : MV), N ≤ j + f → x ≤ j → HC b n N I (t 4) j X → HM b n I' j X o → X.length ≤ j →
    ∃ ok J J', Res (e + 3 * m + 3) 55 8 [vr 8 0, vi (o : Int), vi 1, vi (x : Int), u] [] (mk I L t) = some (vi ok, mk J L t) ∧ Res (e' + 3 * m + 13) 173 9 [vr 12 0, u'] [] (mk I' L' t') = some (vi ok, mk J' L' t') ∧ Rd b n N (t 4) I I' J J' j X o (fun Y => ∀ R, okL (Y ++ R) (h + 1) = okL R (h + 1)) j ok
  | f, j, I, I', X, x, u, u', hf, hx, hc, hm, hl => by
    have e8 := hc.1.2.2.2.1
    have m38 := hm.1.2.2.2.2.2.1
    have M := mt0 b n (stN b n j)
    have hN := hT.1
    have hN2 := hT.2.1
    have jN := hc.1.2.2.2.2.2.2
    have x400 : (x : Int) ≤ 400 := by omega
    have wx : w32 ((x : Int) + 1) = ((x + 1 : Nat) : Int) := lem_w32k (by omega)
    -- once it has failed
    have bad : ∀ (J : H3) (u : MV), Res (e + 3 * m + 3) 55 8 [vr 8 0, vi (o : Int), vi 0, vi ((x + 1 : Nat) : Int), u] [] (mk J L t) = some (vi 0, mk J L t) := fun J u => by
      by_cases z : ((x + 1 : Nat) : Int) ≤ 400
      · exact P55_8_5 (h1 := z) (h2 := rfl) (g1 := Or.inl rfl)
      · exact P55_8_6 (h1 := by omega) (g1 := Or.inl rfl)
    by_cases a : tkC b n (stN b n j) = 42
    · have a' : I' 12 0 38 = 142 := by rw [m38]; exact M.2.1.2.2.1.mp a
      have jlt := hc.lt hT (by rw [a]; decide)
      match f, hf with
      | 0, hf => omega
      | f + 1, hf =>
      obtain ⟨I1, s1, F1, k1⟩ := hc.step (d := e + 3 * m + 2) (L := L) (t := t) hT jlt
      obtain ⟨I1', s1', F1', k1'⟩ := hm.step (d := e' + 3 * m + 2) (L := L') (t := t') hT
      obtain ⟨ok, J2, J2', s2, s2', F2, F2', out⟩ := hU L L' I1 I1' (j + 1) X (h + 1) k1 k1' (by omega) (by omega)
      rcases out with ⟨rfl, j', Y, lo, yl, q1, q2, sg⟩ | ⟨rfl, fl⟩
      · have j'N := q1.1.2.2.2.2.2.2
        have xl : (X ++ Y).length = X.length + Y.length := List.length_append
        obtain ⟨I3, s3, F3, k3⟩ := q1.add (d := e + 3 * m + 2) (L := L) (t := t) (x := 4) (y := 0) (by omega)
        obtain ⟨I3', s3', F3', k3'⟩ := q2.lay (d := e' + 3 * m + 12) (L := L') (t := t') (x := 13) (y := 0) (by omega)
        obtain ⟨ok, J, J', r, r', G, G', out⟩ := prod_loop hT ho hU L L' h hh f j' I3 I3' (X ++ Y ++ [(4, 0)]) (x + 1) (vi (I 7 0 8)) (vi 0) (by omega) (by omega) k3 k3' (by rw [List.length_append, xl]; show _ + 1 ≤ _; omega)
        refine ⟨ok, J, J', Eq.trans (P55_8_3 (h1 := x400) (h2 := by decide) (h3 := by rw [e8]; exact a) (c1 := s1) (c2 := s2) (c3 := s3)) (by rw [wx]; exact r), Eq.trans (P173_9_7 (h1 := a') (c1 := s1') (c2 := s2') (c3 := s3')) r', (s38_su F1).tr (F2.tr ((sAd_su F3).tr G)), (s37_sw F1').tr (F2'.tr ((sLy_sw F3').tr G')), ?_⟩
        rcases out with ⟨rfl, j2, Y2, lo2, yl2, w1, w2, sg2⟩ | ⟨rfl, fl⟩
        · refine Or.inl ⟨rfl, j2, Y ++ [(4, 0)] ++ Y2, by omega, by rw [List.length_append, List.length_append]; show _ + 1 + _ + _ ≤ _; omega, ?_, ?_, fun R => ?_⟩
          · rw [show X ++ (Y ++ [(4, 0)] ++ Y2) = X ++ Y ++ [(4, 0)] ++ Y2 by simp]
            exact w1
          · rw [show X ++ (Y ++ [(4, 0)] ++ Y2) = X ++ Y ++ [(4, 0)] ++ Y2 by simp]
            exact w2
          · rw [show Y ++ [(4, 0)] ++ Y2 ++ R = Y ++ ((4, 0) :: (Y2 ++ R)) by simp, sg]
            show (decide ((4 : Int) = 2 ∨ (4 : Int) = 3 ∨ (4 : Int) = 4) && decide (2 ≤ h + 1 + 1) && okL (Y2 ++ R) (h + 1 + 1 - 1)) = _
            rw [decide_eq_true (show 2 ≤ h + 1 + 1 by omega), show h + 1 + 1 - 1 = h + 1 by omega, sg2]
            rfl
        · exact Or.inr ⟨rfl, fl⟩
      · obtain ⟨I3, s3, F3, p3⟩ := sp17f (d := e + 3 * m + 2) (L := L) (t := t) (x := 4) (y := 0) fl.2.2
        exact ⟨0, I3, J2', Eq.trans (P55_8_4 (h1 := x400) (h2 := by decide) (h3 := by rw [e8]; exact a) (c1 := s1) (c2 := s2) (c3 := s3)) (by rw [wx]; exact bad _ _), P173_9_6 (h1 := a') (c1 := s1') (c2 := s2'), (s38_su F1).tr (F2.tr (sAd_su F3)), (s37_sw F1').tr F2', Or.inr ⟨rfl, by rw [F3 7 0 11 rfl]; exact fl.1, by rw [F3 7 0 12 rfl]; exact fl.2.1, p3⟩⟩
    · have a' : ¬ I' 12 0 38 = 142 := by rw [m38]; exact fun z => a (M.2.1.2.2.1.mpr z)
      by_cases g : tkC b n (stN b n j) = 47
      · have g' : I' 12 0 38 = 147 := by rw [m38]; exact M.2.1.2.2.2.1.mp g
        have jlt := hc.lt hT (by rw [g]; decide)
        have h3 : ¬ I 7 0 8 = 42 := by rw [e8]; exact a
        have h4 : I 7 0 8 = 47 := by rw [e8]; exact g
        match f, hf with
        | 0, hf => omega
        | f + 1, hf =>
        obtain ⟨I1, s1, F1, k1⟩ := hc.step (d := e + 3 * m + 2) (L := L) (t := t) hT jlt
        obtain ⟨I1', s1', F1', k1'⟩ := hm.step (d := e' + 3 * m + 2) (L := L') (t := t') hT
        have f8 := k1.1.2.2.2.1
        have f10 := k1.1.2.2.2.2.2.1
        have n38 := k1'.1.2.2.2.2.2.1
        have n40 := k1'.1.2.2.2.2.2.2
        have M1 := mt0 b n (stN b n (j + 1))
        by_cases y : tkC b n (stN b n (j + 1)) = 23
        · have y2 : I1' 12 0 38 = 2 := by rw [n38]; exact M1.1.2.1.mp y
          have y3 := n40 y
          have vl := vl_in (b := b) (n := n) (q := stN b n (j + 1))
          by_cases v : vlN b n (stN b n (j + 1)) = 0
          · obtain ⟨J, J', s, s', F, F', fl⟩ := both_bad (d := e + 3 * m + 1) (d' := e' + 3 * m + 12) (L := L) (L' := L') (t := t) (t' := t') 2 k1 k1'
            exact ⟨0, J, J', Eq.trans (P55_8_2 (h1 := x400) (h2 := by decide) (h3 := h3) (h4 := h4) (c1 := s1) (c2 := P56_0_3 (h1 := by rw [f8]; exact y) (h2 := by rw [f10]; exact v) (c1 := s))) (by rw [wx]; exact bad _ _), P173_9_3 (h1 := a') (h2 := g') (c1 := s1') (h3 := y2) (h4 := by rw [y3]; exact v) (c2 := s'), (s38_su F1).tr F, (s37_sw F1').tr F', Or.inr ⟨rfl, fl⟩⟩
          · have jlt2 := k1.lt hT (by rw [y]; decide)
            obtain ⟨I2, s2, F2, k2⟩ := k1.add (d := e + 3 * m + 1) (L := L) (t := t) (x := 5) (y := vlN b n (stN b n (j + 1))) (by omega)
            obtain ⟨I3, s3, F3, k3⟩ := k2.step (d := e + 3 * m + 1) (L := L) (t := t) hT jlt2
            obtain ⟨I2', s2', F2', k2'⟩ := k1'.lay (d := e' + 3 * m + 12) (L := L') (t := t') (x := 14) (y := vlN b n (stN b n (j + 1))) (by omega)
            obtain ⟨I3', s3', F3', k3'⟩ := k2'.step (d := e' + 3 * m + 2) (L := L') (t := t') hT
            obtain ⟨ok, J, J', r, r', G, G', out⟩ := prod_loop hT ho hU L L' h hh f (j + 1 + 1) I3 I3' (X ++ [(5, vlN b n (stN b n (j + 1)))]) (x + 1) (vi (I 7 0 8)) (vi 1) (by omega) (by omega) k3 k3' (by rw [List.length_append]; show _ + 1 ≤ _; omega)
            refine ⟨ok, J, J', Eq.trans (P55_8_1 (h1 := x400) (h2 := by decide) (h3 := h3) (h4 := h4) (c1 := s1) (c2 := P56_0_4 (h1 := by rw [f8]; exact y) (h2 := by rw [f10]; exact v) (c1 := by rw [f10]; exact s2) (c2 := s3))) (by rw [wx]; exact r), Eq.trans (P173_9_4 (h1 := a') (h2 := g') (c1 := s1') (h3 := y2) (h4 := by rw [y3]; exact v) (c2 := by rw [y3]; exact s2') (c3 := s3')) r', (s38_su F1).tr ((sAd_su F2).tr ((s38_su F3).tr G)), (s37_sw F1').tr ((sLy_sw F2').tr ((s37_sw F3').tr G')), ?_⟩
            rcases out with ⟨rfl, j2, Y2, lo2, yl2, w1, w2, sg2⟩ | ⟨rfl, fl⟩
            · refine Or.inl ⟨rfl, j2, (5, vlN b n (stN b n (j + 1))) :: Y2, by omega, by show _ + 1 + _ ≤ _; omega, ?_, ?_, fun R => ?_⟩
              · rw [show X ++ (5, vlN b n (stN b n (j + 1))) :: Y2 = X ++ [(5, vlN b n (stN b n (j + 1)))] ++ Y2 by simp]
                exact w1
              · rw [show X ++ (5, vlN b n (stN b n (j + 1))) :: Y2 = X ++ [(5, vlN b n (stN b n (j + 1)))] ++ Y2 by simp]
                exact w2
              · show (decide (1 ≤ h + 1) && decide (0 < vlN b n (stN b n (j + 1))) && okL (Y2 ++ R) (h + 1)) = _
                rw [decide_eq_true (show 1 ≤ h + 1 by omega), decide_eq_true (show 0 < vlN b n (stN b n (j + 1)) by omega), sg2]
                rfl
            · exact Or.inr ⟨rfl, fl⟩
        · obtain ⟨J, J', s, s', F, F', fl⟩ := both_bad (d := e + 3 * m + 1) (d' := e' + 3 * m + 12) (L := L) (L' := L') (t := t) (t' := t') 1 k1 k1'
          exact ⟨0, J, J', Eq.trans (P55_8_2 (h1 := x400) (h2 := by decide) (h3 := h3) (h4 := h4) (c1 := s1) (c2 := P56_0_1 (h1 := by rw [f8]; exact y) (c1 := s))) (by rw [wx]; exact bad _ _), P173_9_1 (h1 := a') (h2 := g') (c1 := s1') (h3 := by rw [n38]; exact fun z => y (M1.1.2.1.mpr z)) (c2 := s'), (s38_su F1).tr F, (s37_sw F1').tr F', Or.inr ⟨rfl, fl⟩⟩
      · have g' : ¬ I' 12 0 38 = 147 := by rw [m38]; exact fun z => g (M.2.1.2.2.2.1.mpr z)
        exact ⟨1, I, I', P55_8_0 (h1 := x400) (h2 := by decide) (h3 := by rw [e8]; exact a) (h4 := by rw [e8]; exact g), P173_9_5 (h1 := a') (h2 := g'), Fr.rfl', Fr.rfl', Or.inl ⟨rfl, j, [], Nat.le_refl _, by show 0 + j ≤ j; omega, by rw [List.append_nil]; exact hc, by rw [List.append_nil]; exact hm, fun R => rfl⟩⟩
theorem prod_ok {e e' m o : Nat} (hT : TokH b n N) (ho : o ≤ 8) (hU : POk b n N t t' 57 174 (e + 3 * m + 2) (e' + 3 * m + 12) o (2 * o + 2)) : POk b n N t t' 55 173 (e + 3 * m + 3) (e' + 3 * m + 13) o (2 * o + 1) := fun L L' I I' j X h hc hm hl hh => by
  obtain ⟨ok, J2, J2', s2, s2', F2, F2', out⟩ := hU L L' I I' j X h hc hm hl (by omega)
  rcases out with ⟨rfl, j', Y, lo, yl, q1, q2, sg⟩ | ⟨rfl, fl⟩
  · obtain ⟨ok, J, J', r, r', G, G', out⟩ := prod_loop (e := e) (e' := e') (m := m) hT ho hU L L' h hh N j' J2 J2' (X ++ Y) 0 vx vx (by omega) (Nat.zero_le _) q1 q2 (by rw [List.length_append]; omega)
    refine ⟨ok, J, J', Eq.trans (P55_0_0 (c1 := s2)) r, Eq.trans (P173_0_1 (c1 := s2')) r', F2.tr G, F2'.tr G', ?_⟩
    rcases out with ⟨rfl, j2, Y2, lo2, yl2, w1, w2, sg2⟩ | ⟨rfl, fl⟩
    · refine Or.inl ⟨rfl, j2, Y ++ Y2, by omega, by rw [List.length_append]; omega, by rw [← List.append_assoc]; exact w1, by rw [← List.append_assoc]; exact w2, fun R => ?_⟩
      rw [List.append_assoc, sg, sg2]
    · exact Or.inr ⟨rfl, fl⟩
  · exact ⟨0, J2, J2', Eq.trans (P55_0_1 (c1 := s2)) (P55_8_5 (h1 := by decide) (h2 := rfl) (g1 := Or.inl rfl)), P173_0_0 (c1 := s2'), F2, F2', Or.inr ⟨rfl, fl⟩⟩
/-- the loop of a sum -/
theorem sum_loop {e e' m o : Nat} (hT : TokH b n N) (ho : o ≤ 8) (hU : POk b n N t t' 55 173 (e + 3 * m + 3) (e' + 3 * m + 13) o (2 * o + 1)) (L L' : H3) (h : Nat) (hh : h ≤ 2 * o) : ∀ (f j : Nat) (I I' : H3) (X : List (Int × Int)) (x : Nat) (u u' : MV), N ≤ j + f → x ≤ j → HC b n N I (t 4) j X → HM b n I' j X o → X.length ≤ j →
    ∃ ok J J', Res (e + 3 * m + 4) 54 8 [vr 8 0, vi (o : Int), vi 1, vi (x : Int), u] [] (mk I L t) = some (vi ok, mk J L t) ∧ Res (e' + 3 * m + 14) 172 9 [vr 12 0, u'] [] (mk I' L' t') = some (vi ok, mk J' L' t') ∧ Rd b n N (t 4) I I' J J' j X o (fun Y => ∀ R, okL (Y ++ R) (h + 1) = okL R (h + 1)) j ok
  | f, j, I, I', X, x, u, u', hf, hx, hc, hm, hl => by
    have e8 := hc.1.2.2.2.1
    have m38 := hm.1.2.2.2.2.2.1
    have M := mt0 b n (stN b n j)
    have hN := hT.1
    have hN2 := hT.2.1
    have jN := hc.1.2.2.2.2.2.2
    have x400 : (x : Int) ≤ 400 := by omega
    have wx : w32 ((x : Int) + 1) = ((x + 1 : Nat) : Int) := lem_w32k (by omega)
    have bad : ∀ (J : H3) (u : MV), Res (e + 3 * m + 4) 54 8 [vr 8 0, vi (o : Int), vi 0, vi ((x + 1 : Nat) : Int), u] [] (mk J L t) = some (vi 0, mk J L t) := fun J u => by
      by_cases z : ((x + 1 : Nat) : Int) ≤ 400
      · exact P54_8_5 (h1 := z) (h2 := rfl) (g1 := Or.inl rfl)
      · exact P54_8_6 (h1 := by omega) (g1 := Or.inl rfl)
    -- either sign
    have go : ∀ (f0 : Nat), f = f0 + 1 → ∀ (s : Int) (sm : Int) (I1 I1' J2 J2' : H3), (s = 2 ∨ s = 3) → mst1 sm = s → mst2 sm 0 = 0 → Fr s38 I I1 → Fr s37 I' I1' → Fr (sSu (t 4)) I1 J2 → Fr sSw I1' J2' → (∀ (J3 : H3), Cal (e + 3 * m + 3) 17 [vr 2 (t 4), vi s, vi 0] (mk J2 L t) = some (vx, mk J3 L t) → Res (e + 3 * m + 4) 54 8 [vr 8 0, vi (o : Int), vi 1, vi (x : Int), u] [] (mk I L t) = Res (e + 3 * m + 4) 54 8 [vr 8 0, vi (o : Int), vi 1, vi (w32 ((x : Int) + 1)), vi (I 7 0 8)] [] (mk J3 L t)) → (∀ (J3' : H3), Cal (e' + 3 * m + 13) 171 [vr 12 0, vi sm, vi 0] (mk J2' L' t') = some (vx, mk J3' L' t') → Res (e' + 3 * m + 14) 172 9 [vr 12 0, u'] [] (mk I' L' t') = Res (e' + 3 * m + 14) 172 9 [vr 12 0, vi sm] [] (mk J3' L' t')) → (∃ j' Y, j + 1 + 1 ≤ j' ∧ Y.length + (j + 1) ≤ j' ∧ HC b n N J2 (t 4) j' (X ++ Y) ∧ HM b n J2' j' (X ++ Y) o ∧ seg Y (h + 1)) → ∃ ok J J', Res (e + 3 * m + 4) 54 8 [vr 8 0, vi (o : Int), vi 1, vi (x : Int), u] [] (mk I L t) = some (vi ok, mk J L t) ∧ Res (e' + 3 * m + 14) 172 9 [vr 12 0, u'] [] (mk I' L' t') = some (vi ok, mk J' L' t') ∧ Rd b n N (t 4) I I' J J' j X o (fun Y => ∀ R, okL (Y ++ R) (h + 1) = okL R (h + 1)) j ok := fun f0 ef s sm I1 I1' J2 J2' hs hs1 hs2 F1 F1' F2 F2' r1 r1' out => by
      obtain ⟨j', Y, lo, yl, q1, q2, sg⟩ := out
      have j'N := q1.1.2.2.2.2.2.2
      have xl : (X ++ Y).length = X.length + Y.length := List.length_append
      obtain ⟨I3, s3, F3, k3⟩ := q1.add (d := e + 3 * m + 3) (L := L) (t := t) (x := s) (y := 0) (by omega)
      obtain ⟨I3', s3', F3', k3'⟩ := q2.lay (d := e' + 3 * m + 13) (L := L') (t := t') (x := sm) (y := 0) (by omega)
      rw [hs1, hs2] at k3'
      obtain ⟨ok, J, J', r, r', G, G', out⟩ := sum_loop hT ho hU L L' h hh f0 j' I3 I3' (X ++ Y ++ [(s, 0)]) (x + 1) (vi (I 7 0 8)) (vi sm) (by omega) (by omega) k3 k3' (by rw [List.length_append, xl]; show _ + 1 ≤ _; omega)
      refine ⟨ok, J, J', Eq.trans (r1 I3 s3) (by rw [wx]; exact r), Eq.trans (r1' I3' s3') r', (s38_su F1).tr (F2.tr ((sAd_su F3).tr G)), (s37_sw F1').tr (F2'.tr ((sLy_sw F3').tr G')), ?_⟩
      rcases out with ⟨rfl, j2, Y2, lo2, yl2, w1, w2, sg2⟩ | ⟨rfl, fl⟩
      · refine Or.inl ⟨rfl, j2, Y ++ [(s, 0)] ++ Y2, by omega, by rw [List.length_append, List.length_append]; show _ + 1 + _ + _ ≤ _; omega, ?_, ?_, fun R => ?_⟩
        · rw [show X ++ (Y ++ [(s, 0)] ++ Y2) = X ++ Y ++ [(s, 0)] ++ Y2 by simp]
          exact w1
        · rw [show X ++ (Y ++ [(s, 0)] ++ Y2) = X ++ Y ++ [(s, 0)] ++ Y2 by simp]
          exact w2
        · rw [show Y ++ [(s, 0)] ++ Y2 ++ R = Y ++ ((s, 0) :: (Y2 ++ R)) by simp, sg]
          have e2 : okL ((s, 0) :: (Y2 ++ R)) (h + 1 + 1) = okL (Y2 ++ R) (h + 1) := by
            rcases hs with z | z <;> subst z
            · show (decide ((2 : Int) = 2 ∨ (2 : Int) = 3 ∨ (2 : Int) = 4) && decide (2 ≤ h + 1 + 1) && okL (Y2 ++ R) (h + 1 + 1 - 1)) = _
              rw [decide_eq_true (show 2 ≤ h + 1 + 1 by omega), show h + 1 + 1 - 1 = h + 1 by omega]
              rfl
            · show (decide ((3 : Int) = 2 ∨ (3 : Int) = 3 ∨ (3 : Int) = 4) && decide (2 ≤ h + 1 + 1) && okL (Y2 ++ R) (h + 1 + 1 - 1)) = _
              rw [decide_eq_true (show 2 ≤ h + 1 + 1 by omega), show h + 1 + 1 - 1 = h + 1 by omega]
              rfl
          rw [e2, sg2]
      · exact Or.inr ⟨rfl, fl⟩
    by_cases a : tkC b n (stN b n j) = 43
    · have a' : I' 12 0 38 = 143 := by rw [m38]; exact M.2.1.1.mp a
      have jlt := hc.lt hT (by rw [a]; decide)
      obtain ⟨f0, ef⟩ : ∃ f0, f = f0 + 1 := ⟨f - 1, by omega⟩
      obtain ⟨I1, s1, F1, k1⟩ := hc.step (d := e + 3 * m + 3) (L := L) (t := t) hT jlt
      obtain ⟨I1', s1', F1', k1'⟩ := hm.step (d := e' + 3 * m + 3) (L := L') (t := t') hT
      obtain ⟨ok, J2, J2', s2, s2', F2, F2', out⟩ := hU L L' I1 I1' (j + 1) X (h + 1) k1 k1' (by omega) (by omega)
      rcases out with ⟨rfl, out⟩ | ⟨rfl, fl⟩
      · exact go f0 ef 2 11 I1 I1' J2 J2' (Or.inl rfl) rfl rfl F1 F1' F2 F2' (fun J3 s3 => P54_8_3 (h1 := x400) (h2 := by decide) (h3 := by rw [e8]; exact a) (c1 := s1) (c2 := s2) (c3 := s3)) (fun J3 s3 => P172_9_4 (h1 := a') (c1 := s1') (c2 := s2') (c3 := s3)) out
      · obtain ⟨I3, s3, F3, p3⟩ := sp17f (d := e + 3 * m + 3) (L := L) (t := t) (x := 2) (y := 0) fl.2.2
        exact ⟨0, I3, J2', Eq.trans (P54_8_4 (h1 := x400) (h2 := by decide) (h3 := by rw [e8]; exact a) (c1 := s1) (c2 := s2) (c3 := s3)) (by rw [wx]; exact bad _ _), P172_9_3 (h1 := a') (c1 := s1') (c2 := s2'), (s38_su F1).tr (F2.tr (sAd_su F3)), (s37_sw F1').tr F2', Or.inr ⟨rfl, by rw [F3 7 0 11 rfl]; exact fl.1, by rw [F3 7 0 12 rfl]; exact fl.2.1, p3⟩⟩
    · have a' : ¬ I' 12 0 38 = 143 := by rw [m38]; exact fun z => a (M.2.1.1.mpr z)
      by_cases g : tkC b n (stN b n j) = 45
      · have g' : I' 12 0 38 = 145 := by rw [m38]; exact M.2.1.2.1.mp g
        have jlt := hc.lt hT (by rw [g]; decide)
        obtain ⟨f0, ef⟩ : ∃ f0, f = f0 + 1 := ⟨f - 1, by omega⟩
        have h3 : ¬ I 7 0 8 = 43 := by rw [e8]; exact a
        obtain ⟨I1, s1, F1, k1⟩ := hc.step (d := e + 3 * m + 3) (L := L) (t := t) hT jlt
        obtain ⟨I1', s1', F1', k1'⟩ := hm.step (d := e' + 3 * m + 3) (L := L') (t := t') hT
        obtain ⟨ok, J2, J2', s2, s2', F2, F2', out⟩ := hU L L' I1 I1' (j + 1) X (h + 1) k1 k1' (by omega) (by omega)
        rcases out with ⟨rfl, out⟩ | ⟨rfl, fl⟩
        · exact go f0 ef 3 12 I1 I1' J2 J2' (Or.inr rfl) rfl rfl F1 F1' F2 F2' (fun J3 s3 => P54_8_1 (h1 := x400) (h2 := by decide) (h3 := h3) (h4 := by rw [e8]; exact g) (c1 := s1) (c2 := s2) (c3 := s3)) (fun J3 s3 => P172_9_1 (h1 := a') (h2 := g') (c1 := s1') (c2 := s2') (c3 := s3)) out
        · obtain ⟨I3, s3, F3, p3⟩ := sp17f (d := e + 3 * m + 3) (L := L) (t := t) (x := 3) (y := 0) fl.2.2
          exact ⟨0, I3, J2', Eq.trans (P54_8_2 (h1 := x400) (h2 := by decide) (h3 := h3) (h4 := by rw [e8]; exact g) (c1 := s1) (c2 := s2) (c3 := s3)) (by rw [wx]; exact bad _ _), P172_9_0 (h1 := a') (h2 := g') (c1 := s1') (c2 := s2'), (s38_su F1).tr (F2.tr (sAd_su F3)), (s37_sw F1').tr F2', Or.inr ⟨rfl, by rw [F3 7 0 11 rfl]; exact fl.1, by rw [F3 7 0 12 rfl]; exact fl.2.1, p3⟩⟩
      · have g' : ¬ I' 12 0 38 = 145 := by rw [m38]; exact fun z => g (M.2.1.2.1.mpr z)
        exact ⟨1, I, I', P54_8_0 (h1 := x400) (h2 := by decide) (h3 := by rw [e8]; exact a) (h4 := by rw [e8]; exact g), P172_9_2 (h1 := a') (h2 := g'), Fr.rfl', Fr.rfl', Or.inl ⟨rfl, j, [], Nat.le_refl _, by show 0 + j ≤ j; omega, by rw [List.append_nil]; exact hc, by rw [List.append_nil]; exact hm, fun R => rfl⟩⟩
theorem sum_ok {e e' m o : Nat} (hT : TokH b n N) (ho : o ≤ 8) (hU : POk b n N t t' 55 173 (e + 3 * m + 3) (e' + 3 * m + 13) o (2 * o + 1)) : POk b n N t t' 54 172 (e + 3 * m + 4) (e' + 3 * m + 14) o (2 * o) := fun L L' I I' j X h hc hm hl hh => by
  obtain ⟨ok, J2, J2', s2, s2', F2, F2', out⟩ := hU L L' I I' j X h hc hm hl (by omega)
  rcases out with ⟨rfl, j', Y, lo, yl, q1, q2, sg⟩ | ⟨rfl, fl⟩
  · obtain ⟨ok, J, J', r, r', G, G', out⟩ := sum_loop (e := e) (e' := e') (m := m) hT ho hU L L' h hh N j' J2 J2' (X ++ Y) 0 vx vx (by omega) (Nat.zero_le _) q1 q2 (by rw [List.length_append]; omega)
    refine ⟨ok, J, J', Eq.trans (P54_0_0 (c1 := s2)) r, Eq.trans (P172_0_1 (c1 := s2')) r', F2.tr G, F2'.tr G', ?_⟩
    rcases out with ⟨rfl, j2, Y2, lo2, yl2, w1, w2, sg2⟩ | ⟨rfl, fl⟩
    · refine Or.inl ⟨rfl, j2, Y ++ Y2, by omega, by rw [List.length_append]; omega, by rw [← List.append_assoc]; exact w1, by rw [← List.append_assoc]; exact w2, fun R => ?_⟩
      rw [List.append_assoc, sg, sg2]
    · exact Or.inr ⟨rfl, fl⟩
  · exact ⟨0, J2, J2', Eq.trans (P54_0_1 (c1 := s2)) (P54_8_5 (h1 := by decide) (h2 := rfl) (g1 := Or.inl rfl)), P172_0_0 (c1 := s2'), F2, F2', Or.inr ⟨rfl, fl⟩⟩
theorem sums {e e' : Nat} (hT : TokH b n N) : ∀ (m o : Nat), o + m = 8 → POk b n N t t' 54 172 (e + 3 * m + 4) (e' + 3 * m + 14) o (2 * o)
  | 0, o, ho => sum_ok hT (by omega) (prod_ok hT (by omega) (unit_ok hT ho (fun m' hm => by omega)))
  | m + 1, o, ho => sum_ok hT (by omega) (prod_ok hT (by omega) (unit_ok hT ho (fun m' hm => by
    have : m' = m := by omega
    subst this
    exact sums hT m' (o + 1) (by omega))))
end SUM
