/-! what was said is read, on both sides -/
def mt1P (T : Int) : Prop := (T = 18 ↔ mtkS 1 T = 3) ∧ (T = 23 ↔ mtkS 1 T = 2) ∧ (T = 60 ↔ mtkS 1 T = 160) ∧ (T = 61 ↔ mtkS 1 T = 161) ∧ (T = 62 ↔ mtkS 1 T = 162) ∧ (T = 59 ↔ mtkS 1 T = 159) ∧ (T = 24 ↔ mtkS 1 T = 0) ∧ 0 ≤ mtkS 1 T ∧ mtkS 1 T ≤ 200
def mt2P (T : Int) : Prop := ((19 ≤ T ∧ T ≤ 22) ↔ (4 ≤ mtkS 2 T ∧ mtkS 2 T ≤ 7)) ∧ (19 ≤ T ∧ T ≤ 22 → mtkS 2 T = T - 15) ∧ (T = 23 ↔ mtkS 2 T = 2) ∧ (T = 59 ↔ mtkS 2 T = 159) ∧ (T = 24 ↔ mtkS 2 T = 0)
theorem mt12_k : ∀ k : Fin 63, (k.val ≤ 25 ∨ k.val = 40 ∨ k.val = 41 ∨ k.val = 42 ∨ k.val = 43 ∨ k.val = 45 ∨ k.val = 47 ∨ k.val = 59 ∨ k.val = 60 ∨ k.val = 61 ∨ k.val = 62) → mt1P (k.val : Int) ∧ mt2P (k.val : Int) := by
  unfold mt1P mt2P mtkS mwd msB
  decide +kernel
theorem mt12 (b : Nat → Int) (n q : Nat) : mt1P (tkC b n q) ∧ mt2P (tkC b n q) := by
  have h := tk_in b n q
  obtain ⟨x, ex⟩ : ∃ x : Nat, tkC b n q = (x : Int) := ⟨(tkC b n q).toNat, by omega⟩
  rw [ex] at h ⊢
  exact mt12_k ⟨x, by omega⟩ (show x ≤ 25 ∨ x = 40 ∨ x = 41 ∨ x = 42 ∨ x = 43 ∨ x = 45 ∨ x = 47 ∨ x = 59 ∨ x = 60 ∨ x = 61 ∨ x = 62 by omega)
def sC7 (r _ c : Nat) : Bool := r == 7 && decide (7 ≤ c ∧ c ≤ 12)
def sM12 (r _ c : Nat) : Bool := r == 12 && decide (37 ≤ c ∧ c ≤ 42)
theorem s38_c7 {I J : H3} (F : Fr s38 I J) : Fr sC7 I J := F.mo (fun r i c k => by
  unfold sC7 at k
  unfold s38
  simp only [Bool.or_eq_false_iff, Bool.and_eq_false_iff, beq_eq_false_iff_ne, decide_eq_false_iff_not] at k ⊢
  omega)
theorem s37_m12 {I J : H3} (F : Fr s37 I J) : Fr sM12 I J := F.mo (fun r i c k => by
  unfold sM12 at k
  unfold s37
  simp only [Bool.or_eq_false_iff, Bool.and_eq_false_iff, beq_eq_false_iff_ne, decide_eq_false_iff_not] at k ⊢
  omega)
def FlS (J J' : H3) : Prop := J 7 0 11 = J' 12 0 41 ∧ J 7 0 12 = J' 12 0 42
section CURS
variable {b : Nat → Int} {n N : Nat} {t t' : Nat → Nat}
theorem Cur.lt {I : H3} {j : Nat} (hT : TokH b n N) (h : Cur b n N I j) (k : tkC b n (stN b n j) ≠ 24) : j < N := by
  have := h.2.2.2.2.2.2
  have e : j ≠ N := fun z => k (by rw [z]; exact tk_end.mpr (by rw [hT.2.2.1]; exact Nat.le_refl _))
  omega
theorem Cur.step {d : Nat} {L I : H3} {j : Nat} (hT : TokH b n N) (h : Cur b n N I j) (hj : j < N) : ∃ J, Cal d 38 [vr 7 0] (mk I L t) = some (vx, mk J L t) ∧ Fr sC7 I J ∧ Cur b n N J (j + 1) := by
  obtain ⟨J, c, F, k⟩ := sp38 (d := d) (L := L) (t := t) (by have := hT.1; have := hT.2.1; omega) h hj
  exact ⟨J, c, s38_c7 F, k⟩
theorem MCur.step {d : Nat} {L I : H3} {j : Nat} {so : Int} (hso : so = 0 ∨ so = 1 ∨ so = 2) (hT : TokH b n N) (h : MCur b n so I j) : ∃ J, Cal (d + 10) 168 [vr 12 0] (mk I L t) = some (vx, mk J L t) ∧ Fr sM12 I J ∧ MCur b n so J (j + 1) := by
  obtain ⟨J, c, F, k⟩ := sp168 (d := d) (L := L) (t := t) hT.1 hso hT.2.2.2.2 h
  exact ⟨J, c, s37_m12 F, k⟩
theorem bad_s {d d' : Nat} {L L' I I' : H3} {j : Nat} {so : Int} (k : Int) (h : Cur b n N I j) (h' : MCur b n so I' j) : ∃ J J', Cal d 37 [vr 7 0, vi k] (mk I L t) = some (vi 0, mk J L t) ∧ Cal d' 169 [vr 12 0, vi k] (mk I' L' t') = some (vi 0, mk J' L' t') ∧ Fr sC7 I J ∧ Fr sM12 I' J' ∧ FlS J J' := by
  refine ⟨_, _, P37_0_0, P169_0_0, (Fr.rfl'.up rfl).up rfl, (Fr.rfl'.up rfl).up rfl, ?_, ?_⟩
  · rw [up_s (by decide), up_e, up_s (by decide), up_e]
  · rw [up_e, up_e, h.2.2.2.2.1, h'.2.2.2.1]
theorem sign_s {d d' : Nat} {L L' I I' : H3} {j : Nat} {so : Int} (hso : so = 0 ∨ so = 1 ∨ so = 2) (c : Int) (hc : ∀ q, tkC b n q = c ↔ mtkS so (tkC b n q) = w32 (100 + c)) (hn : c ≠ 24) (hT : TokH b n N) (h : Cur b n N I j) (h' : MCur b n so I' j) :
    ∃ ok J J', Cal (d + 1) 58 [vr 8 0, vi c] (mk I L t) = some (vi ok, mk J L t) ∧ Cal (d' + 11) 170 [vr 12 0, vi c] (mk I' L' t') = some (vi ok, mk J' L' t') ∧ Fr sC7 I J ∧ Fr sM12 I' J' ∧ ((ok = 1 ∧ Cur b n N J (j + 1) ∧ MCur b n so J' (j + 1)) ∨ (ok = 0 ∧ FlS J J')) := by
  have e := h.2.2.2.1
  have e' := h'.2.2.2.2.2.1
  by_cases q : tkC b n (stN b n j) = c
  · obtain ⟨J, s, F, k⟩ := h.step (d := d) (L := L) (t := t) hT (h.lt hT (by rw [q]; exact hn))
    obtain ⟨J', s', F', k'⟩ := h'.step (d := d') (L := L') (t := t') hso hT
    exact ⟨1, J, J', P58_0_2 (h1 := by rw [e]; exact q) (c1 := s), P170_0_2 (h1 := by rw [e']; exact (hc _).mp q) (c1 := s'), F, F', Or.inl ⟨rfl, k, k'⟩⟩
  · obtain ⟨J, J', s, s', F, F', f⟩ := bad_s (d := d) (d' := d' + 10) (L := L) (L' := L') (t := t) (t' := t') 1 h h'
    exact ⟨0, J, J', P58_0_1 (h1 := by rw [e]; exact q) (c1 := s), P170_0_1 (h1 := by rw [e']; exact fun z => q ((hc _).mpr z)) (c1 := s'), F, F', Or.inr ⟨rfl, f⟩⟩
end CURS
section SAID
variable {b : Nat → Int} {n N : Nat} {t t' : Nat → Nat}
/-! the three signs, by one name -/
theorem c61t {d : Nat} {x1 s : Int} {I L J1 J2 J3 J4 : H3} (hs : s = 60 ∨ s = 61 ∨ s = 62) (c1 : Cal d 59 [vr 8 0, vi 15] (mk I L t) = some (vi 1, mk J1 L t)) (h1 : J1 7 0 8 = s) (c2 : Cal d 38 [vr 7 0] (mk J1 L t) = some (vx, mk J2 L t)) (c3 : Cal d 59 [vr 8 0, vi 9999] (mk J2 L t) = some (vi 1, mk J3 L t)) (c4 : Cal d 30 [vr 5 (t 11), vi x1, vi (I 7 0 10), vi s, vi (J2 7 0 10)] (mk J3 L t) = some (vx, mk J4 L t)) : Cal (d + 1) 61 [vr 8 0, vi x1] (mk I L t) = some (vi 1, mk J4 L t) := by
  rw [← h1] at c4
  rcases hs with z | z | z <;> rw [z] at h1
  · exact P61_0_8 (c1 := c1) (h1 := h1) (c2 := c2) (c3 := c3) (c4 := c4)
  · exact P61_0_6 (c1 := c1) (h1 := by rw [h1]; decide) (h2 := h1) (c2 := c2) (c3 := c3) (c4 := c4)
  · exact P61_0_4 (c1 := c1) (h1 := by rw [h1]; decide) (h2 := by rw [h1]; decide) (h3 := h1) (c2 := c2) (c3 := c3) (c4 := c4)
theorem c61f {d : Nat} {x1 s : Int} {I L J1 J2 J3 : H3} (hs : s = 60 ∨ s = 61 ∨ s = 62) (c1 : Cal d 59 [vr 8 0, vi 15] (mk I L t) = some (vi 1, mk J1 L t)) (h1 : J1 7 0 8 = s) (c2 : Cal d 38 [vr 7 0] (mk J1 L t) = some (vx, mk J2 L t)) (c3 : Cal d 59 [vr 8 0, vi 9999] (mk J2 L t) = some (vi 0, mk J3 L t)) : Cal (d + 1) 61 [vr 8 0, vi x1] (mk I L t) = some (vi 0, mk J3 L t) := by
  rcases hs with z | z | z <;> rw [z] at h1
  · exact P61_0_7 (c1 := c1) (h1 := h1) (c2 := c2) (c3 := c3)
  · exact P61_0_5 (c1 := c1) (h1 := by rw [h1]; decide) (h2 := h1) (c2 := c2) (c3 := c3)
  · exact P61_0_3 (c1 := c1) (h1 := by rw [h1]; decide) (h2 := by rw [h1]; decide) (h3 := h1) (c2 := c2) (c3 := c3)
theorem m176t {d : Nat} {s ok v1 v3 : Int} {ln : Nat} {I L J1 J2 J3 J4 J5 : H3} (hs : s = 60 ∨ s = 61 ∨ s = 62) (hok : ok = 0 ∨ ok = 1) (hl : ln < 12) (h1 : I 12 0 38 = 3) (h2 : I 12 0 34 = (ln : Int)) (c1 : Cal d 168 [vr 12 0] (mk I L t) = some (vx, mk J1 L t)) (h3 : J1 12 0 38 = 2) (hv : J1 12 0 40 = v1) (h4 : v1 ≤ 15) (g1 : J1 12 0 34 = (ln : Int)) (c2 : Cal d 168 [vr 12 0] (mk (up3 J1 67 0 ln v1) L t) = some (vx, mk J2 L t)) (h5 : w32 (J2 12 0 38 - 100) = s) (g2 : J2 12 0 34 = (ln : Int)) (c3 : Cal d 168 [vr 12 0] (mk (up3 J2 68 0 ln s) L t) = some (vx, mk J3 L t)) (h8 : J3 12 0 38 = 2) (g3 : J3 12 0 34 = (ln : Int)) (hv3 : J3 12 0 40 = v3) (c4 : Cal d 168 [vr 12 0] (mk (up3 J3 69 0 ln v3) L t) = some (vx, mk J4 L t)) (c5 : Cal d 170 [vr 12 0, vi 59] (mk J4 L t) = some (vi ok, mk J5 L t)) : Cal (d + 1) 176 [vr 12 0] (mk I L t) = some (vi ok, mk J5 L t) := by
  have n12 : ¬ I 12 0 34 = 12 := by omega
  have l1 : J1 12 0 40 ≤ 15 := by omega
  have q1 : 0 ≤ J1 12 0 34 ∧ J1 12 0 34 < 12 := by omega
  have q2 : 0 ≤ J2 12 0 34 ∧ J2 12 0 34 < 12 := by omega
  have q3 : 0 ≤ J3 12 0 34 ∧ J3 12 0 34 < 12 := by omega
  have c2' : Cal d 168 [vr 12 0] (mk (up3 J1 67 0 (J1 12 0 34).toNat (J1 12 0 40)) L t) = some (vx, mk J2 L t) := by rw [g1, hv, Int.toNat_natCast]; exact c2
  have c3' : Cal d 168 [vr 12 0] (mk (up3 J2 68 0 (J2 12 0 34).toNat (w32 (J2 12 0 38 - 100))) L t) = some (vx, mk J3 L t) := by rw [g2, h5, Int.toNat_natCast]; exact c3
  have c4' : Cal d 168 [vr 12 0] (mk (up3 J3 69 0 (J3 12 0 34).toNat (J3 12 0 40)) L t) = some (vx, mk J4 L t) := by rw [g3, hv3, Int.toNat_natCast]; exact c4
  rcases hs with z | z | z <;> rw [z] at h5 <;> rcases hok with y | y <;> rw [y] at c5 ⊢
  · exact P176_0_21 (h1 := h1) (h2 := n12) (c1 := c1) (h3 := h3) (h4 := l1) (g1 := q1) (c2 := c2') (h5 := h5) (g2 := q2) (c3 := c3') (h6 := h8) (g3 := q3) (c4 := c4') (c5 := c5)
  · exact P176_0_20 (h1 := h1) (h2 := n12) (c1 := c1) (h3 := h3) (h4 := l1) (g1 := q1) (c2 := c2') (h5 := h5) (g2 := q2) (c3 := c3') (h6 := h8) (g3 := q3) (c4 := c4') (c5 := c5)
  · exact P176_0_17 (h1 := h1) (h2 := n12) (c1 := c1) (h3 := h3) (h4 := l1) (g1 := q1) (c2 := c2') (h5 := by rw [h5]; decide) (h6 := h5) (g2 := q2) (c3 := c3') (h7 := h8) (g3 := q3) (c4 := c4') (c5 := c5)
  · exact P176_0_16 (h1 := h1) (h2 := n12) (c1 := c1) (h3 := h3) (h4 := l1) (g1 := q1) (c2 := c2') (h5 := by rw [h5]; decide) (h6 := h5) (g2 := q2) (c3 := c3') (h7 := h8) (g3 := q3) (c4 := c4') (c5 := c5)
  · exact P176_0_13 (h1 := h1) (h2 := n12) (c1 := c1) (h3 := h3) (h4 := l1) (g1 := q1) (c2 := c2') (h5 := by rw [h5]; decide) (h6 := by rw [h5]; decide) (h7 := h5) (g2 := q2) (c3 := c3') (h8 := h8) (g3 := q3) (c4 := c4') (c5 := c5)
  · exact P176_0_12 (h1 := h1) (h2 := n12) (c1 := c1) (h3 := h3) (h4 := l1) (g1 := q1) (c2 := c2') (h5 := by rw [h5]; decide) (h6 := by rw [h5]; decide) (h7 := h5) (g2 := q2) (c3 := c3') (h8 := h8) (g3 := q3) (c4 := c4') (c5 := c5)
theorem m176f {d : Nat} {s v1 : Int} {ln : Nat} {I L J1 J2 J3 J4 : H3} (hs : s = 60 ∨ s = 61 ∨ s = 62) (hl : ln < 12) (h1 : I 12 0 38 = 3) (h2 : I 12 0 34 = (ln : Int)) (c1 : Cal d 168 [vr 12 0] (mk I L t) = some (vx, mk J1 L t)) (h3 : J1 12 0 38 = 2) (hv : J1 12 0 40 = v1) (h4 : v1 ≤ 15) (g1 : J1 12 0 34 = (ln : Int)) (c2 : Cal d 168 [vr 12 0] (mk (up3 J1 67 0 ln v1) L t) = some (vx, mk J2 L t)) (h5 : w32 (J2 12 0 38 - 100) = s) (g2 : J2 12 0 34 = (ln : Int)) (c3 : Cal d 168 [vr 12 0] (mk (up3 J2 68 0 ln s) L t) = some (vx, mk J3 L t)) (h8 : ¬ J3 12 0 38 = 2) (c4 : Cal d 169 [vr 12 0, vi 1] (mk J3 L t) = some (vi 0, mk J4 L t)) : Cal (d + 1) 176 [vr 12 0] (mk I L t) = some (vi 0, mk J4 L t) := by
  have n12 : ¬ I 12 0 34 = 12 := by omega
  have l1 : J1 12 0 40 ≤ 15 := by omega
  have q1 : 0 ≤ J1 12 0 34 ∧ J1 12 0 34 < 12 := by omega
  have q2 : 0 ≤ J2 12 0 34 ∧ J2 12 0 34 < 12 := by omega
  have c2' : Cal d 168 [vr 12 0] (mk (up3 J1 67 0 (J1 12 0 34).toNat (J1 12 0 40)) L t) = some (vx, mk J2 L t) := by rw [g1, hv, Int.toNat_natCast]; exact c2
  have c3' : Cal d 168 [vr 12 0] (mk (up3 J2 68 0 (J2 12 0 34).toNat (w32 (J2 12 0 38 - 100))) L t) = some (vx, mk J3 L t) := by rw [g2, h5, Int.toNat_natCast]; exact c3
  rcases hs with z | z | z <;> rw [z] at h5
  · exact P176_0_19 (h1 := h1) (h2 := n12) (c1 := c1) (h3 := h3) (h4 := l1) (g1 := q1) (c2 := c2') (h5 := h5) (g2 := q2) (c3 := c3') (h6 := h8) (c4 := c4)
  · exact P176_0_15 (h1 := h1) (h2 := n12) (c1 := c1) (h3 := h3) (h4 := l1) (g1 := q1) (c2 := c2') (h5 := by rw [h5]; decide) (h6 := h5) (g2 := q2) (c3 := c3') (h7 := h8) (c4 := c4)
  · exact P176_0_11 (h1 := h1) (h2 := n12) (c1 := c1) (h3 := h3) (h4 := l1) (g1 := q1) (c2 := c2') (h5 := by rw [h5]; decide) (h6 := by rw [h5]; decide) (h7 := h5) (g2 := q2) (c3 := c3') (h8 := h8) (c4 := c4)
/-- lines said so far -/
def DS (I I' : H3) (S ln : Nat) : Prop := I 5 S 3 = (ln : Int) ∧ I' 12 0 34 = (ln : Int) ∧ ln ≤ 12 ∧ ∀ i, i < ln → (I' 67 0 i = I 31 S i ∧ 0 ≤ I 31 S i ∧ I 31 S i < 16) ∧ I' 68 0 i = I 32 S i ∧ I' 69 0 i = I 33 S i
def sSd (S r i c : Nat) : Bool := sC7 r i c || ((r == 31 || r == 32 || r == 33) && i == S) || (r == 5 && i == S && c == 3)
def sSe' (r i c : Nat) : Bool := sM12 r i c || r == 67 || r == 68 || r == 69 || (r == 12 && c == 34)
theorem sC7_d {S : Nat} {I J : H3} (F : Fr sC7 I J) : Fr (sSd S) I J := F.mo (fun r i c k => by
  unfold sSd at k
  simp only [Bool.or_eq_false_iff] at k
  exact k.1.1)
theorem sM12_e {I J : H3} (F : Fr sM12 I J) : Fr sSe' I J := F.mo (fun r i c k => by
  unfold sSe' at k
  simp only [Bool.or_eq_false_iff] at k
  exact k.1.1.1.1)
theorem sign59_1 : ∀ q, tkC b n q = 59 ↔ mtkS 1 (tkC b n q) = w32 (100 + 59) := fun q => (mt12 b n q).1.2.2.2.2.2.1
theorem saids {e e' : Nat} (hT : TokH b n N) (L L' : H3) : ∀ (f j : Nat) (I I' : H3) (x ln : Nat), N ≤ j + f → x ≤ j → Cur b n N I j → MCur b n 1 I' j → DS I I' (t 11) ln →
    ∃ ok J J', Res (e + 4) 60 10 [vr 8 0, vi (x : Int)] [] (mk I L t) = some (vi ok, mk J L t) ∧ Res (e' + 13) 178 0 [vr 12 0] [] (mk I' L' t') = some (vi ok, mk J' L' t') ∧ Fr (sSd (t 11)) I J ∧ Fr sSe' I' J' ∧ ((ok = 1 ∧ OkF J J' ∧ ∃ ln, DS J J' (t 11) ln) ∨ (ok = 0 ∧ FlS J J'))
  | f, j, I, I', x, ln, hf, hx, hc, hm, hd => by
    have e8 := hc.2.2.2.1
    have m38 := hm.2.2.2.2.2.1
    have m45 := hm.2.2.1
    have M := (mt12 b n (stN b n j)).1
    have hN := hT.1
    have hN2 := hT.2.1
    have jN := hc.2.2.2.2.2.2
    have x400 : (x : Int) ≤ 400 := by omega
    have wx : w32 ((x : Int) + 1) = ((x + 1 : Nat) : Int) := lem_w32k (by omega)
    have n45 : ¬ I' 12 0 45 = 0 := by rw [m45]; decide
    by_cases a : tkC b n (stN b n j) = 24
    · exact ⟨1, I, I', P60_10_0 (h1 := x400) (h2 := by rw [e8]; exact a), P178_0_6 (h1 := by rw [m38]; exact M.2.2.2.2.2.2.1.mp a), Fr.rfl', Fr.rfl', Or.inl ⟨rfl, ⟨hc.2.2.2.2.2.2.2.1, hc.2.2.2.2.2.2.2.2, hm.1.2⟩, ln, hd⟩⟩
    · have a1 : ¬ I 7 0 8 = 24 := by rw [e8]; exact a
      have a' : ¬ I' 12 0 38 = 0 := by rw [m38]; exact fun z => a (M.2.2.2.2.2.2.1.mpr z)
      have jlt := hc.lt hT a
      by_cases g : tkC b n (stN b n j) = 18
      · have g1 : I 7 0 8 = 18 := by rw [e8]; exact g
        have g' : I' 12 0 38 = 3 := by rw [m38]; exact M.1.mp g
        by_cases q : ln < 12
        · have h4 : I 5 (t 11) 3 < 12 := by rw [hd.1]; omega
          have n12 : ¬ I' 12 0 34 = 12 := by rw [hd.2.1]; omega
          obtain ⟨I1, s1, F1, k1⟩ := hc.step (d := e + 3) (L := L) (t := t) hT jlt
          obtain ⟨B1, s1', F1', k1'⟩ := hm.step (d := e' + 1) (L := L') (t := t') (Or.inr (Or.inl rfl)) hT
          have l1 : I1 5 (t 11) 3 = (ln : Int) := by rw [F1 5 (t 11) 3 rfl]; exact hd.1
          have l1' : B1 12 0 34 = (ln : Int) := by rw [F1' 12 0 34 rfl]; exact hd.2.1
          have f8 := k1.2.2.2.1
          have f10 := k1.2.2.2.2.2.1
          have M1 := (mt12 b n (stN b n (j + 1))).1
          have n38 := k1'.2.2.2.2.2.1
          have n40 := k1'.2.2.2.2.2.2
          have v1 := vl_in (b := b) (n := n) (q := stN b n (j + 1))
          -- failing in the line
          have endF : ∀ (J J' : H3), Cal (e + 3) 61 [vr 8 0, vi (ln : Int)] (mk I1 L t) = some (vi 0, mk J L t) → Cal (e' + 12) 176 [vr 12 0] (mk I' L' t') = some (vi 0, mk J' L' t') → Fr (sSd (t 11)) I1 J → Fr sSe' B1 J' → FlS J J' → ∃ ok J J', Res (e + 4) 60 10 [vr 8 0, vi (x : Int)] [] (mk I L t) = some (vi ok, mk J L t) ∧ Res (e' + 13) 178 0 [vr 12 0] [] (mk I' L' t') = some (vi ok, mk J' L' t') ∧ Fr (sSd (t 11)) I J ∧ Fr sSe' I' J' ∧ ((ok = 1 ∧ OkF J J' ∧ ∃ ln, DS J J' (t 11) ln) ∨ (ok = 0 ∧ FlS J J')) := fun J J' c c' F F' fl =>
            ⟨0, J, J', P60_10_7 (h1 := x400) (h2 := a1) (h3 := g1) (h4 := h4) (c1 := s1) (c2 := by rw [l1]; exact c), P178_0_2 (h1 := a') (h2 := n45) (h3 := m45) (c1 := c'), (sC7_d F1).tr F, (sM12_e F1').tr F', Or.inr ⟨rfl, fl⟩⟩
          by_cases y : tkC b n (stN b n (j + 1)) = 23
          · have y2 : B1 12 0 38 = 2 := by rw [n38]; exact M1.2.1.mp y
            have y3 := n40 y
            by_cases z : vlN b n (stN b n (j + 1)) ≤ 15
            · have jlt1 := k1.lt hT (by rw [y]; decide)
              obtain ⟨I2, s2, F2, k2⟩ := k1.step (d := e + 1) (L := L) (t := t) hT jlt1
              have c1 : Cal (e + 2) 59 [vr 8 0, vi 15] (mk I1 L t) = some (vi 1, mk I2 L t) := P59_0_4 (h1 := by rw [f8]; exact y) (h2 := by rw [f10]; exact z) (c1 := s2)
              obtain ⟨C1, hC1⟩ : ∃ C1 : H3, C1 = up3 B1 67 0 ln (vlN b n (stN b n (j + 1))) := ⟨_, rfl⟩
              have FC1 : Fr (fun r _ c => r == 67 && c == ln) B1 C1 := by rw [hC1]; exact Fr.rfl'.up (by simp)
              have k1c : MCur b n 1 C1 (j + 1) := k1'.fr FC1 (fun _ => rfl) ⟨rfl, rfl, rfl, rfl, rfl, rfl, rfl⟩
              obtain ⟨B2, s2', F2', k2'⟩ := k1c.step (d := e' + 1) (L := L') (t := t') (Or.inr (Or.inl rfl)) hT
              have l2' : B2 12 0 34 = (ln : Int) := by rw [F2' 12 0 34 rfl, FC1 12 0 34 rfl]; exact l1'
              have h8 := k2.2.2.2.1
              have M2 := (mt12 b n (stN b n (j + 1 + 1))).1
              have p38 := k2'.2.2.2.2.2.1
              have w5 : w32 (B2 12 0 38 - 100) = mtkS 1 (tkC b n (stN b n (j + 1 + 1))) - 100 := by rw [p38, w32_s (by have := M2.2.2.2.2.2.2.2; omega)]
              by_cases v : tkC b n (stN b n (j + 1 + 1)) = 60 ∨ tkC b n (stN b n (j + 1 + 1)) = 61 ∨ tkC b n (stN b n (j + 1 + 1)) = 62
              · have w5' : w32 (B2 12 0 38 - 100) = tkC b n (stN b n (j + 1 + 1)) := by
                  rw [w5]
                  rcases v with v | v | v <;> rw [v] <;> rfl
                have jlt2 := k2.lt hT (by rcases v with v | v | v <;> rw [v] <;> decide)
                obtain ⟨I3, s3, F3, k3⟩ := k2.step (d := e + 2) (L := L) (t := t) hT jlt2
                obtain ⟨C2, hC2⟩ : ∃ C2 : H3, C2 = up3 B2 68 0 ln (tkC b n (stN b n (j + 1 + 1))) := ⟨_, rfl⟩
                have FC2 : Fr (fun r _ c => r == 68 && c == ln) B2 C2 := by rw [hC2]; exact Fr.rfl'.up (by simp)
                have k2c : MCur b n 1 C2 (j + 1 + 1) := k2'.fr FC2 (fun _ => rfl) ⟨rfl, rfl, rfl, rfl, rfl, rfl, rfl⟩
                obtain ⟨B3, s3', F3', k3'⟩ := k2c.step (d := e' + 1) (L := L') (t := t') (Or.inr (Or.inl rfl)) hT
                have l3' : B3 12 0 34 = (ln : Int) := by rw [F3' 12 0 34 rfl, FC2 12 0 34 rfl]; exact l2'
                have i8 := k3.2.2.2.1
                have i10 := k3.2.2.2.2.2.1
                have M3 := (mt12 b n (stN b n (j + 1 + 1 + 1))).1
                have r38 := k3'.2.2.2.2.2.1
                have r40 := k3'.2.2.2.2.2.2
                have v3 := vl_in (b := b) (n := n) (q := stN b n (j + 1 + 1 + 1))
                have FB3 : Fr sSe' B1 B3 := (FC1.mo (fun r i c k => by
                  unfold sSe' at k
                  simp only [Bool.or_eq_false_iff] at k
                  simp only [k.1.1.1.2, Bool.false_and])).tr ((sM12_e F2').tr ((FC2.mo (fun r i c k => by
                  unfold sSe' at k
                  simp only [Bool.or_eq_false_iff] at k
                  simp only [k.1.1.2, Bool.false_and])).tr (sM12_e F3')))
                have FI3 : Fr (sSd (t 11)) I1 I3 := (sC7_d F2).tr (sC7_d F3)
                by_cases u : tkC b n (stN b n (j + 1 + 1 + 1)) = 23
                · have u2 : B3 12 0 38 = 2 := by rw [r38]; exact M3.2.1.mp u
                  have jlt3 := k3.lt hT (by rw [u]; decide)
                  obtain ⟨I4, s4, F4, k4⟩ := k3.step (d := e + 1) (L := L) (t := t) hT jlt3
                  have c3 : Cal (e + 2) 59 [vr 8 0, vi 9999] (mk I3 L t) = some (vi 1, mk I4 L t) := P59_0_4 (h1 := by rw [i8]; exact u) (h2 := by rw [i10]; exact v3.2) (c1 := s4)
                  have c4 := P30_0_1 (d := e + 1) (L := L) (t := t) (I := I4) (i0 := t 11) (x1 := (ln : Int)) (x2 := vlN b n (stN b n (j + 1))) (x3 := tkC b n (stN b n (j + 1 + 1))) (x4 := vlN b n (stN b n (j + 1 + 1 + 1))) (h1 := by omega) (g1 := by omega)
                  rw [Int.toNat_natCast] at c4
                  obtain ⟨A5, hA5⟩ : ∃ A5 : H3, A5 = up3 (up3 (up3 I4 31 (t 11) ln (vlN b n (stN b n (j + 1)))) 32 (t 11) ln (tkC b n (stN b n (j + 1 + 1)))) 33 (t 11) ln (vlN b n (stN b n (j + 1 + 1 + 1))) := ⟨_, rfl⟩
                  rw [← hA5] at c4
                  have FA5 : Fr (fun r i c => (r == 31 || r == 32 || r == 33) && i == t 11 && c == ln) I4 A5 := by
                    rw [hA5]
                    exact ((Fr.rfl'.up (by simp)).up (by simp)).up (by simp)
                  have k5 : Cur b n N A5 (j + 1 + 1 + 1 + 1) := k4.fr FA5 (fun _ => ⟨rfl, rfl, rfl⟩) ⟨rfl, rfl, rfl, rfl, rfl, rfl, rfl⟩
                  have c61 : Cal (e + 3) 61 [vr 8 0, vi (ln : Int)] (mk I1 L t) = some (vi 1, mk A5 L t) := c61t v c1 h8 s3 c3 (by rw [f10, i10]; exact c4)
                  obtain ⟨C3, hC3⟩ : ∃ C3 : H3, C3 = up3 B3 69 0 ln (vlN b n (stN b n (j + 1 + 1 + 1))) := ⟨_, rfl⟩
                  have FC3 : Fr (fun r _ c => r == 69 && c == ln) B3 C3 := by rw [hC3]; exact Fr.rfl'.up (by simp)
                  have k3c : MCur b n 1 C3 (j + 1 + 1 + 1) := k3'.fr FC3 (fun _ => rfl) ⟨rfl, rfl, rfl, rfl, rfl, rfl, rfl⟩
                  obtain ⟨B4, s4', F4', k4'⟩ := k3c.step (d := e' + 1) (L := L') (t := t') (Or.inr (Or.inl rfl)) hT
                  obtain ⟨ok2, I6, B5, s5, s5', F5, F5', out⟩ := sign_s (d := e + 2) (d' := e') (L := L) (L' := L') (t := t) (t' := t') (Or.inr (Or.inl rfl)) 59 sign59_1 (by decide) hT k5 k4'
                  have ok01 : ok2 = 0 ∨ ok2 = 1 := by rcases out with ⟨z, _⟩ | ⟨z, _⟩ <;> omega
                  have c176 : Cal (e' + 12) 176 [vr 12 0] (mk I' L' t') = some (vi ok2, mk B5 L' t') := m176t v ok01 q g' hd.2.1 s1' y2 y3 z l1' (by rw [← hC1]; exact s2') w5' l2' (by rw [← hC2]; exact s3') u2 l3' (r40 u) (by rw [← hC3]; exact s4') s5'
                  have FB5 : Fr sSe' I' B5 := (sM12_e F1').tr (FB3.tr ((FC3.mo (fun r i c k => by
                    unfold sSe' at k
                    simp only [Bool.or_eq_false_iff] at k
                    simp only [k.1.2, Bool.false_and])).tr ((sM12_e F4').tr (sM12_e F5'))))
                  have FI6 : Fr (sSd (t 11)) I I6 := (sC7_d F1).tr (FI3.tr ((sC7_d F4).tr ((FA5.mo (fun r i c k => by
                    unfold sSd at k
                    simp only [Bool.or_eq_false_iff] at k
                    simp only [k.1.2, Bool.false_and])).tr (sC7_d F5))))
                  rcases out with ⟨rfl, w1, w2⟩ | ⟨rfl, fl⟩
                  · have e3 : I6 5 (t 11) 3 = (ln : Int) := by rw [F5 5 (t 11) 3 rfl, FA5 5 (t 11) 3 rfl, F4 5 (t 11) 3 rfl, F3 5 (t 11) 3 rfl, F2 5 (t 11) 3 rfl]; exact l1
                    have e34 : B5 12 0 34 = (ln : Int) := by rw [F5' 12 0 34 rfl, F4' 12 0 34 rfl, FC3 12 0 34 rfl]; exact l3'
                    obtain ⟨A7, hA7⟩ : ∃ A7 : H3, A7 = up3 I6 5 (t 11) 3 ((ln + 1 : Nat) : Int) := ⟨_, rfl⟩
                    have FA7 : Fr (fun r i c => r == 5 && i == t 11 && c == 3) I6 A7 := by rw [hA7]; exact Fr.rfl'.up (by simp)
                    obtain ⟨B6, hB6⟩ : ∃ B6 : H3, B6 = up3 B5 12 0 34 ((ln + 1 : Nat) : Int) := ⟨_, rfl⟩
                    have FB6 : Fr (fun r _ c => r == 12 && c == 34) B5 B6 := by rw [hB6]; exact Fr.rfl'.up rfl
                    match f, hf with
                    | 0, hf => omega
                    | f + 1, hf =>
                    obtain ⟨ok, J, J', r, r', G, G', out⟩ := saids hT L L' f (j + 1 + 1 + 1 + 1 + 1) A7 B6 (x + 1) (ln + 1) (by omega) (by omega) (w1.fr FA7 (fun _ => ⟨rfl, rfl, rfl⟩) ⟨rfl, rfl, rfl, rfl, rfl, rfl, rfl⟩) (w2.fr FB6 (fun _ => rfl) ⟨rfl, rfl, rfl, rfl, rfl, rfl, rfl⟩) ⟨by rw [hA7, up_e], by rw [hB6, up_e], by omega, fun i hi => by
                      have b7 : ∀ r, r = 67 ∨ r = 68 ∨ r = 69 → B6 r 0 i = B4 r 0 i := fun r hr => by
                        rw [FB6 r 0 i (by simp only [Bool.and_eq_false_iff, beq_eq_false_iff_ne]; omega), F5' r 0 i (by unfold sM12; simp only [Bool.and_eq_false_iff, beq_eq_false_iff_ne]; omega)]
                      have a7 : ∀ r, r = 31 ∨ r = 32 ∨ r = 33 → A7 r (t 11) i = A5 r (t 11) i := fun r hr => by
                        rw [FA7 r (t 11) i (by simp only [Bool.and_eq_false_iff, beq_eq_false_iff_ne]; omega), F5 r (t 11) i (by unfold sC7; simp only [Bool.and_eq_false_iff, beq_eq_false_iff_ne]; omega)]
                      rw [b7 67 (by omega), b7 68 (by omega), b7 69 (by omega), a7 31 (by omega), a7 32 (by omega), a7 33 (by omega)]
                      by_cases zz : i = ln
                      · subst zz
                        rw [F4' 67 0 i rfl, FC3 67 0 i rfl, F3' 67 0 i rfl, FC2 67 0 i rfl, F2' 67 0 i rfl, hC1, up_e, F4' 68 0 i rfl, FC3 68 0 i rfl, F3' 68 0 i rfl, hC2, up_e, F4' 69 0 i rfl, hC3, up_e, hA5, up_r (show (31 : Nat) ≠ 33 by decide), up_r (show (31 : Nat) ≠ 32 by decide), up_e, up_r (show (32 : Nat) ≠ 33 by decide), up_e, up_e]
                        exact ⟨⟨rfl, v1.1, by omega⟩, rfl, rfl⟩
                      · have old := hd.2.2.2 i (by omega)
                        rw [F4' 67 0 i rfl, FC3 67 0 i rfl, F3' 67 0 i rfl, FC2 67 0 i rfl, F2' 67 0 i rfl, FC1 67 0 i (by simp [zz]), F1' 67 0 i rfl, F4' 68 0 i rfl, FC3 68 0 i rfl, F3' 68 0 i rfl, FC2 68 0 i (by simp [zz]), F2' 68 0 i rfl, FC1 68 0 i rfl, F1' 68 0 i rfl, F4' 69 0 i rfl, FC3 69 0 i (by simp [zz]), F3' 69 0 i rfl, FC2 69 0 i rfl, F2' 69 0 i rfl, FC1 69 0 i rfl, F1' 69 0 i rfl, FA5 31 (t 11) i (by simp [zz]), FA5 32 (t 11) i (by simp [zz]), FA5 33 (t 11) i (by simp [zz]), F4 31 (t 11) i rfl, F3 31 (t 11) i rfl, F2 31 (t 11) i rfl, F1 31 (t 11) i rfl, F4 32 (t 11) i rfl, F3 32 (t 11) i rfl, F2 32 (t 11) i rfl, F1 32 (t 11) i rfl, F4 33 (t 11) i rfl, F3 33 (t 11) i rfl, F2 33 (t 11) i rfl, F1 33 (t 11) i rfl]
                        exact old⟩
                    have rc := P60_10_6 (h1 := x400) (h2 := a1) (h3 := g1) (h4 := h4) (c1 := s1) (c2 := by rw [l1]; exact c61) (c3 := s5)
                    rw [e3, lem_w32k (k := ln) (by omega), wx, ← hA7] at rc
                    have rm := P178_0_3 (h1 := a') (h2 := n45) (h3 := m45) (c1 := c176)
                    rw [e34, lem_w32k (k := ln) (by omega), ← hB6] at rm
                    refine ⟨ok, J, J', Eq.trans rc r, Eq.trans rm r', FI6.tr ((FA7.mo (fun r i c k => ?_)).tr G), FB5.tr ((FB6.mo (fun r i c k => ?_)).tr G'), out⟩
                    · unfold sSd at k
                      simp only [Bool.or_eq_false_iff] at k
                      exact k.2
                    · unfold sSe' at k
                      simp only [Bool.or_eq_false_iff] at k
                      exact k.2
                  · exact ⟨0, I6, B5, P60_10_5 (h1 := x400) (h2 := a1) (h3 := g1) (h4 := h4) (c1 := s1) (c2 := by rw [l1]; exact c61) (c3 := s5), P178_0_2 (h1 := a') (h2 := n45) (h3 := m45) (c1 := c176), FI6, FB5, Or.inr ⟨rfl, fl⟩⟩
                · obtain ⟨J, J', s, s', F, F', fl⟩ := bad_s (d := e + 1) (d' := e' + 11) (L := L) (L' := L') (t := t) (t' := t') 1 k3 k3'
                  exact endF J J' (c61f v c1 h8 s3 (P59_0_1 (h1 := by rw [i8]; exact u) (c1 := s))) (m176f v q g' hd.2.1 s1' y2 y3 z l1' (by rw [← hC1]; exact s2') w5' l2' (by rw [← hC2]; exact s3') (by rw [r38]; exact fun z => u (M3.2.1.mpr z)) s') (FI3.tr (sC7_d F)) (FB3.tr (sM12_e F')) fl
              · have nv : ¬ w32 (B2 12 0 38 - 100) = 60 ∧ ¬ w32 (B2 12 0 38 - 100) = 61 ∧ ¬ w32 (B2 12 0 38 - 100) = 62 := by
                  rw [w5]
                  refine ⟨fun z => v (Or.inl (M2.2.2.1.mpr (by omega))), fun z => v (Or.inr (Or.inl (M2.2.2.2.1.mpr (by omega)))), fun z => v (Or.inr (Or.inr (M2.2.2.2.2.1.mpr (by omega))))⟩
                obtain ⟨J, J', s, s', F, F', fl⟩ := bad_s (d := e + 2) (d' := e' + 11) (L := L) (L' := L') (t := t) (t' := t') 1 k2 k2'
                refine endF J J' (P61_0_2 (c1 := c1) (h1 := by rw [h8]; exact fun z => v (Or.inl z)) (h2 := by rw [h8]; exact fun z => v (Or.inr (Or.inl z))) (h3 := by rw [h8]; exact fun z => v (Or.inr (Or.inr z))) (c2 := s)) (P176_0_9 (h1 := g') (h2 := n12) (c1 := s1') (h3 := y2) (h4 := by rw [y3]; exact z) (g1 := by rw [l1']; omega) (c2 := by rw [l1', y3, Int.toNat_natCast, ← hC1]; exact s2') (h5 := nv.1) (h6 := nv.2.1) (h7 := nv.2.2) (c3 := s')) ((sC7_d F2).tr (sC7_d F)) ((FC1.mo (fun r i c k => ?_)).tr ((sM12_e F2').tr (sM12_e F'))) fl
                unfold sSe' at k
                simp only [Bool.or_eq_false_iff] at k
                simp only [k.1.1.1.2, Bool.false_and]
            · obtain ⟨J, J', s, s', F, F', fl⟩ := bad_s (d := e + 1) (d' := e' + 11) (L := L) (L' := L') (t := t) (t' := t') 2 k1 k1'
              exact endF J J' (P61_0_0 (c1 := P59_0_3 (h1 := by rw [f8]; exact y) (h2 := by rw [f10]; omega) (c1 := s))) (P176_0_7 (h1 := g') (h2 := n12) (c1 := s1') (h3 := y2) (h4 := by rw [y3]; omega) (c2 := s')) (sC7_d F) (sM12_e F') fl
          · obtain ⟨J, J', s, s', F, F', fl⟩ := bad_s (d := e + 1) (d' := e' + 11) (L := L) (L' := L') (t := t) (t' := t') 1 k1 k1'
            exact endF J J' (P61_0_0 (c1 := P59_0_1 (h1 := by rw [f8]; exact y) (c1 := s))) (P176_0_5 (h1 := g') (h2 := n12) (c1 := s1') (h3 := by rw [n38]; exact fun z => y (M1.2.1.mpr z)) (c2 := s')) (sC7_d F) (sM12_e F') fl
        · have l12 : ln = 12 := by have := hd.2.2.1; omega
          obtain ⟨J, J', s, s', F, F', fl⟩ := bad_s (d := e + 3) (d' := e' + 11) (L := L) (L' := L') (t := t) (t' := t') 3 hc hm
          exact ⟨0, J, J', P60_10_4 (h1 := x400) (h2 := a1) (h3 := g1) (h4 := by rw [hd.1, l12]; decide) (c1 := s), P178_0_2 (h1 := a') (h2 := n45) (h3 := m45) (c1 := P176_0_3 (h1 := g') (h2 := by rw [hd.2.1, l12]; rfl) (c1 := s')), sC7_d F, sM12_e F', Or.inr ⟨rfl, fl⟩⟩
      · obtain ⟨J, J', s, s', F, F', fl⟩ := bad_s (d := e + 3) (d' := e' + 11) (L := L) (L' := L') (t := t) (t' := t') 1 hc hm
        exact ⟨0, J, J', P60_10_2 (h1 := x400) (h2 := a1) (h3 := by rw [e8]; exact g) (c1 := s), P178_0_2 (h1 := a') (h2 := n45) (h3 := m45) (c1 := P176_0_1 (h1 := by rw [m38]; exact fun z => g (M.1.mpr z)) (c1 := s')), sC7_d F, sM12_e F', Or.inr ⟨rfl, fl⟩⟩
theorem said_ok {e e' : Nat} (hT : TokH b n N) (L L' I I' : H3) (hc : Cur b n N I 0) (hm : MCur b n 1 I' 0) (h34 : I' 12 0 34 = 0) :
    ∃ ok J J', Cal (e + 4) 60 [vr 8 0] (mk I L t) = some (vi ok, mk J L t) ∧ Cal (e' + 13) 178 [vr 12 0] (mk I' L' t') = some (vi ok, mk J' L' t') ∧ Fr (sSd (t 11)) I J ∧ Fr sSe' I' J' ∧ ((ok = 1 ∧ OkF J J' ∧ ∃ ln, DS J J' (t 11) ln) ∨ (ok = 0 ∧ FlS J J')) := by
  have FA : Fr (fun r i c => r == 5 && i == t 11 && c == 3) I (up3 I 5 (t 11) 3 0) := Fr.rfl'.up (by simp)
  obtain ⟨ok, J, J', r, r', G, G', out⟩ := saids (e := e) (e' := e') (t := t) (t' := t') hT L L' N 0 (up3 I 5 (t 11) 3 0) I' 0 0 (by omega) (Nat.le_refl _) (hc.fr FA (fun _ => ⟨rfl, rfl, rfl⟩) ⟨rfl, rfl, rfl, rfl, rfl, rfl, rfl⟩) hm ⟨up_e, h34, by omega, fun i hi => absurd hi (Nat.not_lt_zero i)⟩
  refine ⟨ok, J, J', Eq.trans P60_0_0 r, r', (FA.mo (fun r i c k => ?_)).tr G, G', out⟩
  unfold sSd at k
  simp only [Bool.or_eq_false_iff] at k
  exact k.2
end SAID
