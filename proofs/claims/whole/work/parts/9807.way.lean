/-! a way is read, on both sides -/
def DW (I I' : H3) (W ln : Nat) : Prop := (I 9 W 0 = I' 12 0 48 ∧ (I 9 W 0 = 0 ∨ I 9 W 0 = 1)) ∧ (I 9 W 1 = I' 12 0 49 ∧ (I 9 W 1 = 0 ∨ I 9 W 1 = 1)) ∧ (I 9 W 2 = I' 12 0 46 ∧ (I 9 W 2 = -1 ∨ (0 ≤ I 9 W 2 ∧ I 9 W 2 ≤ 99))) ∧ (I 9 W 3 = I' 12 0 47 ∧ (I 9 W 3 = -1 ∨ (0 ≤ I 9 W 3 ∧ I 9 W 3 < 6))) ∧ I 9 W 4 = (ln : Int) ∧ I' 12 0 34 = (ln : Int)
def sWy (W r i c : Nat) : Bool := sC7 r i c || (r == 9 && i == W)
def sWz (r i c : Nat) : Bool := sM12 r i c || (r == 12 && (c == 34 || c == 46 || c == 47 || c == 48 || c == 49))
theorem sC7_y {W : Nat} {I J : H3} (F : Fr sC7 I J) : Fr (sWy W) I J := F.mo (fun r i c k => by
  unfold sWy at k
  rw [Bool.or_eq_false_iff] at k
  exact k.1)
theorem sM12_z {I J : H3} (F : Fr sM12 I J) : Fr sWz I J := F.mo (fun r i c k => by
  unfold sWz at k
  rw [Bool.or_eq_false_iff] at k
  exact k.1)
theorem up9_y {W s : Nat} {x : Int} {I : H3} : Fr (sWy W) I (up3 I 9 W s x) := Fr.rfl'.up (by simp [sWy])
theorem DW.fr {W ln : Nat} {I I' J J' : H3} (h : DW I I' W ln) (F : Fr sC7 I J) (F' : Fr sM12 I' J') : DW J J' W ln := by
  unfold DW
  rw [F 9 W 0 rfl, F 9 W 1 rfl, F 9 W 2 rfl, F 9 W 3 rfl, F 9 W 4 rfl, F' 12 0 48 rfl, F' 12 0 49 rfl, F' 12 0 46 rfl, F' 12 0 47 rfl, F' 12 0 34 rfl]
  exact h
section WAYR
variable {b : Nat → Int} {n N : Nat} {t t' : Nat → Nat}
theorem sign59_2 : ∀ q, tkC b n q = 59 ↔ mtkS 2 (tkC b n q) = w32 (100 + 59) := fun q => (mt12 b n q).2.2.2.2.1
/-- has it been said before -/
theorem way_had {d d' : Nat} {L L' I I' : H3} {W ln : Nat} {T : Int} (hT : 19 ≤ T ∧ T ≤ 22) (h : DW I I' W ln) (e' : I' 12 0 38 = T - 15) : ∃ hv, (hv = 0 ∨ hv = 1) ∧ Cal d 66 [vr 9 W, vi T] (mk I L t) = some (vi hv, mk I L t) ∧ Cal (d' + 1) 177 [vr 12 0] (mk I' L' t') = Res (d' + 1) 177 83 [vr 12 0, vi (T - 15), vx] [vi hv] (mk I' L' t') := by
  obtain ⟨⟨a1, a2⟩, ⟨b1, b2⟩, ⟨c1, c2⟩, ⟨d1, d2⟩, _, _⟩ := h
  have g : 4 ≤ I' 12 0 38 ∧ I' 12 0 38 ≤ 7 := by omega
  have : T = 19 ∨ T = 20 ∨ T = 21 ∨ T = 22 := by omega
  rcases this with z | z | z | z <;> subst z
  · have r := P177_0_2 (d := d') (L := L') (t := t') (h1 := g) (h2 := by rw [e']; rfl)
    rw [e', ← a1] at r
    exact ⟨I 9 W 0, a2, P66_0_0 (h1 := rfl) (g1 := a2), r⟩
  · by_cases q : I 9 W 2 = -1
    · have r := P177_0_5 (d := d') (L := L') (t := t') (h1 := g) (h2 := by rw [e']; decide) (h3 := by rw [e']; decide) (h4 := by rw [e']; rfl) (h5 := by rw [← c1]; exact q)
      rw [e'] at r
      exact ⟨0, Or.inl rfl, P66_0_2 (h1 := rfl) (h2 := q), r⟩
    · have r := P177_0_4 (d := d') (L := L') (t := t') (h1 := g) (h2 := by rw [e']; decide) (h3 := by rw [e']; decide) (h4 := by rw [e']; rfl) (h5 := by rw [← c1]; exact q)
      rw [e'] at r
      exact ⟨1, Or.inr rfl, P66_0_1 (h1 := rfl) (h2 := q), r⟩
  · by_cases q : I 9 W 3 = -1
    · have r := P177_0_7 (d := d') (L := L') (t := t') (h1 := g) (h2 := by rw [e']; decide) (h3 := by rw [e']; decide) (h4 := by rw [e']; decide) (h5 := by rw [← d1]; exact q)
      rw [e'] at r
      exact ⟨0, Or.inl rfl, P66_0_4 (h1 := rfl) (h2 := q), r⟩
    · have r := P177_0_6 (d := d') (L := L') (t := t') (h1 := g) (h2 := by rw [e']; decide) (h3 := by rw [e']; decide) (h4 := by rw [e']; decide) (h5 := by rw [← d1]; exact q)
      rw [e'] at r
      exact ⟨1, Or.inr rfl, P66_0_3 (h1 := rfl) (h2 := q), r⟩
  · have r := P177_0_3 (d := d') (L := L') (t := t') (h1 := g) (h2 := by rw [e']; decide) (h3 := by rw [e']; rfl)
    rw [e', ← b1] at r
    exact ⟨I 9 W 1, b2, P66_0_5 (h1 := rfl) (g1 := b2), r⟩
/-- a line behind its word -/
theorem way_line {e e' : Nat} (hT : TokH b n N) {L L' I I' B1 : H3} {j ln : Nat} {T : Int} (hT2 : 19 ≤ T ∧ T ≤ 22) (k : Cur b n N I (j + 1)) (k' : MCur b n 2 B1 (j + 1)) (hd : DW I B1 (t 9) ln) (s1' : Cal (e' + 11) 168 [vr 12 0] (mk I' L' t') = some (vx, mk B1 L' t')) :
    ∃ ok A B, Cal (e + 3) 63 [vr 8 0, vi T] (mk I L t) = some (vi ok, mk A L t) ∧ Fr (sWy (t 9)) I A ∧ Fr sWz B1 B ∧ ((ok = 1 ∧ Res (e' + 12) 177 83 [vr 12 0, vi (T - 15), vx] [vi 0] (mk I' L' t') = Res (e' + 12) 177 196 [vr 12 0, vi (T - 15), vi 0] [] (mk B L' t') ∧ ∃ j2, j + 1 ≤ j2 ∧ Cur b n N A j2 ∧ MCur b n 2 B j2 ∧ DW A B (t 9) ln) ∨ (ok = 0 ∧ Res (e' + 12) 177 83 [vr 12 0, vi (T - 15), vx] [vi 0] (mk I' L' t') = some (vi 0, mk B L' t') ∧ FlS A B)) := by
  obtain ⟨⟨a1, a2⟩, ⟨b1, b2⟩, ⟨c1, c2⟩, ⟨d1, d2⟩, l1, l2⟩ := id hd
  have f8 := k.2.2.2.1
  have f10 := k.2.2.2.2.2.1
  have M1 := (mt12 b n (stN b n (j + 1))).2
  have n38 := k'.2.2.2.2.2.1
  have n40 := k'.2.2.2.2.2.2
  have v1 := vl_in (b := b) (n := n) (q := stN b n (j + 1))
  have so2 : (2 : Int) = 0 ∨ (2 : Int) = 1 ∨ (2 : Int) = 2 := Or.inr (Or.inr rfl)
  have : T = 19 ∨ T = 20 ∨ T = 21 ∨ T = 22 := by omega
  rcases this with z | z | z | z <;> subst z
  · have F : Fr (fun r i c => r == 9 && i == t 9 && c == 0) I (up3 I 9 (t 9) 0 1) := Fr.rfl'.up (by simp)
    have F' : Fr (fun r _ c => r == 12 && c == 48) B1 (up3 B1 12 0 48 1) := Fr.rfl'.up rfl
    refine ⟨1, _, _, P63_0_4 (h1 := by decide) (h2 := by decide) (c1 := P67_0_0 (h1 := rfl)), up9_y, Fr.rfl'.up rfl, Or.inl ⟨rfl, P177_83_2 (h1 := rfl) (c1 := s1') (h2 := rfl), j + 1, Nat.le_refl _, k.fr F (fun _ => ⟨rfl, rfl, rfl⟩) ⟨rfl, rfl, rfl, rfl, rfl, rfl, rfl⟩, k'.fr F' (fun _ => rfl) ⟨rfl, rfl, rfl, rfl, rfl, rfl, rfl⟩, ⟨?_, ?_⟩, ?_, ?_, ?_, ?_, ?_⟩⟩
    · rw [up_e, up_e]
    · rw [up_e]
      exact Or.inr rfl
    · rw [up_s (by decide), up_s (by decide)]
      exact ⟨b1, b2⟩
    · rw [up_s (by decide), up_s (by decide)]
      exact ⟨c1, c2⟩
    · rw [up_s (by decide), up_s (by decide)]
      exact ⟨d1, d2⟩
    · rw [up_s (by decide)]
      exact l1
    · rw [up_s (by decide)]
      exact l2
  · by_cases y : tkC b n (stN b n (j + 1)) = 23
    · have y2 : B1 12 0 38 = 2 := by rw [n38]; exact M1.2.2.1.mp y
      have y3 := n40 y
      by_cases q : vlN b n (stN b n (j + 1)) ≤ 99
      · obtain ⟨I2, s2, F2, k2⟩ := k.step (d := e + 1) (L := L) (t := t) hT (k.lt hT (by rw [y]; decide))
        have F : Fr (fun r i c => r == 9 && i == t 9 && c == 2) I2 (up3 I2 9 (t 9) 2 (vlN b n (stN b n (j + 1)))) := Fr.rfl'.up (by simp)
        have F' : Fr (fun r _ c => r == 12 && c == 46) B1 (up3 B1 12 0 46 (vlN b n (stN b n (j + 1)))) := Fr.rfl'.up rfl
        have k1c : MCur b n 2 (up3 B1 12 0 46 (vlN b n (stN b n (j + 1)))) (j + 1) := k'.fr F' (fun _ => rfl) ⟨rfl, rfl, rfl, rfl, rfl, rfl, rfl⟩
        obtain ⟨B2, s2', F2', k2'⟩ := k1c.step (d := e' + 1) (L := L') (t := t') so2 hT
        refine ⟨1, _, B2, P63_0_0 (h1 := rfl) (c1 := P59_0_4 (h1 := by rw [f8]; exact y) (h2 := by rw [f10]; exact q) (c1 := s2)) (c2 := by rw [f10]; exact P67_0_1 (h1 := rfl)), (sC7_y F2).tr up9_y, Fr.tr (Fr.rfl'.up rfl) (sM12_z F2'), Or.inl ⟨rfl, P177_83_14 (h1 := rfl) (c1 := s1') (h2 := by decide) (h3 := by decide) (h4 := rfl) (h5 := y2) (h6 := by rw [y3]; exact q) (c2 := by rw [y3]; exact s2'), j + 1 + 1, by omega, k2.fr F (fun _ => ⟨rfl, rfl, rfl⟩) ⟨rfl, rfl, rfl, rfl, rfl, rfl, rfl⟩, k2', ?_, ?_, ⟨?_, ?_⟩, ?_, ?_, ?_⟩⟩
        · rw [up_s (by decide), F2 9 (t 9) 0 rfl, F2' 12 0 48 rfl, up_s (by decide)]
          exact ⟨a1, a2⟩
        · rw [up_s (by decide), F2 9 (t 9) 1 rfl, F2' 12 0 49 rfl, up_s (by decide)]
          exact ⟨b1, b2⟩
        · rw [up_e, F2' 12 0 46 rfl, up_e]
        · rw [up_e]
          exact Or.inr ⟨v1.1, q⟩
        · rw [up_s (by decide), F2 9 (t 9) 3 rfl, F2' 12 0 47 rfl, up_s (by decide)]
          exact ⟨d1, d2⟩
        · rw [up_s (by decide), F2 9 (t 9) 4 rfl]
          exact l1
        · rw [F2' 12 0 34 rfl, up_s (by decide)]
          exact l2
      · obtain ⟨J, J', s, s', F, F', fl⟩ := bad_s (d := e + 1) (d' := e' + 11) (L := L) (L' := L') (t := t) (t' := t') 2 k k'
        exact ⟨0, J, J', P63_0_1 (h1 := rfl) (c1 := P59_0_3 (h1 := by rw [f8]; exact y) (h2 := by rw [f10]; omega) (c1 := s)), sC7_y F, sM12_z F', Or.inr ⟨rfl, P177_83_13 (h1 := rfl) (c1 := s1') (h2 := by decide) (h3 := by decide) (h4 := rfl) (h5 := y2) (h6 := by rw [y3]; omega) (c2 := s'), fl⟩⟩
    · obtain ⟨J, J', s, s', F, F', fl⟩ := bad_s (d := e + 1) (d' := e' + 11) (L := L) (L' := L') (t := t) (t' := t') 1 k k'
      exact ⟨0, J, J', P63_0_1 (h1 := rfl) (c1 := P59_0_1 (h1 := by rw [f8]; exact y) (c1 := s)), sC7_y F, sM12_z F', Or.inr ⟨rfl, P177_83_11 (h1 := rfl) (c1 := s1') (h2 := by decide) (h3 := by decide) (h4 := rfl) (h5 := by rw [n38]; exact fun z => y (M1.2.2.1.mpr z)) (c2 := s'), fl⟩⟩
  · by_cases y : tkC b n (stN b n (j + 1)) = 23
    · have y2 : B1 12 0 38 = 2 := by rw [n38]; exact M1.2.2.1.mp y
      have y3 := n40 y
      by_cases q : vlN b n (stN b n (j + 1)) ≤ 5
      · obtain ⟨I2, s2, F2, k2⟩ := k.step (d := e + 1) (L := L) (t := t) hT (k.lt hT (by rw [y]; decide))
        have F : Fr (fun r i c => r == 9 && i == t 9 && c == 3) I2 (up3 I2 9 (t 9) 3 (vlN b n (stN b n (j + 1)))) := Fr.rfl'.up (by simp)
        have F' : Fr (fun r _ c => r == 12 && c == 47) B1 (up3 B1 12 0 47 (vlN b n (stN b n (j + 1)))) := Fr.rfl'.up rfl
        have k1c : MCur b n 2 (up3 B1 12 0 47 (vlN b n (stN b n (j + 1)))) (j + 1) := k'.fr F' (fun _ => rfl) ⟨rfl, rfl, rfl, rfl, rfl, rfl, rfl⟩
        obtain ⟨B2, s2', F2', k2'⟩ := k1c.step (d := e' + 1) (L := L') (t := t') so2 hT
        refine ⟨1, _, B2, P63_0_3 (h1 := by decide) (h2 := rfl) (c1 := P59_0_4 (h1 := by rw [f8]; exact y) (h2 := by rw [f10]; exact q) (c1 := s2)) (c2 := by rw [f10]; exact P67_0_2 (h1 := rfl)), (sC7_y F2).tr up9_y, Fr.tr (Fr.rfl'.up rfl) (sM12_z F2'), Or.inl ⟨rfl, P177_83_8 (h1 := rfl) (c1 := s1') (h2 := by decide) (h3 := by decide) (h4 := by decide) (h5 := rfl) (h6 := y2) (h7 := by rw [y3]; exact q) (c2 := by rw [y3]; exact s2'), j + 1 + 1, by omega, k2.fr F (fun _ => ⟨rfl, rfl, rfl⟩) ⟨rfl, rfl, rfl, rfl, rfl, rfl, rfl⟩, k2', ?_, ?_, ?_, ⟨?_, ?_⟩, ?_, ?_⟩⟩
        · rw [up_s (by decide), F2 9 (t 9) 0 rfl, F2' 12 0 48 rfl, up_s (by decide)]
          exact ⟨a1, a2⟩
        · rw [up_s (by decide), F2 9 (t 9) 1 rfl, F2' 12 0 49 rfl, up_s (by decide)]
          exact ⟨b1, b2⟩
        · rw [up_s (by decide), F2 9 (t 9) 2 rfl, F2' 12 0 46 rfl, up_s (by decide)]
          exact ⟨c1, c2⟩
        · rw [up_e, F2' 12 0 47 rfl, up_e]
        · rw [up_e]
          exact Or.inr ⟨v1.1, by omega⟩
        · rw [up_s (by decide), F2 9 (t 9) 4 rfl]
          exact l1
        · rw [F2' 12 0 34 rfl, up_s (by decide)]
          exact l2
      · obtain ⟨J, J', s, s', F, F', fl⟩ := bad_s (d := e + 1) (d' := e' + 11) (L := L) (L' := L') (t := t) (t' := t') 2 k k'
        exact ⟨0, J, J', P63_0_2 (h1 := by decide) (h2 := rfl) (c1 := P59_0_3 (h1 := by rw [f8]; exact y) (h2 := by rw [f10]; omega) (c1 := s)), sC7_y F, sM12_z F', Or.inr ⟨rfl, P177_83_7 (h1 := rfl) (c1 := s1') (h2 := by decide) (h3 := by decide) (h4 := by decide) (h5 := rfl) (h6 := y2) (h7 := by rw [y3]; omega) (c2 := s'), fl⟩⟩
    · obtain ⟨J, J', s, s', F, F', fl⟩ := bad_s (d := e + 1) (d' := e' + 11) (L := L) (L' := L') (t := t) (t' := t') 1 k k'
      exact ⟨0, J, J', P63_0_2 (h1 := by decide) (h2 := rfl) (c1 := P59_0_1 (h1 := by rw [f8]; exact y) (c1 := s)), sC7_y F, sM12_z F', Or.inr ⟨rfl, P177_83_5 (h1 := rfl) (c1 := s1') (h2 := by decide) (h3 := by decide) (h4 := by decide) (h5 := rfl) (h6 := by rw [n38]; exact fun z => y (M1.2.2.1.mpr z)) (c2 := s'), fl⟩⟩
  · have F : Fr (fun r i c => r == 9 && i == t 9 && c == 1) I (up3 I 9 (t 9) 1 1) := Fr.rfl'.up (by simp)
    have F' : Fr (fun r _ c => r == 12 && c == 49) B1 (up3 B1 12 0 49 1) := Fr.rfl'.up rfl
    refine ⟨1, _, _, P63_0_4 (h1 := by decide) (h2 := by decide) (c1 := P67_0_3 (h1 := rfl)), up9_y, Fr.rfl'.up rfl, Or.inl ⟨rfl, P177_83_3 (h1 := rfl) (c1 := s1') (h2 := by decide) (h3 := rfl), j + 1, Nat.le_refl _, k.fr F (fun _ => ⟨rfl, rfl, rfl⟩) ⟨rfl, rfl, rfl, rfl, rfl, rfl, rfl⟩, k'.fr F' (fun _ => rfl) ⟨rfl, rfl, rfl, rfl, rfl, rfl, rfl⟩, ?_, ⟨?_, ?_⟩, ?_, ?_, ?_, ?_⟩⟩
    · rw [up_s (by decide), up_s (by decide)]
      exact ⟨a1, a2⟩
    · rw [up_e, up_e]
    · rw [up_e]
      exact Or.inr rfl
    · rw [up_s (by decide), up_s (by decide)]
      exact ⟨c1, c2⟩
    · rw [up_s (by decide), up_s (by decide)]
      exact ⟨d1, d2⟩
    · rw [up_s (by decide)]
      exact l1
    · rw [up_s (by decide)]
      exact l2
theorem ways {e e' : Nat} (hT : TokH b n N) (L L' : H3) : ∀ (f j : Nat) (I I' : H3) (x ln : Nat) (u : MV), N ≤ j + f → x ≤ j → ln ≤ j → Cur b n N I j → MCur b n 2 I' j → DW I I' (t 9) ln →
    ∃ ok J J', Res (e + 4) 62 9 [vr 8 0, vi (x : Int), u] [] (mk I L t) = some (vi ok, mk J L t) ∧ Res (e' + 13) 178 0 [vr 12 0] [] (mk I' L' t') = some (vi ok, mk J' L' t') ∧ Fr (sWy (t 9)) I J ∧ Fr sWz I' J' ∧ ((ok = 1 ∧ OkF J J' ∧ ∃ ln, DW J J' (t 9) ln) ∨ (ok = 0 ∧ FlS J J'))
  | f, j, I, I', x, ln, u, hf, hx, hln, hc, hm, hd => by
    have e8 := hc.2.2.2.1
    have m38 := hm.2.2.2.2.2.1
    have m45 := hm.2.2.1
    have M := (mt12 b n (stN b n j)).2
    have hN := hT.1
    have hN2 := hT.2.1
    have jN := hc.2.2.2.2.2.2
    have x400 : (x : Int) ≤ 400 := by omega
    have wx : w32 ((x : Int) + 1) = ((x + 1 : Nat) : Int) := lem_w32k (by omega)
    have n45 : ¬ I' 12 0 45 = 0 := by rw [m45]; decide
    have n46 : ¬ I' 12 0 45 = 1 := by rw [m45]; decide
    have so2 : (2 : Int) = 0 ∨ (2 : Int) = 1 ∨ (2 : Int) = 2 := Or.inr (Or.inr rfl)
    by_cases a : tkC b n (stN b n j) = 24
    · exact ⟨1, I, I', P62_9_0 (h1 := x400) (h2 := by rw [e8]; exact a), P178_0_6 (h1 := by rw [m38]; exact M.2.2.2.2.mp a), Fr.rfl', Fr.rfl', Or.inl ⟨rfl, ⟨hc.2.2.2.2.2.2.2.1, hc.2.2.2.2.2.2.2.2, hm.1.2⟩, ln, hd⟩⟩
    · have a1 : ¬ I 7 0 8 = 24 := by rw [e8]; exact a
      have a' : ¬ I' 12 0 38 = 0 := by rw [m38]; exact fun z => a (M.2.2.2.2.mpr z)
      have jlt := hc.lt hT a
      by_cases g : 19 ≤ tkC b n (stN b n j) ∧ tkC b n (stN b n j) ≤ 22
      · have g1 : 19 ≤ I 7 0 8 ∧ I 7 0 8 ≤ 22 := by rw [e8]; exact g
        obtain ⟨hv, hv01, ch, cm⟩ := way_had (d := e + 3) (d' := e' + 11) (L := L) (L' := L') (t := t) (t' := t') g hd (by rw [m38]; exact M.2.1 g)
        rcases hv01 with z | z <;> subst z
        · obtain ⟨I1, s1, F1, k1⟩ := hc.step (d := e + 3) (L := L) (t := t) hT jlt
          obtain ⟨B1, s1', F1', k1'⟩ := hm.step (d := e' + 1) (L := L') (t := t') so2 hT
          obtain ⟨ok, A, B, c63, FA, FB, out⟩ := way_line (e := e) (e' := e') (t := t) (t' := t') hT (L := L) (L' := L') g k1 k1' (hd.fr F1 F1') s1'
          rcases out with ⟨rfl, rm, j2, lo, q1, q2, dw⟩ | ⟨rfl, rm, fl⟩
          · obtain ⟨ok2, I6, B5, s5, s5', F5, F5', out⟩ := sign_s (d := e + 2) (d' := e') (L := L) (L' := L') (t := t) (t' := t') so2 59 sign59_2 (by decide) hT q1 q2
            have FI6 : Fr (sWy (t 9)) I I6 := (sC7_y F1).tr (FA.tr (sC7_y F5))
            have FB5 : Fr sWz I' B5 := (sM12_z F1').tr (FB.tr (sM12_z F5'))
            rcases out with ⟨rfl, w1, w2⟩ | ⟨rfl, fl⟩
            · have dw' := dw.fr F5 F5'
              have e4 := dw'.2.2.2.2.1
              have e34 := dw'.2.2.2.2.2
              have F7 : Fr (fun r i c => r == 9 && i == t 9 && c == 4) I6 (up3 I6 9 (t 9) 4 ((ln + 1 : Nat) : Int)) := Fr.rfl'.up (by simp)
              have F7' : Fr (fun r _ c => r == 12 && c == 34) B5 (up3 B5 12 0 34 ((ln + 1 : Nat) : Int)) := Fr.rfl'.up rfl
              match f, hf with
              | 0, hf => omega
              | f + 1, hf =>
              obtain ⟨ok, J, J', r, r', G, G', out⟩ := ways hT L L' f (j2 + 1) (up3 I6 9 (t 9) 4 ((ln + 1 : Nat) : Int)) (up3 B5 12 0 34 ((ln + 1 : Nat) : Int)) (x + 1) (ln + 1) (vi (I 7 0 8)) (by omega) (by omega) (by omega) (w1.fr F7 (fun _ => ⟨rfl, rfl, rfl⟩) ⟨rfl, rfl, rfl, rfl, rfl, rfl, rfl⟩) (w2.fr F7' (fun _ => rfl) ⟨rfl, rfl, rfl, rfl, rfl, rfl, rfl⟩) ⟨by rw [up_s (by decide), up_s (by decide)]; exact dw'.1, by rw [up_s (by decide), up_s (by decide)]; exact dw'.2.1, by rw [up_s (by decide), up_s (by decide)]; exact dw'.2.2.1, by rw [up_s (by decide), up_s (by decide)]; exact dw'.2.2.2.1, up_e, up_e⟩
              have rc := P62_9_6 (u2 := u) (h1 := x400) (h2 := a1) (h3 := g1) (c1 := by rw [e8]; exact ch) (c2 := s1) (c3 := by rw [e8]; exact c63) (c4 := s5)
              rw [e4, lem_w32k (k := ln) (by omega), wx] at rc
              have rm2 := P178_0_5 (h1 := a') (h2 := n45) (h3 := n46) (c1 := Eq.trans cm (Eq.trans rm (P177_196_0 (c1 := s5'))))
              rw [e34, lem_w32k (k := ln) (by omega)] at rm2
              exact ⟨ok, J, J', Eq.trans rc r, Eq.trans rm2 r', FI6.tr (up9_y.tr G), FB5.tr (Fr.tr (Fr.rfl'.up rfl) G'), out⟩
            · exact ⟨0, I6, B5, P62_9_5 (h1 := x400) (h2 := a1) (h3 := g1) (c1 := by rw [e8]; exact ch) (c2 := s1) (c3 := by rw [e8]; exact c63) (c4 := s5), P178_0_4 (h1 := a') (h2 := n45) (h3 := n46) (c1 := Eq.trans cm (Eq.trans rm (P177_196_1 (c1 := s5')))), FI6, FB5, Or.inr ⟨rfl, fl⟩⟩
          · exact ⟨0, A, B, P62_9_7 (h1 := x400) (h2 := a1) (h3 := g1) (c1 := by rw [e8]; exact ch) (c2 := s1) (c3 := by rw [e8]; exact c63), P178_0_4 (h1 := a') (h2 := n45) (h3 := n46) (c1 := Eq.trans cm rm), (sC7_y F1).tr FA, (sM12_z F1').tr FB, Or.inr ⟨rfl, fl⟩⟩
        · obtain ⟨J, J', s, s', F, F', fl⟩ := bad_s (d := e + 3) (d' := e' + 11) (L := L) (L' := L') (t := t) (t' := t') 2 hc hm
          exact ⟨0, J, J', P62_9_4 (h1 := x400) (h2 := a1) (h3 := g1) (c1 := by rw [e8]; exact ch) (c2 := s), P178_0_4 (h1 := a') (h2 := n45) (h3 := n46) (c1 := Eq.trans cm (P177_83_1 (h1 := by decide) (c1 := s'))), sC7_y F, sM12_z F', Or.inr ⟨rfl, fl⟩⟩
      · obtain ⟨J, J', s, s', F, F', fl⟩ := bad_s (d := e + 3) (d' := e' + 11) (L := L) (L' := L') (t := t) (t' := t') 1 hc hm
        exact ⟨0, J, J', P62_9_2 (h1 := x400) (h2 := a1) (h3 := by rw [e8]; exact g) (c1 := s), P178_0_4 (h1 := a') (h2 := n45) (h3 := n46) (c1 := P177_0_1 (h1 := by rw [m38]; exact fun z => g (M.1.mpr z)) (c1 := s')), sC7_y F, sM12_z F', Or.inr ⟨rfl, fl⟩⟩
theorem way_ok {e e' : Nat} (hT : TokH b n N) (L L' I I' : H3) (hc : Cur b n N I 0) (hm : MCur b n 2 I' 0) (h34 : I' 12 0 34 = 0) (h46 : I' 12 0 46 = -1) (h47 : I' 12 0 47 = -1) (h48 : I' 12 0 48 = 0) (h49 : I' 12 0 49 = 0) :
    ∃ ok J J', Cal (e + 4) 62 [vr 8 0] (mk I L t) = some (vi ok, mk J L t) ∧ Cal (e' + 13) 178 [vr 12 0] (mk I' L' t') = some (vi ok, mk J' L' t') ∧ Fr (sWy (t 9)) I J ∧ Fr sWz I' J' ∧ ((ok = 1 ∧ OkF J J' ∧ ∃ ln, DW J J' (t 9) ln) ∨ (ok = 0 ∧ FlS J J')) := by
  obtain ⟨A, hA⟩ : ∃ A : H3, A = up3 (up3 (up3 (up3 (up3 I 9 (t 9) 0 0) 9 (t 9) 1 0) 9 (t 9) 2 (-1)) 9 (t 9) 3 (-1)) 9 (t 9) 4 0 := ⟨_, rfl⟩
  have FA : Fr (fun r i c => r == 9 && i == t 9) I A := by
    rw [hA]
    exact ((((Fr.rfl'.up (by simp)).up (by simp)).up (by simp)).up (by simp)).up (by simp)
  have a0 : A 9 (t 9) 0 = 0 := by rw [hA]; simp [up3]
  have a1 : A 9 (t 9) 1 = 0 := by rw [hA]; simp [up3]
  have a2 : A 9 (t 9) 2 = -1 := by rw [hA]; simp [up3]
  have a3 : A 9 (t 9) 3 = -1 := by rw [hA]; simp [up3]
  have a4 : A 9 (t 9) 4 = 0 := by rw [hA]; simp [up3]
  have c0 := P65_0_0 (d := e + 3) (L := L) (t := t) (I := I) (i0 := t 9)
  rw [← hA] at c0
  obtain ⟨ok, J, J', r, r', G, G', out⟩ := ways (e := e) (e' := e') (t := t) (t' := t') hT L L' N 0 A I' 0 0 vx (by omega) (Nat.le_refl _) (Nat.le_refl _) (hc.fr FA (fun _ => ⟨rfl, rfl, rfl⟩) ⟨rfl, rfl, rfl, rfl, rfl, rfl, rfl⟩) hm ⟨⟨by rw [a0, h48], Or.inl a0⟩, ⟨by rw [a1, h49], Or.inl a1⟩, ⟨by rw [a2, h46], Or.inl a2⟩, ⟨by rw [a3, h47], Or.inl a3⟩, a4, h34⟩
  refine ⟨ok, J, J', Eq.trans (P62_0_0 (c1 := c0)) r, r', (FA.mo (fun r i c k => ?_)).tr G, G', out⟩
  unfold sWy at k
  simp only [Bool.or_eq_false_iff] at k
  exact k.2
end WAYR
