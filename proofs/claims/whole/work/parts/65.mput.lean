/-! the model: rows taken, witnesses taken, faces put together, sure -/
def sLn (r _ c : Nat) : Bool := r == 54 || (r == 12 && c == 12)
/-- rows of the model -/
def mrw (I : H3) (r : Nat) : Int → Int := rvP (I 53 0 r) (fun p => I 52 0 (9 * r + p))
def msw (I : H3) (i : Nat) : Int → Int := rvP (I 103 0 i) (fun p => I 102 0 (9 * i + p))
theorem ix9 {f k : Nat} (hf : f < 100) (hk : k < 9) : w32 (w32 (9 * (f : Int)) + (k : Int)) = ((9 * f + k : Nat) : Int) := by
  rw [w32_s (x := 9 * (f : Int)) (by omega), w32_s (by omega)]
  omega
section TAKE
variable {d : Nat} {L : H3} {t : Nat → Nat} {I0 : H3}
theorem l156 {r : Nat} (hr : r < 6) (h9 : I0 12 0 12 ≤ 9) : ∀ (n k : Nat) (I : H3), (I0 12 0 12 ≤ (k : Int) → n = 0) → ((k : Int) < I0 12 0 12 → (k : Int) + n = I0 12 0 12) → Fr (fun r _ _ => r == 54) I0 I → (∀ j, j < k → I 54 0 j = I0 52 0 (9 * r + j)) →
    ∃ J, Res d 156 12 [vr 12 0, vi (r : Int), vi (k : Int)] [] (mk I L t) = some (vx, mk J L t) ∧ Fr (fun r _ _ => r == 54) I0 J ∧ ∀ j : Nat, (j : Int) < I0 12 0 12 ∨ j < k → J 54 0 j = I0 52 0 (9 * r + j)
  | 0, k, I, h0, h1, hF, hj => by
    have e12 : I 12 0 12 = I0 12 0 12 := hF 12 0 12 rfl
    exact ⟨I, P156_12_1 (by rw [e12]; by_cases c : (k : Int) < I0 12 0 12; have := h1 c; omega; omega), hF, fun j q => hj j (by by_cases c : (k : Int) < I0 12 0 12; have := h1 c; omega; omega)⟩
  | n + 1, k, I, h0, h1, hF, hj => by
    have e12 : I 12 0 12 = I0 12 0 12 := hF 12 0 12 rfl
    have hlt : (k : Int) < I0 12 0 12 := by
      by_cases c : I0 12 0 12 ≤ (k : Int)
      · have := h0 c
        omega
      · omega
    have hN := h1 hlt
    have ix := ix9 (f := r) (k := k) (by omega) (by omega)
    obtain ⟨J, hr', hJ, hv⟩ := l156 hr h9 n (k + 1) (up3 I 54 0 k (I0 52 0 (9 * r + k))) (by omega) (by omega) (hF.up rfl) (fun j q => by
      by_cases c : j = k
      · subst c
        rw [up_e]
      · rw [up_s c]
        exact hj j (by omega))
    refine ⟨J, Eq.trans (P156_12_0 (h1 := by rw [e12]; exact hlt) (g1 := by rw [ix]; omega) (g2 := by omega)) ?_, hJ, fun j q => hv j (by omega)⟩
    rw [ix, lem_w32k (k := k) (by omega), Int.toNat_natCast, Int.toNat_natCast, hF 52 0 (9 * r + k) rfl]
    exact hr'
theorem sLn_54 {I J : H3} (h : Fr (fun r _ _ => r == 54) I J) : Fr sLn I J := h.mo (fun r i c k => by
  simp only [sLn, Bool.or_eq_false_iff] at k
  exact k.1)
/-- a row in bounds, in the model -/
def mrOk (I : H3) (r : Nat) : Prop := (0 ≤ I 53 0 r ∧ I 53 0 r ≤ 9) ∧ rvB (mrw I r)
theorem rvP_cg {n : Int} {f g : Nat → Int} (h : ∀ j : Nat, (j : Int) < n → f j = g j) : rvP n f = rvP n g := by
  funext p
  unfold rvP
  split
  · next q => exact h _ (by omega)
  · rfl
theorem sp156 {I : H3} {r : Nat} (hr : r < 6) (hk : mrOk I r) : ∃ J, Cal d 156 [vr 12 0, vi (r : Int)] (mk I L t) = some (vx, mk J L t) ∧ Fr sLn I J ∧ J 12 0 12 = I 53 0 r ∧ mrv J = mrw I r ∧ lnOk J := by
  have h9 := hk.1
  obtain ⟨J, hr', hJ, hv⟩ := l156 (d := d) (L := L) (t := t) (I0 := up3 I 12 0 12 (I 53 0 r)) (r := r) hr (by rw [up_e]; exact h9.2) (I 53 0 r).toNat 0 _ (by rw [up_e]; omega) (by rw [up_e]; omega) Fr.rfl' (fun j q => by omega)
  have e12 : J 12 0 12 = I 53 0 r := (hJ 12 0 12 rfl).trans up_e
  have em : mrv J = mrw I r := by
    unfold mrv mrw
    rw [e12]
    exact rvP_cg (fun j q => hv j (Or.inl (by rw [up_e]; exact q)))
  refine ⟨J, Eq.trans (P156_0_0 (g1 := by omega)) hr', Fr.tr (Fr.rfl'.up rfl) (sLn_54 hJ), e12, em, ?_⟩
  unfold lnOk
  rw [em, e12]
  exact hk
theorem l207 {r : Nat} (hr : r < 100) (h9 : I0 12 0 12 ≤ 9) : ∀ (n k : Nat) (I : H3), (I0 12 0 12 ≤ (k : Int) → n = 0) → ((k : Int) < I0 12 0 12 → (k : Int) + n = I0 12 0 12) → Fr (fun r _ _ => r == 54) I0 I → (∀ j, j < k → I 54 0 j = I0 102 0 (9 * r + j)) →
    ∃ J, Res d 207 12 [vr 12 0, vi (r : Int), vi (k : Int)] [] (mk I L t) = some (vx, mk J L t) ∧ Fr (fun r _ _ => r == 54) I0 J ∧ ∀ j : Nat, (j : Int) < I0 12 0 12 ∨ j < k → J 54 0 j = I0 102 0 (9 * r + j)
  | 0, k, I, h0, h1, hF, hj => by
    have e12 : I 12 0 12 = I0 12 0 12 := hF 12 0 12 rfl
    exact ⟨I, P207_12_1 (by rw [e12]; by_cases c : (k : Int) < I0 12 0 12; have := h1 c; omega; omega), hF, fun j q => hj j (by by_cases c : (k : Int) < I0 12 0 12; have := h1 c; omega; omega)⟩
  | n + 1, k, I, h0, h1, hF, hj => by
    have e12 : I 12 0 12 = I0 12 0 12 := hF 12 0 12 rfl
    have hlt : (k : Int) < I0 12 0 12 := by
      by_cases c : I0 12 0 12 ≤ (k : Int)
      · have := h0 c
        omega
      · omega
    have hN := h1 hlt
    have ix := ix9 (f := r) (k := k) (by omega) (by omega)
    obtain ⟨J, hr', hJ, hv⟩ := l207 hr h9 n (k + 1) (up3 I 54 0 k (I0 102 0 (9 * r + k))) (by omega) (by omega) (hF.up rfl) (fun j q => by
      by_cases c : j = k
      · subst c
        rw [up_e]
      · rw [up_s c]
        exact hj j (by omega))
    refine ⟨J, Eq.trans (P207_12_0 (h1 := by rw [e12]; exact hlt) (g1 := by rw [ix]; omega) (g2 := by omega)) ?_, hJ, fun j q => hv j (by omega)⟩
    rw [ix, lem_w32k (k := k) (by omega), Int.toNat_natCast, Int.toNat_natCast, hF 102 0 (9 * r + k) rfl]
    exact hr'
def msOk (I : H3) (i : Nat) : Prop := (0 ≤ I 103 0 i ∧ I 103 0 i ≤ 9) ∧ rvB (msw I i)
theorem sp207 {I : H3} {i : Nat} (hi : i < 100) (hk : msOk I i) : ∃ J, Cal d 207 [vr 12 0, vi (i : Int)] (mk I L t) = some (vx, mk J L t) ∧ Fr sLn I J ∧ J 12 0 12 = I 103 0 i ∧ mrv J = msw I i ∧ lnOk J := by
  have h9 := hk.1
  obtain ⟨J, hr', hJ, hv⟩ := l207 (d := d) (L := L) (t := t) (I0 := up3 I 12 0 12 (I 103 0 i)) (r := i) hi (by rw [up_e]; exact h9.2) (I 103 0 i).toNat 0 _ (by rw [up_e]; omega) (by rw [up_e]; omega) Fr.rfl' (fun j q => by omega)
  have e12 : J 12 0 12 = I 103 0 i := (hJ 12 0 12 rfl).trans up_e
  have em : mrv J = msw I i := by
    unfold mrv msw
    rw [e12]
    exact rvP_cg (fun j q => hv j (Or.inl (by rw [up_e]; exact q)))
  refine ⟨J, Eq.trans (P207_0_0 (g1 := by omega)) hr', Fr.tr (Fr.rfl'.up rfl) (sLn_54 hJ), e12, em, ?_⟩
  unfold lnOk
  rw [em, e12]
  exact hk
theorem l158 {I : H3} (h9 : I 12 0 12 ≤ 9) : ∀ (n k : Nat) (a : Int), k + n = (I 12 0 12).toNat → 0 ≤ a → a ≤ 100 + k → Res d 158 4 [vr 12 0, vi a, vi (k : Int)] [] (mk I L t) = some (vi (fo (fun k a => if mrv I (k : Nat) = -1 then a else a + 1) k n a), mk I L t)
  | 0, k, a, hk, h0, h1 => P158_4_2 (by omega)
  | n + 1, k, a, hk, h0, h1 => by
    have e : mrv I (k : Int) = I 54 0 k := mrv_at (by omega)
    rw [fo_s]
    by_cases h2 : I 54 0 k = -1
    · rw [e, if_pos h2]
      refine Eq.trans (P158_4_0 (h1 := by omega) (g1 := by omega) (h2 := h2)) ?_
      rw [lem_w32k (by omega), Int.add_zero, w32_s (by omega)]
      exact l158 h9 n (k + 1) a (by omega) h0 (by omega)
    · rw [e, if_neg h2]
      refine Eq.trans (P158_4_1 (h1 := by omega) (g1 := by omega) (h2 := h2)) ?_
      rw [lem_w32k (k := k) (by omega), w32_s (x := a + 1) (by omega)]
      exact l158 h9 n (k + 1) (a + 1) (by omega) (by omega) (by omega)
theorem sp158 {I : H3} (h9 : I 12 0 12 ≤ 9) : Cal d 158 [vr 12 0] (mk I L t) = some (vi (cntP (mrv I)), mk I L t) := by
  refine Eq.trans P158_0_0 (Eq.trans (l158 h9 (I 12 0 12).toNat 0 0 (by omega) (Int.le_refl _) (by omega)) ?_)
  have e : fo (fun k a => if mrv I (k : Nat) = -1 then a else a + 1) 0 (I 12 0 12).toNat 0 = cntP (mrv I) := by
    unfold cntP
    obtain ⟨m, hm⟩ : ∃ m, 9 = (I 12 0 12).toNat + m := ⟨9 - (I 12 0 12).toNat, by omega⟩
    rw [hm, fo_add]
    symm
    refine fo_id m _ _ (fun j b h1 h2 => ?_)
    rw [if_pos]
    exact mrv_ge (by omega)
  rw [e]
/-- what a witness of the model keeps -/
def kpM (I : H3) (w : Nat) : Nat → Int := fun j => I 88 0 (16 * w + j)
def ktM (I : H3) (w : Nat) : Nat → Int := fun j => I 89 0 (16 * w + j)
def sTk (r _ c : Nat) : Bool := r == 75 || r == 76 || r == 77 || (r == 12 && (c == 54 || c == 55))
def s67 (r _ _ : Nat) : Bool := r == 76 || r == 77
theorem l196 {w : Nat} (hw : w < 20) : ∀ (n k : Nat) (I : H3), k + n = 16 → Fr s67 I0 I → (∀ j, j < k → I 76 0 j = kpM I0 w j ∧ I 77 0 j = ktM I0 w j) →
    ∃ J, Res (d + 1) 196 94 [vr 12 0, vi (w : Int), vi (k : Int)] [] (mk I L t) = some (vx, mk J L t) ∧ Fr s67 I0 J ∧ ∀ j, j < 16 → J 76 0 j = kpM I0 w j ∧ J 77 0 j = ktM I0 w j
  | 0, k, I, hk, hF, hj => ⟨I, P196_94_1 (by omega), hF, fun j q => hj j (by omega)⟩
  | n + 1, k, I, hk, hF, hj => by
    have ix := ix16 (f := w) (k := k) (by omega) (by omega)
    obtain ⟨J, hr, hJ⟩ := l196 hw n (k + 1) (up3 (up3 I 76 0 k (kpM I0 w k)) 77 0 k (ktM I0 w k)) (by omega) ((hF.up rfl).up rfl) (fun j q => by
      by_cases c : j = k
      · subst c
        exact ⟨by rw [up_r (show (76 : Nat) ≠ 77 by decide), up_e], by rw [up_e]⟩
      · rw [up_r (show (76 : Nat) ≠ 77 by decide), up_s c, up_s c, up_r (show (77 : Nat) ≠ 76 by decide)]
        exact hj j (by omega))
    refine ⟨J, Eq.trans (P196_94_0 (h1 := by omega) (g1 := by rw [ix]; omega) (g2 := by omega)) ?_, hJ⟩
    rw [ix, lem_w32k (k := k) (by omega), Int.toNat_natCast, Int.toNat_natCast, hF 88 0 (16 * w + k) rfl, hF 89 0 (16 * w + k) rfl]
    exact hr
/-- a witness is taken -/
theorem mtake {I : H3} {w h : Nat} (hw : w < 20) (hh : I 80 0 w = (h : Int)) (h4 : h < 4) (hb : mhOk I h) (hok : okH (mH I h)) (h31 : R31 (kpM I w)) :
    ∃ J, Cal (d + 1) 196 [vr 12 0, vi (w : Int)] (mk I L t) = some (vx, mk J L t) ∧ Fr sTk I J ∧ MAt J h (I 81 0 w) (gvT (I 83 0 w) (I 84 0 w) (I 85 0 w) (I 87 0 w)) (c16 (kpM I w)) (c16 (ktM I w)) (w32 (I 12 0 0 - I 86 0 w)) := by
  have F0 : Fr sTk I (up3 (up3 (up3 (up3 (up3 (up3 (up3 I 12 0 54 (I 80 0 w)) 12 0 55 (I 81 0 w)) 75 0 1 0) 75 0 2 0) 75 0 3 0) 75 0 8 0) 75 0 9 0) := ((((((Fr.rfl'.up rfl).up rfl).up rfl).up rfl).up rfl).up rfl).up rfl
  have F1 : Fr sTk I (up3 (up3 (up3 (up3 (up3 (up3 (up3 (up3 (up3 (up3 (up3 (up3 I 12 0 54 (I 80 0 w)) 12 0 55 (I 81 0 w)) 75 0 1 0) 75 0 2 0) 75 0 3 0) 75 0 8 0) 75 0 9 0) 75 0 4 (I 83 0 w)) 75 0 5 (I 84 0 w)) 75 0 6 (I 85 0 w)) 75 0 7 (w32 (I 12 0 0 - I 86 0 w))) 75 0 10 (I 87 0 w)) := ((((F0.up rfl).up rfl).up rfl).up rfl).up rfl
  obtain ⟨J, hr, hJ, hv⟩ := l196 (d := d) (L := L) (t := t) (I0 := up3 (up3 (up3 (up3 (up3 (up3 (up3 (up3 (up3 (up3 (up3 (up3 I 12 0 54 (I 80 0 w)) 12 0 55 (I 81 0 w)) 75 0 1 0) 75 0 2 0) 75 0 3 0) 75 0 8 0) 75 0 9 0) 75 0 4 (I 83 0 w)) 75 0 5 (I 84 0 w)) 75 0 6 (I 85 0 w)) 75 0 7 (w32 (I 12 0 0 - I 86 0 w))) 75 0 10 (I 87 0 w)) (w := w) hw 16 0 _ rfl Fr.rfl' (fun j q => by omega)
  have FJ : Fr sTk I J := F1.tr (hJ.mo (fun r i c q => by
    simp only [sTk, Bool.or_eq_false_iff] at q
    simp only [s67, Bool.or_eq_false_iff]
    exact ⟨q.1.1.2, q.1.2⟩))
  have ek : kpM (up3 (up3 (up3 (up3 (up3 (up3 (up3 (up3 (up3 (up3 (up3 (up3 I 12 0 54 (I 80 0 w)) 12 0 55 (I 81 0 w)) 75 0 1 0) 75 0 2 0) 75 0 3 0) 75 0 8 0) 75 0 9 0) 75 0 4 (I 83 0 w)) 75 0 5 (I 84 0 w)) 75 0 6 (I 85 0 w)) 75 0 7 (w32 (I 12 0 0 - I 86 0 w))) 75 0 10 (I 87 0 w)) w = kpM I w := rfl
  have et : ktM (up3 (up3 (up3 (up3 (up3 (up3 (up3 (up3 (up3 (up3 (up3 (up3 I 12 0 54 (I 80 0 w)) 12 0 55 (I 81 0 w)) 75 0 1 0) 75 0 2 0) 75 0 3 0) 75 0 8 0) 75 0 9 0) 75 0 4 (I 83 0 w)) 75 0 5 (I 84 0 w)) 75 0 6 (I 85 0 w)) 75 0 7 (w32 (I 12 0 0 - I 86 0 w))) 75 0 10 (I 87 0 w)) w = ktM I w := rfl
  rw [ek, et] at hv
  have em : mH J h = mH I h := mH_fr FJ (fun _ => ⟨rfl, rfl, rfl⟩)
  have e76 : c16 (J 76 0) = c16 (kpM I w) := c16_cg (fun j q => (hv j q).1)
  refine ⟨J, Eq.trans (P196_0_0 (g1 := by omega) (c1 := P185_0_0)) hr, FJ, ⟨h4, (hJ 12 0 54 rfl).trans hh, mhOk_cg (FJ.ri (fun _ => rfl)) (FJ.ri (fun _ => rfl)) hb, by rw [em]; exact hok⟩, hJ 12 0 55 rfl, ?_, e76, c16_cg (fun j q => (hv j q).2), ?_⟩
  · rw [gvM_cg (hJ.ri (r := 75) (i := 0) (fun _ => rfl))]
    exact gvM_5 gvM_N
  · apply R31.c
    rw [e76]
    exact h31.d
/-- what is kept of it -/
theorem l197 {I : H3} {w : Nat} (hw : w < 20) : ∀ (n k : Nat), k + n = 16 → Res d 197 2 [vr 12 0, vi (w : Int), vi (k : Int)] [] (mk (sb I 88 0 (16 * w) k (I 76 0)) L t) = some (vx, mk (sb I 88 0 (16 * w) 16 (I 76 0)) L t)
  | 0, k, hk => by
    have h16 : k = 16 := by omega
    subst h16
    exact P197_2_1 (by omega)
  | n + 1, k, hk => by
    have ix := ix16 (f := w) (k := k) (by omega) (by omega)
    refine Eq.trans (P197_2_0 (h1 := by omega) (g1 := by omega) (g2 := by rw [ix]; omega)) ?_
    rw [ix, lem_w32k (k := k) (by omega), Int.toNat_natCast, Int.toNat_natCast, sb_r (show (76 : Nat) ≠ 88 by decide), sb_s]
    exact l197 hw n (k + 1) (by omega)
theorem sp197 {I : H3} {w : Nat} (hw : w < 20) : Cal d 197 [vr 12 0, vi (w : Int)] (mk I L t) = some (vx, mk (sb I 88 0 (16 * w) 16 (I 76 0)) L t) := by
  have := l197 (d := d) (I := I) (L := L) (t := t) hw 16 0 rfl
  rw [sb_0] at this
  exact Eq.trans P197_0_0 this
end TAKE
section MPUT
variable {d h : Nat} {I L : H3} {t : Nat → Nat} {k dy s l f tt : Int} {m ty : Nat → Int}
def s104 (r _ _ : Nat) : Bool := r == 104
theorem l212z {part : Int} : ∀ (n j : Nat) (I : H3), j + n = 16 → 12 ≤ j → (∀ c, 12 ≤ c → c < j → I 104 0 c = 0) →
    ∃ J, Res (d + 1) 212 14 [vr 12 0, vi part, vi (j : Int), vx, vx, vx, vx] [] (mk I L t) = Res (d + 1) 212 35 [vr 12 0, vi part, vi 0, vx, vx, vx, vx] [] (mk J L t) ∧ Fr s104 I J ∧ ∀ c, 12 ≤ c → c < 16 → J 104 0 c = 0
  | 0, j, I, hj, h12, hz => ⟨I, P212_14_1 (by omega), Fr.rfl', fun c h1 h2 => hz c h1 (by omega)⟩
  | n + 1, j, I, hj, h12, hz => by
    obtain ⟨J, hr, hJ, hv⟩ := l212z (part := part) n (j + 1) (up3 I 104 0 j 0) (by omega) (by omega) (fun c h1 h2 => by
      by_cases q : c = j
      · subst q
        rw [up_e]
      · rw [up_s q]
        exact hz c h1 (by omega))
    refine ⟨J, Eq.trans (P212_14_0 (h1 := by omega) (g1 := by omega)) ?_, Fr.tr (Fr.rfl'.up rfl) hJ, hv⟩
    rw [lem_w32k (by omega)]
    exact hr
theorem l212n {part : Int} (hl : lnOk I) (hp : 0 ≤ part ∧ part ≤ 15) {p : Nat} (hp6 : p < 6) : ∀ (n j : Nat) (s : Int × Int) (u6 : MV), (j : Int) + n = I 12 0 12 →
    ∃ u6', Res (d + 3) 212 49 [vr 12 0, vi part, vi (p : Int), vi s.1, vi s.2, vi (j : Int), u6] [] (mk I L t) = Res (d + 3) 212 49 [vr 12 0, vi part, vi (p : Int), vi (fo (nbS (nM I) (mrv I) (blrP (I 76 0 (2 * p)) part) (blrP (I 76 0 (2 * p + 1)) part) (2 * p)) j n s).1, vi (fo (nbS (nM I) (mrv I) (blrP (I 76 0 (2 * p)) part) (blrP (I 76 0 (2 * p + 1)) part) (2 * p)) j n s).2, vi (I 12 0 12), u6'] [] (mk I L t)
  | 0, j, s, u6, hj => by
    have e : (j : Int) = I 12 0 12 := by omega
    rw [e]
    exact ⟨u6, rfl⟩
  | n + 1, j, s, u6, hj => by
    have hl9 := hl.1
    have e2 : w32 (2 * (p : Int)) = ((2 * p : Nat) : Int) := by rw [w32_s (by omega)]; omega
    have e3 : w32 (((2 * p : Nat) : Int) + 1) = ((2 * p + 1 : Nat) : Int) := lem_w32k (by omega)
    have ev : mrv I (j : Int) = I 54 0 j := mrv_at (by omega)
    rw [fo_s]
    by_cases h1 : I 54 0 j = -1
    · have es : nbS (nM I) (mrv I) (blrP (I 76 0 (2 * p)) part) (blrP (I 76 0 (2 * p + 1)) part) (2 * p) j s = s := if_pos (by rw [ev]; exact h1)
      rw [es]
      obtain ⟨u6', hr⟩ := l212n hl hp hp6 n (j + 1) s u6 (by omega)
      refine ⟨u6', Eq.trans (P212_49_0 (h1 := by omega) (g1 := by omega) (h2 := h1)) ?_⟩
      rw [lem_w32k (by omega)]
      exact hr
    · have hb := (hl.2 (j : Int)).resolve_left (by rw [ev]; exact h1)
      rw [ev] at hb
      have ef : (((I 54 0 j).toNat : Nat) : Int) = I 54 0 j := by omega
      have i1 := ix16 (f := (I 54 0 j).toNat) (k := 2 * p) (by omega) (by omega)
      have i2 := ix16 (f := (I 54 0 j).toNat) (k := 2 * p + 1) (by omega) (by omega)
      rw [ef] at i1 i2
      have c1 : Cal (d + 2) 211 [vr 12 0, vi (I 54 0 j), vi ((2 * p : Nat) : Int), vi part] (mk I L t) = some (vi (aptP (nM I (I 54 0 j).toNat (2 * p)) (blrP (I 76 0 (2 * p)) part)), mk I L t) := by
        refine Eq.trans (P211_0_0 (g1 := by rw [i1]; omega) (g2 := by omega) (g3 := hp)) ?_
        rw [i1]
        rfl
      have c2 : Cal (d + 2) 211 [vr 12 0, vi (I 54 0 j), vi ((2 * p + 1 : Nat) : Int), vi part] (mk I L t) = some (vi (aptP (nM I (I 54 0 j).toNat (2 * p + 1)) (blrP (I 76 0 (2 * p + 1)) part)), mk I L t) := by
        refine Eq.trans (P211_0_0 (g1 := by rw [i2]; omega) (g2 := by omega) (g3 := hp)) ?_
        rw [i2]
        rfl
      have c1' : Cal (d + 2) 211 [vr 12 0, vi (I 54 0 ((j : Int).toNat)), vi (w32 (2 * (p : Int))), vi part] (mk I L t) = some (vi (aptP (nM I (I 54 0 j).toNat (2 * p)) (blrP (I 76 0 (2 * p)) part)), mk I L t) := by rw [e2]; exact c1
      have c2' : Cal (d + 2) 211 [vr 12 0, vi (I 54 0 ((j : Int).toNat)), vi (w32 (w32 (2 * (p : Int)) + 1)), vi part] (mk I L t) = some (vi (aptP (nM I (I 54 0 j).toNat (2 * p + 1)) (blrP (I 76 0 (2 * p + 1)) part)), mk I L t) := by rw [e2, e3]; exact c2
      by_cases h3 : s.1 = -1
      · have es : nbS (nM I) (mrv I) (blrP (I 76 0 (2 * p)) part) (blrP (I 76 0 (2 * p + 1)) part) (2 * p) j s = (I 54 0 j, w32 (aptP (nM I (I 54 0 j).toNat (2 * p)) (blrP (I 76 0 (2 * p)) part) + aptP (nM I (I 54 0 j).toNat (2 * p + 1)) (blrP (I 76 0 (2 * p + 1)) part))) := by
          unfold nbS
          rw [ev, if_neg h1, if_pos (Or.inl h3)]
        rw [es]
        obtain ⟨u6', hr⟩ := l212n hl hp hp6 n (j + 1) (_, _) _ (by omega)
        refine ⟨u6', Eq.trans (P212_49_3 (h1 := by omega) (g1 := by omega) (h2 := h1) (c1 := c1') (c2 := c2') (h3 := h3)) ?_⟩
        rw [lem_w32k (k := j) (by omega)]
        exact hr
      · by_cases h4 : w32 (aptP (nM I (I 54 0 j).toNat (2 * p)) (blrP (I 76 0 (2 * p)) part) + aptP (nM I (I 54 0 j).toNat (2 * p + 1)) (blrP (I 76 0 (2 * p + 1)) part)) < s.2
        · have es : nbS (nM I) (mrv I) (blrP (I 76 0 (2 * p)) part) (blrP (I 76 0 (2 * p + 1)) part) (2 * p) j s = (I 54 0 j, w32 (aptP (nM I (I 54 0 j).toNat (2 * p)) (blrP (I 76 0 (2 * p)) part) + aptP (nM I (I 54 0 j).toNat (2 * p + 1)) (blrP (I 76 0 (2 * p + 1)) part))) := by
            unfold nbS
            rw [ev, if_neg h1, if_pos (Or.inr h4)]
          rw [es]
          obtain ⟨u6', hr⟩ := l212n hl hp hp6 n (j + 1) (_, _) _ (by omega)
          refine ⟨u6', Eq.trans (P212_49_2 (h1 := by omega) (g1 := by omega) (h2 := h1) (c1 := c1') (c2 := c2') (h3 := h3) (h4 := h4)) ?_⟩
          rw [lem_w32k (k := j) (by omega)]
          exact hr
        · have es : nbS (nM I) (mrv I) (blrP (I 76 0 (2 * p)) part) (blrP (I 76 0 (2 * p + 1)) part) (2 * p) j s = s := by
            unfold nbS
            rw [ev, if_neg h1, if_neg (fun q => q.elim h3 h4)]
          rw [es]
          obtain ⟨u6', hr⟩ := l212n hl hp hp6 n (j + 1) s _ (by omega)
          refine ⟨u6', Eq.trans (P212_49_1 (h1 := by omega) (g1 := by omega) (h2 := h1) (c1 := c1') (c2 := c2') (h3 := h3) (h4 := by omega)) ?_⟩
          rw [lem_w32k (k := j) (by omega)]
          exact hr
theorem l212i {I0 : H3} {part : Int} {nb : Nat → Int} {p g : Nat} {least : Int} {u6 : MV} (hp : p < 6) (hg : nb p = (g : Int)) (hg2 : g < 120) : ∀ (n j : Nat) (I : H3), j + n = 16 → 12 ≤ j → Fr s104 I0 I → (∀ c, c < 16 → c < 2 * (p + 1) ∨ 12 ≤ c → I 104 0 c = if c < 12 ∨ c < j then cmS (nM I0) nb (p + 1) c else cmS (nM I0) nb p c) →
    ∃ J, Res (d + 3) 212 190 [vr 12 0, vi part, vi (p : Int), vi (g : Int), vi least, vi (j : Int), u6] [] (mk I L t) = Res (d + 3) 212 35 [vr 12 0, vi part, vi ((p + 1 : Nat) : Int), vi (g : Int), vi least, vi 16, u6] [] (mk J L t) ∧ Fr s104 I0 J ∧ ∀ c, c < 16 → c < 2 * (p + 1) ∨ 12 ≤ c → J 104 0 c = cmS (nM I0) nb (p + 1) c
  | 0, j, I, hj, h12, hF, hc => by
    have hk' : j = 16 := by omega
    subst hk'
    refine ⟨I, Eq.trans (P212_190_1 (by omega)) ?_, hF, fun c h q => ?_⟩
    · rw [lem_w32k (by omega)]
      rfl
    · rw [hc c h q, if_pos (Or.inr h)]
  | n + 1, j, I, hj, h12, hF, hc => by
    have ix := ix16 (f := g) (k := j) (by omega) (by omega)
    have e48 : I 48 0 = I0 48 0 := hF.ri (fun _ => rfl)
    have ev : w32 (I 104 0 j + I 48 0 (16 * g + j)) = cmS (nM I0) nb (p + 1) j := by
      rw [hc j (by omega) (Or.inr h12), if_neg (by omega), e48]
      unfold cmS
      rw [if_neg (by omega), if_neg (by omega), fo_e, Nat.zero_add, hg]
      rfl
    obtain ⟨J, hr, hJ⟩ := l212i hp hg hg2 n (j + 1) (up3 I 104 0 j (cmS (nM I0) nb (p + 1) j)) (by omega) (by omega) (hF.up rfl) (fun c h q => by
      by_cases hcj : c = j
      · subst hcj
        rw [up_e, if_pos (by omega)]
      · rw [up_s hcj, hc c h q]
        by_cases h1 : c < 12 ∨ c < j
        · rw [if_pos h1, if_pos (by omega)]
        · rw [if_neg h1, if_neg (by omega)])
    refine ⟨J, Eq.trans (P212_190_0 (h1 := by omega) (g1 := by omega) (g2 := by rw [ix]; omega)) ?_, hJ⟩
    rw [ix, lem_w32k (k := j) (by omega), Int.toNat_natCast, Int.toNat_natCast, ev]
    exact hr
theorem nb_tail {F : Nat → Nat → Int} {rv : Int → Int} {a b : Int} {j sz : Nat} (h9 : sz ≤ 9) (hz : ∀ k : Nat, sz ≤ k → rv k = -1) : fo (nbS F rv a b j) 0 sz (-1, 0) = fo (nbS F rv a b j) 0 9 (-1, 0) := by
  obtain ⟨q, hq⟩ : ∃ q, 9 = sz + q := ⟨9 - sz, by omega⟩
  rw [hq, fo_add]
  symm
  exact fo_id q _ _ (fun j b h1 h2 => if_pos (hz j (by omega)))
theorem l212 {I0 : H3} {part : Int} {nb : Nat → Int} (hl : lnOk I0) (hh : hasF (mrv I0)) (hp : 0 ≤ part ∧ part ≤ 15) (hnb : nb = fun p => nbP (nM I0) (mrv I0) (I0 76 0) (2 * p) part) : ∀ (n p : Nat) (I : H3) (u3 u4 u5 u6 : MV), p + n = 6 → Fr s104 I0 I → (∀ c, c < 16 → c < 2 * p ∨ 12 ≤ c → I 104 0 c = cmS (nM I0) nb p c) →
    ∃ J, ∃ u3' u4' u5' u6' : MV, Res (d + 3) 212 35 [vr 12 0, vi part, vi (p : Int), u3, u4, u5, u6] [] (mk I L t) = Res (d + 3) 212 234 [vr 12 0, vi part, vi 12, u3', u4', u5', u6'] [] (mk J L t) ∧ Fr s104 I0 J ∧ ∀ c, c < 16 → J 104 0 c = cmS (nM I0) nb 6 c
  | 0, p, I, u3, u4, u5, u6, hk, hF, hc => by
    have hk' : p = 6 := by omega
    subst hk'
    exact ⟨I, u3, u4, u5, u6, P212_35_1 (by omega), hF, fun c h => hc c h (by omega)⟩
  | n + 1, p, I, u3, u4, u5, u6, hk, hF, hc => by
    have e48 : nM I = nM I0 := nM_fr hF (fun _ => rfl)
    have e76 : I 76 0 = I0 76 0 := hF.ri (fun _ => rfl)
    have er : mrv I = mrv I0 := mrv_fr hF rfl (fun _ => rfl)
    have e12 : I 12 0 12 = I0 12 0 12 := hF 12 0 12 rfl
    have hl9 := hl.1
    have hin : 0 ≤ nb p ∧ nb p < 120 := by rw [hnb]; exact nbP_in hl.2 hh
    obtain ⟨v6, hn⟩ := l212n (d := d) (I := I) (L := L) (t := t) (lnOk_fr hF rfl (fun _ => rfl) hl) hp (p := p) (by omega) (I 12 0 12).toNat 0 (-1, 0) u6 (by rw [e12]; omega)
    have enb : fo (nbS (nM I) (mrv I) (blrP (I 76 0 (2 * p)) part) (blrP (I 76 0 (2 * p + 1)) part) (2 * p)) 0 (I 12 0 12).toNat (-1, 0) = fo (nbS (nM I0) (mrv I0) (blrP (I0 76 0 (2 * p)) part) (blrP (I0 76 0 (2 * p + 1)) part) (2 * p)) 0 9 (-1, 0) := by
      rw [nb_tail (by rw [e12]; omega) (fun k q => mrv_ge (by rw [e12] at q ⊢; omega)), e48, er, e76]
    rw [enb] at hn
    have e1 : (fo (nbS (nM I0) (mrv I0) (blrP (I0 76 0 (2 * p)) part) (blrP (I0 76 0 (2 * p + 1)) part) (2 * p)) 0 9 (-1, 0)).1 = nb p := by rw [hnb]; rfl
    rw [e1] at hn
    have e2 : w32 (2 * (p : Int)) = ((2 * p : Nat) : Int) := by rw [w32_s (by omega)]; omega
    have e3 : w32 (((2 * p : Nat) : Int) + 1) = ((2 * p + 1 : Nat) : Int) := lem_w32k (by omega)
    have eg : (((nb p).toNat : Nat) : Int) = nb p := by omega
    have i1 := ix16 (f := (nb p).toNat) (k := 2 * p) (by omega) (by omega)
    rw [eg] at i1
    have i2 : w32 (((16 * (nb p).toNat + 2 * p : Nat) : Int) + 1) = ((16 * (nb p).toNat + (2 * p + 1) : Nat) : Int) := lem_w32k (by omega)
    have st := P212_49_4 (d := d + 2) (I := I) (L := L) (t := t) (x1 := part) (x2 := (p : Int)) (x3 := nb p) (x4 := (fo (nbS (nM I0) (mrv I0) (blrP (I0 76 0 (2 * p)) part) (blrP (I0 76 0 (2 * p + 1)) part) (2 * p)) 0 9 (-1, 0)).2) (x5 := I 12 0 12) (u6 := v6) (h1 := Int.le_refl _) (g1 := by rw [e2, i1]; omega) (g2 := by rw [e2]; omega) (g3 := by rw [e2, i1, i2]; omega) (g4 := by rw [e2, e3]; omega)
    rw [e2, i1, i2, e3, Int.toNat_natCast, Int.toNat_natCast, Int.toNat_natCast, Int.toNat_natCast] at st
    obtain ⟨J1, hr1, hF1, hc1⟩ := l212i (d := d) (L := L) (t := t) (I0 := I0) (part := part) (nb := nb) (p := p) (g := (nb p).toNat) (least := (fo (nbS (nM I0) (mrv I0) (blrP (I0 76 0 (2 * p)) part) (blrP (I0 76 0 (2 * p + 1)) part) (2 * p)) 0 9 (-1, 0)).2) (u6 := v6) (by omega) eg.symm (by omega) 4 12 (up3 (up3 I 104 0 (2 * p) (I 48 0 (16 * (nb p).toNat + 2 * p))) 104 0 (2 * p + 1) (I 48 0 (16 * (nb p).toNat + (2 * p + 1)))) rfl (by decide) ((hF.up rfl).up rfl) (fun c h q => by
      have e48' : ∀ j, I 48 0 (16 * (nb p).toNat + j) = nM I0 (nb p).toNat j := fun j => by rw [← e48]; rfl
      by_cases h1 : c = 2 * p + 1
      · subst h1
        rw [up_e, if_pos (by omega), e48']
        unfold cmS
        rw [if_pos (by omega), if_pos (by omega), show (2 * p + 1) / 2 = p by omega]
      · rw [up_s h1]
        by_cases h2 : c = 2 * p
        · subst h2
          rw [up_e, if_pos (by omega), e48']
          unfold cmS
          rw [if_pos (by omega), if_pos (by omega), show 2 * p / 2 = p by omega]
        · rw [up_s h2, hc c h (by omega)]
          by_cases h3 : c < 12
          · rw [if_pos (by omega)]
            unfold cmS
            rw [if_pos h3, if_pos h3, if_pos (by omega), if_pos (by omega)]
          · rw [if_neg (by omega)])
    rw [eg] at hr1
    obtain ⟨J, v3, v4, v5, v6', hr2, hJ⟩ := l212 hl hh hp hnb n (p + 1) J1 _ _ _ _ (by omega) hF1 hc1
    exact ⟨J, v3, v4, v5, v6', Eq.trans (P212_35_0 (by omega)) (Eq.trans hn (Eq.trans st (Eq.trans hr1 hr2))), hJ⟩
theorem l212d {I0 : H3} {part : Int} {g : Nat → Int} : ∀ (n j : Nat) (I : H3) (u3 u4 u5 u6 : MV), j + n = 16 → 12 ≤ j → Fr s104 I0 I → (∀ c, c < 16 → I 104 0 c = if 12 ≤ c ∧ c < j then vIdiv (g c) 6 else g c) →
    ∃ J, Res (d + 1) 212 234 [vr 12 0, vi part, vi (j : Int), u3, u4, u5, u6] [] (mk I L t) = some (vx, mk J L t) ∧ Fr s104 I0 J ∧ ∀ c, c < 16 → J 104 0 c = if 12 ≤ c then vIdiv (g c) 6 else g c
  | 0, j, I, u3, u4, u5, u6, hj, h12, hF, hc => by
    refine ⟨I, P212_234_1 (by omega), hF, fun c h => ?_⟩
    rw [hc c h]
    by_cases h1 : 12 ≤ c
    · rw [if_pos ⟨h1, by omega⟩, if_pos h1]
    · rw [if_neg (by omega), if_neg h1]
  | n + 1, j, I, u3, u4, u5, u6, hj, h12, hF, hc => by
    obtain ⟨J, hr, hJ⟩ := l212d (g := g) n (j + 1) (up3 I 104 0 j (vIdiv (g j) 6)) u3 u4 u5 u6 (by omega) (by omega) (hF.up rfl) (fun c h => by
      by_cases hcj : c = j
      · subst hcj
        rw [up_e, if_pos (by omega)]
      · rw [up_s hcj, hc c h]
        by_cases h1 : 12 ≤ c ∧ c < j
        · rw [if_pos h1, if_pos (by omega)]
        · rw [if_neg h1, if_neg (by omega)])
    refine ⟨J, Eq.trans (P212_234_0 (h1 := by omega) (g1 := by omega)) ?_, hJ⟩
    rw [lem_w32k (by omega), Int.toNat_natCast, hc j (by omega), if_neg (by omega)]
    exact hr
def sPt (r _ _ : Nat) : Bool := r == 63 || r == 75 || r == 104
/-- a face is put together -/
theorem mput (a : MAt I h k (gvT s l f tt) m ty dy) (hl : lnOk I) (hh : hasF (mrv I)) : ∃ J, Cal (d + 3) 212 [vr 12 0] (mk I L t) = some (vx, mk J L t) ∧ Fr sPt I J ∧ MAt J h k (gvT s l f tt) m ty dy ∧ c16 (J 104 0) = cmP (nM I) (fun p => nbP (nM I) (mrv I) m (2 * p) (ans (mH I h) 7 (gvT s l f tt dy))) := by
  obtain ⟨J1, c1, F1, a1⟩ := mnone (d := d + 2) (L := L) (t := t) a
  obtain ⟨J2, c2, F2, a2⟩ := mask (d := d + 1) (L := L) (t := t) (w := 7) a1 (by decide)
  rw [mH_fr F1 (fun _ => ⟨rfl, rfl, rfl⟩)] at c2
  have F : Fr sF I J2 := (s75_F F1).tr (s63_F F2)
  have h7 := ans_in (mH I h) (w := 7) (gvT s l f tt dy) (by decide)
  rw [r2_100.2.2.2.2.2.2.1, r2_100.2.2.2.2.2.2.2.1] at h7
  obtain ⟨J3, hr3, F3, hz⟩ := l212z (d := d + 2) (L := L) (t := t) (part := ans (mH I h) 7 (gvT s l f tt dy)) 4 12 J2 rfl (by decide) (fun c h1 h2 => by omega)
  have F03 : Fr sPt I J3 := (F.mo (fun r i c q => by
    simp only [sPt, Bool.or_eq_false_iff] at q
    simp only [sF, Bool.or_eq_false_iff]
    exact q.1)).tr (F3.mo (fun r i c q => by
    simp only [sPt, Bool.or_eq_false_iff] at q
    exact q.2))
  have en := nM_fr F03 (fun _ => rfl)
  have er := mrv_fr F03 rfl (fun _ => rfl)
  have e76 : J3 76 0 = I 76 0 := F03.ri (fun _ => rfl)
  obtain ⟨J4, v3, v4, v5, v6, hr4, F4, hc4⟩ := l212 (d := d) (L := L) (t := t) (I0 := J3) (part := ans (mH I h) 7 (gvT s l f tt dy)) (nb := fun p => nbP (nM I) (mrv I) (I 76 0) (2 * p) (ans (mH I h) 7 (gvT s l f tt dy))) (lnOk_fr F03 rfl (fun _ => rfl) hl) (by rw [er]; exact hh) h7 (by rw [en, er, e76]) 6 0 J3 vx vx vx vx rfl Fr.rfl' (fun c hc q => by
    rw [hz c (by omega) hc]
    unfold cmS
    rw [if_neg (by omega)]
    rfl)
  obtain ⟨J5, hr5, F5, hc5⟩ := l212d (d := d + 2) (L := L) (t := t) (I0 := J3) (part := ans (mH I h) 7 (gvT s l f tt dy)) (g := cmS (nM I) (fun p => nbP (nM I) (mrv I) (I 76 0) (2 * p) (ans (mH I h) 7 (gvT s l f tt dy))) 6) 4 12 J4 v3 v4 v5 v6 rfl (by decide) F4 (fun c hc => by rw [if_neg (by omega), hc4 c hc, en])
  have F05 : Fr sPt I J5 := F03.tr (F5.mo (fun r i c q => by
    simp only [sPt, Bool.or_eq_false_iff] at q
    exact q.2))
  refine ⟨J5, Eq.trans (P212_0_0 (c1 := c1) (c2 := c2)) (Eq.trans hr3 (Eq.trans hr4 hr5)), F05, a.fr F05 rfl rfl (fun _ => ⟨rfl, rfl, rfl⟩) (fun _ => ⟨rfl, rfl⟩) ?_, ?_⟩
  · rw [a.2.2.1, ← a2.2.2.1]
    exact gvM_cg ((F5.ri (fun _ => rfl)).trans (F3.ri (fun _ => rfl)))
  · have e1 : cmP (nM I) (fun p => nbP (nM I) (mrv I) (I 76 0) (2 * p) (ans (mH I h) 7 (gvT s l f tt dy))) = cmP (nM I) (fun p => nbP (nM I) (mrv I) m (2 * p) (ans (mH I h) 7 (gvT s l f tt dy))) :=
      cmP_cg (fun _ _ => rfl) (fun p hp => ⟨nbP_cg (fun _ _ => rfl) hl.2 (by rw [a.2.2.2.1, ← a.2.2.2.1, c16_c]) (by omega), nbP_in hl.2 hh⟩)
    rw [← e1]
    funext c
    unfold cmP c16
    by_cases h : c < 16
    · rw [if_pos h, hc5 c h]
      unfold cmS
      by_cases h1 : c < 12
      · rw [if_neg (by omega), if_pos h1, if_pos h1, if_pos (by omega)]
      · rw [if_pos (by omega), if_neg h1, if_neg h1, if_pos h]
    · rw [if_neg h, if_neg (by omega), if_neg h]
theorem l213 {p : Int} : ∀ (n j : Nat), j + n = 16 → Res (d + 1) 213 12 [vr 12 0, vi p, vi (j : Int)] [] (mk (sr I 76 0 j (pulP p (I 104 0) (I 76 0))) L t) = some (vx, mk (sr I 76 0 16 (pulP p (I 104 0) (I 76 0))) L t)
  | 0, j, hj => by
    have h16 : j = 16 := by omega
    subst h16
    exact P213_12_1 (by omega)
  | n + 1, j, hj => by
    refine Eq.trans (P213_12_0 (h1 := by omega) (g1 := by omega)) ?_
    rw [lem_w32k (k := j) (by omega), Int.toNat_natCast, sr_ge (Nat.le_refl j), sr_r (show (104 : Nat) ≠ 76 by decide), w32_comm]
    have e : w32 (I 76 0 j + vIdiv (w32 (p * w32 (I 104 0 j - I 76 0 j))) 100) = pulP p (I 104 0) (I 76 0) j := by
      unfold pulP
      rw [if_pos (by omega)]
    rw [e, sr_s]
    exact l213 n (j + 1) (by omega)
theorem mpullm (a : MAt I h k (gvT s l f tt) m ty dy) {o : Nat → Int} (ho : c16 (I 104 0) = o) (h31 : R31 o) : ∃ J, Cal (d + 2) 213 [vr 12 0] (mk I L t) = some (vx, mk J L t) ∧ Fr sMy I J ∧ MAt J h k (gvT s l f tt) (pulP (ans (mH I h) 3 (gvT s l f tt dy)) o m) ty dy := by
  obtain ⟨J1, c1, F1, a1⟩ := mnone (d := d + 1) (L := L) (t := t) a
  obtain ⟨J2, c2, F2, a2⟩ := mask (d := d) (L := L) (t := t) (w := 3) a1 (by decide)
  rw [mH_fr F1 (fun _ => ⟨rfl, rfl, rfl⟩)] at c2
  have F : Fr sMy I J2 := (s75_My F1).tr (s63_My F2)
  have h3 := ans_in (mH I h) (w := 3) (gvT s l f tt dy) (by decide)
  rw [r2_100.2.2.1, r2_100.2.2.2.1] at h3
  have hr := l213 (d := d + 1) (I := J2) (L := L) (t := t) (p := ans (mH I h) 3 (gvT s l f tt dy)) 16 0 rfl
  rw [sr_0] at hr
  have FJ : Fr sMy I (sr J2 76 0 16 (pulP (ans (mH I h) 3 (gvT s l f tt dy)) (J2 104 0) (J2 76 0))) := F.wr (fun _ _ => rfl)
  have e : c16 (sr J2 76 0 16 (pulP (ans (mH I h) 3 (gvT s l f tt dy)) (J2 104 0) (J2 76 0)) 76 0) = pulP (ans (mH I h) 3 (gvT s l f tt dy)) o m := by
    rw [sr_c16, c16_pul, ← a2.2.2.2.1, ← ho, F.ri (r := 104) (i := 0) (fun _ => rfl), pul_c]
  refine ⟨_, Eq.trans (P213_0_0 (c1 := c1) (c2 := c2)) hr, FJ, (mhd_fr FJ rfl (fun _ => ⟨rfl, rfl, rfl⟩) a.1).1, (FJ 12 0 55 rfl).trans a.2.1, ?_, e, ?_, ?_⟩
  · rw [← a2.2.2.1]
    exact gvM_cg (by rw [sr_r (show (75 : Nat) ≠ 76 by decide)])
  · rw [FJ.ri (r := 77) (i := 0) (fun _ => rfl)]
    exact a.2.2.2.2.1
  · apply R31.c
    rw [e]
    exact pul_in h3 h31 (by rw [← a.2.2.2.1]; exact a.2.2.2.2.2.d)
end MPUT
