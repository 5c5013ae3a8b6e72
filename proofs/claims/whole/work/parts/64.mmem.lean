/-! the model: memories, sights, rows -/
/-- writes of a stretch -/
def sb (I : H3) (r i b n : Nat) (f : Nat → Int) : H3 := fun a b' c => if a = r ∧ b' = i ∧ b ≤ c ∧ c < b + n then f (c - b) else I a b' c
theorem sb_0 {I : H3} {r i b : Nat} {f : Nat → Int} : sb I r i b 0 f = I := by
  funext a b' c
  exact if_neg (fun k => by omega)
theorem sb_s {I : H3} {r i b n : Nat} {f : Nat → Int} : up3 (sb I r i b n f) r i (b + n) (f n) = sb I r i b (n + 1) f := by
  funext a b' c
  unfold up3 sb
  by_cases h : a = r ∧ b' = i
  · by_cases h1 : c = b + n
    · rw [if_pos ⟨h.1, h.2, h1⟩, if_pos ⟨h.1, h.2, by omega⟩, h1, Nat.add_sub_cancel_left]
    · rw [if_neg (fun k => h1 k.2.2)]
      by_cases h2 : b ≤ c ∧ c < b + n
      · rw [if_pos ⟨h.1, h.2, h2⟩, if_pos ⟨h.1, h.2, by omega⟩]
      · rw [if_neg (fun k => h2 k.2.2), if_neg (fun k => by omega)]
  · rw [if_neg (fun k => h ⟨k.1, k.2.1⟩), if_neg (fun k => h ⟨k.1, k.2.1⟩), if_neg (fun k => h ⟨k.1, k.2.1⟩)]
theorem sb_r {I : H3} {r i b n a : Nat} {f : Nat → Int} (h : a ≠ r) : sb I r i b n f a = I a := by
  funext b' c
  exact if_neg (fun k => h k.1)
theorem sb_in {I : H3} {r i b n c : Nat} {f : Nat → Int} (h : c < n) : sb I r i b n f r i (b + c) = f c := by
  unfold sb
  rw [if_pos ⟨rfl, rfl, by omega⟩, Nat.add_sub_cancel_left]
theorem sb_out {I : H3} {r i b n c : Nat} {f : Nat → Int} (h : c < b ∨ b + n ≤ c) : sb I r i b n f r i c = I r i c := if_neg (fun k => by omega)
theorem Fr.st {S : Nat → Nat → Nat → Bool} {I J : H3} {r i b n : Nat} {f : Nat → Int} (a : Fr S I J) (h : ∀ c, b ≤ c → c < b + n → S r i c = true) : Fr S I (sb J r i b n f) := fun r' i' c k => by
  rw [show sb J r i b n f r' i' c = J r' i' c from if_neg (fun e => by rw [e.1, e.2.1, h c e.2.2.1 e.2.2.2] at k; cases k)]
  exact a r' i' c k
theorem gvM_7 {I : H3} {s l f dy t v : Int} (h : gvM I = gvB s l f dy t) : gvM (up3 I 75 0 7 v) = gvB s l f v t := by
  funext j
  match j with
  | 0 => exact congrFun h 0
  | 1 => exact congrFun h 1
  | 2 => exact congrFun h 2
  | 3 => exact congrFun h 3
  | 4 => exact congrFun h 4
  | 5 => exact congrFun h 5
  | 6 => rfl
  | 7 => exact congrFun h 7
  | 8 => exact congrFun h 8
  | 9 => exact congrFun h 9
  | n + 10 => rfl
theorem gvM_t {I : H3} {s l f dy t v : Int} (h : gvM I = gvB s l f dy t) : gvM (up3 I 75 0 10 v) = gvB s l f dy v := by
  funext j
  match j with
  | 0 => exact congrFun h 0
  | 1 => exact congrFun h 1
  | 2 => exact congrFun h 2
  | 3 => exact congrFun h 3
  | 4 => exact congrFun h 4
  | 5 => exact congrFun h 5
  | 6 => exact congrFun h 6
  | 7 => exact congrFun h 7
  | 8 => exact congrFun h 8
  | 9 => rfl
  | n + 10 => rfl
theorem gvM_5 {I : H3} {g : Nat → Int} {s l f dy t : Int} (h : gvM I = gN g) : gvM (up3 (up3 (up3 (up3 (up3 I 75 0 4 s) 75 0 5 l) 75 0 6 f) 75 0 7 dy) 75 0 10 t) = gvB s l f dy t := by
  funext j
  match j with
  | 0 => exact congrFun h 0
  | 1 => exact congrFun h 1
  | 2 => exact congrFun h 2
  | 3 => rfl
  | 4 => rfl
  | 5 => rfl
  | 6 => rfl
  | 7 => exact congrFun h 7
  | 8 => exact congrFun h 8
  | 9 => rfl
  | n + 10 => rfl
/-- the witness that the model works with -/
def MAt (I : H3) (h : Nat) (k : Int) (G : Int → Nat → Int) (m ty : Nat → Int) (dy : Int) : Prop := mhd I h ∧ I 12 0 55 = k ∧ gvM I = G dy ∧ c16 (I 76 0) = m ∧ c16 (I 77 0) = ty ∧ R31 (I 76 0)
/-- what may be asked, by the days -/
def gvT (s l f t : Int) (dy : Int) : Nat → Int := gvB s l f dy t
theorem MAt.fr {S : Nat → Nat → Nat → Bool} {I J : H3} {h : Nat} {k dy : Int} {G : Int → Nat → Int} {m ty : Nat → Int} (a : MAt I h k G m ty dy) (f : Fr S I J) (h1 : S 12 0 54 = false) (h2 : S 12 0 55 = false) (h3 : ∀ c, S 55 0 c = false ∧ S 56 0 c = false ∧ S 57 0 c = false) (h4 : ∀ c, S 76 0 c = false ∧ S 77 0 c = false) (hg : gvM J = gvM I) : MAt J h k G m ty dy := by
  obtain ⟨a1, a2, a3, a4, a5, a6⟩ := a
  have e76 : J 76 0 = I 76 0 := f.ri (fun c => (h4 c).1)
  have e77 : J 77 0 = I 77 0 := f.ri (fun c => (h4 c).2)
  exact ⟨(mhd_fr f h1 h3 a1).1, (f 12 0 55 h2).trans a2, hg.trans a3, by rw [e76]; exact a4, by rw [e77]; exact a5, by rw [e76]; exact a6⟩
section MMEM
variable {d h : Nat} {I L : H3} {t : Nat → Nat} {k dy s l f tt : Int} {m ty : Nat → Int}
theorem s63_fr {J : H3} (a : MAt I h k (gvT s l f tt) m ty dy) (F : Fr s63 I J) : MAt J h k (gvT s l f tt) m ty dy := a.fr F rfl rfl (fun _ => ⟨rfl, rfl, rfl⟩) (fun _ => ⟨rfl, rfl⟩) (gvM_cg (F.ri (fun _ => rfl)))
/-- an answer of the head -/
theorem mask (a : MAt I h k (gvT s l f tt) m ty dy) {w : Nat} (hw : w < 8) : ∃ J, Cal (d + 1) 184 [vr 12 0, vi (w : Int)] (mk I L t) = some (vi (ans (mH I h) w (gvT s l f tt dy)), mk J L t) ∧ Fr s63 I J ∧ MAt J h k (gvT s l f tt) m ty dy := by
  obtain ⟨J, c, F⟩ := sp184 (d := d) (w := w) (L := L) (t := t) a.1.1 a.1.2.1 hw a.1.2.2.1 a.1.2.2.2
  rw [a.2.2.1] at c
  exact ⟨J, c, F, s63_fr a F⟩
/-- nothing is held -/
theorem mnone (a : MAt I h k (gvT s l f tt) m ty dy) : ∃ J, Cal d 185 [vr 12 0] (mk I L t) = some (vx, mk J L t) ∧ Fr s75 I J ∧ MAt J h k (gvT s l f tt) m ty dy := by
  have F : Fr s75 I (up3 (up3 (up3 (up3 (up3 I 75 0 1 0) 75 0 2 0) 75 0 3 0) 75 0 8 0) 75 0 9 0) := ((((Fr.rfl'.up rfl).up rfl).up rfl).up rfl).up rfl
  refine ⟨_, P185_0_0, F, a.fr F rfl rfl (fun _ => ⟨rfl, rfl, rfl⟩) (fun _ => ⟨rfl, rfl⟩) ?_⟩
  rw [gvM_N, a.2.2.1]
  unfold gvT
  rw [gN_gvB]
def sMy (r _ _ : Nat) : Bool := r == 63 || r == 75 || r == 76
theorem s63_My {I J : H3} (h : Fr s63 I J) : Fr sMy I J := h.mo (fun r i c k => by
  simp only [sMy, Bool.or_eq_false_iff] at k
  exact k.1.1)
theorem s75_My {I J : H3} (h : Fr s75 I J) : Fr sMy I J := h.mo (fun r i c k => by
  simp only [sMy, Bool.or_eq_false_iff] at k
  exact k.1.2)
theorem mH_fr {S : Nat → Nat → Nat → Bool} {I J : H3} {h : Nat} (F : Fr S I J) (h3 : ∀ c, S 55 0 c = false ∧ S 56 0 c = false ∧ S 57 0 c = false) : mH J h = mH I h := mH_cg (F.ri (fun c => (h3 c).1)) (F.ri (fun c => (h3 c).2.1)) (F.ri (fun c => (h3 c).2.2))
theorem l192 {p : Int} : ∀ (n j : Nat), j + n = 16 → Res (d + 1) 192 8 [vr 12 0, vi p, vi (j : Int)] [] (mk (sr I 76 0 j (pulP p (I 77 0) (I 76 0))) L t) = some (vx, mk (up3 (sr I 76 0 16 (pulP p (I 77 0) (I 76 0))) 75 0 7 (w32 (I 75 0 7 + 1))) L t)
  | 0, j, hj => by
    have h16 : j = 16 := by omega
    subst h16
    refine Eq.trans (P192_8_1 (by omega)) ?_
    rw [sr_r (show (75 : Nat) ≠ 76 by decide)]
  | n + 1, j, hj => by
    refine Eq.trans (P192_8_0 (h1 := by omega) (g1 := by omega)) ?_
    rw [lem_w32k (k := j) (by omega), Int.toNat_natCast, sr_ge (Nat.le_refl j), sr_r (show (77 : Nat) ≠ 76 by decide), w32_comm]
    have e : w32 (I 76 0 j + vIdiv (w32 (p * w32 (I 77 0 j - I 76 0 j))) 100) = pulP p (I 77 0) (I 76 0) j := by
      unfold pulP
      rw [if_pos (by omega)]
    rw [e, sr_s]
    exact l192 n (j + 1) (by omega)
/-- a day -/
theorem mday (a : MAt I h k (gvT s l f tt) m ty dy) (hty : R31 ty) : ∃ J, Cal (d + 2) 192 [vr 12 0] (mk I L t) = some (vx, mk J L t) ∧ Fr sMy I J ∧ MAt J h k (gvT s l f tt) (dayP (ans (mH I h)) (gvT s l f tt) ty (m, dy)).1 ty (dayP (ans (mH I h)) (gvT s l f tt) ty (m, dy)).2 := by
  obtain ⟨J1, c1, F1, a1⟩ := mask (d := d) (L := L) (t := t) (w := 2) a (by decide)
  have hr := l192 (d := d + 1) (I := J1) (L := L) (t := t) (p := ans (mH I h) 2 (gvT s l f tt dy)) 16 0 rfl
  rw [sr_0] at hr
  have F2 : Fr sMy I (up3 (sr J1 76 0 16 (pulP (ans (mH I h) 2 (gvT s l f tt dy)) (J1 77 0) (J1 76 0))) 75 0 7 (w32 (J1 75 0 7 + 1))) := ((s63_My F1).wr (fun _ _ => rfl)).up rfl
  have h2 := ans_in (mH I h) (w := 2) (gvT s l f tt dy) (by decide)
  rw [r2_100.1, r2_100.2.1] at h2
  have e76 : c16 (up3 (sr J1 76 0 16 (pulP (ans (mH I h) 2 (gvT s l f tt dy)) (J1 77 0) (J1 76 0))) 75 0 7 (w32 (J1 75 0 7 + 1)) 76 0) = pulP (ans (mH I h) 2 (gvT s l f tt dy)) ty m := by
    rw [up_r (show (76 : Nat) ≠ 75 by decide), sr_c16, c16_pul, ← a1.2.2.2.1, ← a1.2.2.2.2.1, pul_c]
  have e7 : J1 75 0 7 = dy := by
    have := congrFun a1.2.2.1 6
    exact this
  refine ⟨_, Eq.trans (P192_0_0 (c1 := c1)) hr, F2, (mhd_fr F2 rfl (fun _ => ⟨rfl, rfl, rfl⟩) a.1).1, (F2 12 0 55 rfl).trans a.2.1, ?_, e76, ?_, ?_⟩
  · rw [e7]
    refine gvM_7 (dy := dy) ?_
    have : gvM (sr J1 76 0 16 (pulP (ans (mH I h) 2 (gvT s l f tt dy)) (J1 77 0) (J1 76 0))) = gvM J1 := gvM_cg (by rw [sr_r (show (75 : Nat) ≠ 76 by decide)])
    rw [this]
    exact a1.2.2.1
  · rw [F2.ri (r := 77) (i := 0) (fun _ => rfl)]
    exact a.2.2.2.2.1
  · apply R31.c
    rw [e76]
    exact pul_in h2 hty (by rw [← a.2.2.2.1]; exact a.2.2.2.2.2.d)
theorem l190 {p : Int} {g : Nat} (hg : g < 132) : ∀ (n j : Nat), j + n = 16 → Res d 190 2 [vr 12 0, vi p, vi (g : Int), vi (j : Int)] [] (mk (sr I 76 0 j (pulP p (nM I g) (I 76 0))) L t) = some (vx, mk (sr I 76 0 16 (pulP p (nM I g) (I 76 0))) L t)
  | 0, j, hj => by
    have h16 : j = 16 := by omega
    subst h16
    exact P190_2_1 (by omega)
  | n + 1, j, hj => by
    have ix := ix16 (f := g) (k := j) hg (by omega)
    refine Eq.trans (P190_2_0 (h1 := by omega) (g1 := by omega) (g2 := by rw [ix]; omega)) ?_
    rw [ix, lem_w32k (k := j) (by omega), Int.toNat_natCast, Int.toNat_natCast, sr_ge (Nat.le_refl j), sr_r (show (48 : Nat) ≠ 76 by decide), w32_comm]
    have e : w32 (I 76 0 j + vIdiv (w32 (p * w32 (I 48 0 (16 * g + j) - I 76 0 j))) 100) = pulP p (nM I g) (I 76 0) j := by
      unfold pulP nM
      rw [if_pos (by omega)]
    rw [e, sr_s]
    exact l190 hg n (j + 1) (by omega)
def s76 (r _ _ : Nat) : Bool := r == 76
/-- faces of the model in bounds -/
def fmOk (I : H3) : Prop := ∀ f, f < 120 → R31 (nM I f)
/-- pulled to a face -/
theorem mpull (a : MAt I h k (gvT s l f tt) m ty dy) {p : Int} (hp : 0 ≤ p ∧ p ≤ 100) {g : Nat} (hg : g < 120) (hF : fmOk I) : ∃ J, Cal d 190 [vr 12 0, vi p, vi (g : Int)] (mk I L t) = some (vx, mk J L t) ∧ Fr s76 I J ∧ MAt J h k (gvT s l f tt) (pulP p (nM I g) m) ty dy := by
  have hr := l190 (d := d) (I := I) (L := L) (t := t) (p := p) (g := g) (by omega) 16 0 rfl
  rw [sr_0] at hr
  have F : Fr s76 I (sr I 76 0 16 (pulP p (nM I g) (I 76 0))) := Fr.rfl'.wr (fun _ _ => rfl)
  have e : c16 (sr I 76 0 16 (pulP p (nM I g) (I 76 0)) 76 0) = pulP p (nM I g) m := by
    rw [sr_c16, c16_pul, ← a.2.2.2.1, pul_c2]
  refine ⟨_, Eq.trans P190_0_0 hr, F, (mhd_fr F rfl (fun _ => ⟨rfl, rfl, rfl⟩) a.1).1, (F 12 0 55 rfl).trans a.2.1, (gvM_cg (F.ri (fun _ => rfl))).trans a.2.2.1, e, ?_, ?_⟩
  · rw [F.ri (r := 77) (i := 0) (fun _ => rfl)]
    exact a.2.2.2.2.1
  · apply R31.c
    rw [e]
    exact pul_in hp (hF g hg) (by rw [← a.2.2.2.1]; exact a.2.2.2.2.2.d)
theorem nM_fr {S : Nat → Nat → Nat → Bool} {I J : H3} (F : Fr S I J) (h : ∀ c, S 48 0 c = false) : nM J = nM I := by
  unfold nM
  rw [F.ri h]
theorem mrv_fr {S : Nat → Nat → Nat → Bool} {I J : H3} (F : Fr S I J) (h1 : S 12 0 12 = false) (h : ∀ c, S 54 0 c = false) : mrv J = mrv I := by
  unfold mrv
  rw [F 12 0 12 h1, F.ri h]
theorem lnOk_fr {S : Nat → Nat → Nat → Bool} {I J : H3} (F : Fr S I J) (h1 : S 12 0 12 = false) (h : ∀ c, S 54 0 c = false) (k : lnOk I) : lnOk J := by
  unfold lnOk
  rw [mrv_fr F h1 h, F 12 0 12 h1]
  exact k
theorem l204 {I0 : H3} {p pick : Int} (hp : 0 ≤ p ∧ p ≤ 100) (hF : fmOk I0) (hl : lnOk I0) (hpk : pick = -1 ∨ mrv I0 pick ≠ -1) : ∀ (n j : Nat) (I : H3) (m : Nat → Int), (j : Int) + n = I0 12 0 12 → Fr s76 I0 I → MAt I h k (gvT s l f tt) m ty dy →
    ∃ J, Res (d + 1) 204 12 [vr 12 0, vi pick, vi p, vi (j : Int)] [] (mk I L t) = some (vx, mk J L t) ∧ Fr s76 I0 J ∧ MAt J h k (gvT s l f tt) (let m1 := fo (shwS (nM I0) (mrv I0) (vIdiv p 2)) j n m; if mrv I0 pick = -1 then m1 else pulP p (nM I0 (mrv I0 pick).toNat) m1) ty dy
  | 0, j, I, m, hj, F, a => by
    have e12 : I 12 0 12 = I0 12 0 12 := F 12 0 12 rfl
    have e54 : I 54 0 = I0 54 0 := F.ri (fun _ => rfl)
    rw [fo_0]
    rcases hpk with q | q
    · have e : mrv I0 pick = -1 := by
        rw [q]
        unfold mrv
        exact rvP_neg (by omega)
      refine ⟨I, P204_12_3 (h1 := by rw [e12]; omega) (h2 := q), F, ?_⟩
      show MAt I h k (gvT s l f tt) (if mrv I0 pick = -1 then m else _) ty dy
      rw [if_pos e]
      exact a
    · have hin : 0 ≤ pick ∧ pick < I0 12 0 12 := by
        by_cases c : 0 ≤ pick ∧ pick < I0 12 0 12
        · exact c
        · exact absurd (rvP_neg c) q
      have ev : mrv I0 pick = I0 54 0 pick.toNat := rvP_pos hin
      have hb := (hl.2 pick).resolve_left q
      have hl9 := hl.1
      obtain ⟨J, c, FJ, aJ⟩ := mpull (d := d) (L := L) (t := t) (p := p) (g := (mrv I0 pick).toNat) a hp (by omega) (by unfold fmOk; rw [nM_fr F (fun _ => rfl)]; exact hF)
      have ec : (((mrv I0 pick).toNat : Nat) : Int) = I 54 0 pick.toNat := by rw [e54, ← ev]; omega
      rw [ec] at c
      refine ⟨J, P204_12_2 (h1 := by rw [e12]; omega) (h2 := fun q2 => q (by rw [q2]; exact rvP_neg (by omega))) (g1 := by omega) (c1 := c), F.tr FJ, ?_⟩
      show MAt J h k (gvT s l f tt) (if mrv I0 pick = -1 then m else pulP p (nM I0 (mrv I0 pick).toNat) m) ty dy
      rw [if_neg q, ← nM_fr F (fun _ => rfl)]
      exact aJ
  | n + 1, j, I, m, hj, F, a => by
    have e12 : I 12 0 12 = I0 12 0 12 := F 12 0 12 rfl
    have e54 : I 54 0 = I0 54 0 := F.ri (fun _ => rfl)
    have hl9 := hl.1
    have ev : mrv I0 (j : Int) = I0 54 0 j := mrv_at (by omega)
    rw [fo_s]
    by_cases h1 : I0 54 0 j = -1
    · have es : shwS (nM I0) (mrv I0) (vIdiv p 2) j m = m := if_pos (by rw [ev]; exact h1)
      rw [es]
      obtain ⟨J, hr, hJ⟩ := l204 hp hF hl hpk n (j + 1) I m (by omega) F a
      refine ⟨J, Eq.trans (P204_12_1 (h1 := by rw [e12]; omega) (g1 := by omega) (h2 := by rw [Int.toNat_natCast, e54]; exact h1)) ?_, hJ⟩
      rw [lem_w32k (by omega)]
      exact hr
    · have hb := (hl.2 (j : Int)).resolve_left (by rw [ev]; exact h1)
      rw [ev] at hb
      obtain ⟨J1, c, FJ, aJ⟩ := mpull (d := d) (L := L) (t := t) (p := vIdiv p 2) (g := (I0 54 0 j).toNat) a (half_in hp) (by omega) (by unfold fmOk; rw [nM_fr F (fun _ => rfl)]; exact hF)
      have ec : (((I0 54 0 j).toNat : Nat) : Int) = I 54 0 ((j : Int).toNat) := by rw [Int.toNat_natCast, e54]; omega
      rw [ec] at c
      rw [nM_fr F (fun _ => rfl)] at aJ
      have es : shwS (nM I0) (mrv I0) (vIdiv p 2) j m = pulP (vIdiv p 2) (nM I0 (I0 54 0 j).toNat) m := by
        unfold shwS
        rw [ev, if_neg h1]
      rw [es]
      obtain ⟨J, hr, hJ⟩ := l204 hp hF hl hpk n (j + 1) J1 _ (by omega) (F.tr FJ) aJ
      refine ⟨J, Eq.trans (P204_12_0 (h1 := by rw [e12]; omega) (g1 := by omega) (h2 := by rw [Int.toNat_natCast, e54]; exact h1) (c1 := c)) ?_, hJ⟩
      rw [lem_w32k (by omega)]
      exact hr
/-- shown a line -/
theorem mpulls (a : MAt I h k (gvT s l f tt) m ty dy) {pick : Int} (hF : fmOk I) (hl : lnOk I) (hpk : pick = -1 ∨ mrv I pick ≠ -1) : ∃ J, Cal (d + 2) 204 [vr 12 0, vi pick] (mk I L t) = some (vx, mk J L t) ∧ Fr sMy I J ∧ MAt J h k (gvT s l f tt) (shwP (nM I) (mrv I) (ans (mH I h) 3 (gvT s l f tt dy)) pick m) ty dy := by
  obtain ⟨J1, c1, F1, a1⟩ := mnone (d := d + 1) (L := L) (t := t) a
  obtain ⟨J2, c2, F2, a2⟩ := mask (d := d) (L := L) (t := t) (w := 3) a1 (by decide)
  rw [mH_fr F1 (fun _ => ⟨rfl, rfl, rfl⟩)] at c2
  have F : Fr sMy I J2 := (s75_My F1).tr (s63_My F2)
  have h3 := ans_in (mH I h) (w := 3) (gvT s l f tt dy) (by decide)
  rw [r2_100.2.2.1, r2_100.2.2.2.1] at h3
  have er := mrv_fr F rfl (fun _ => rfl)
  have en := nM_fr F (fun _ => rfl)
  have hl9 := hl.1
  obtain ⟨J3, hr, F3, a3⟩ := l204 (d := d + 1) (L := L) (t := t) (I0 := J2) (p := ans (mH I h) 3 (gvT s l f tt dy)) (pick := pick) h3 (by unfold fmOk; rw [en]; exact hF) (lnOk_fr F rfl (fun _ => rfl) hl) (by rw [er]; exact hpk) (I 12 0 12).toNat 0 J2 m (by rw [F 12 0 12 rfl]; omega) Fr.rfl' a2
  refine ⟨J3, Eq.trans (P204_0_0 (c1 := c1) (c2 := c2)) hr, F.tr (F3.mo (fun r i c q => by
    simp only [sMy, Bool.or_eq_false_iff] at q
    exact q.2)), ?_⟩
  rw [er, en] at a3
  have e : fo (shwS (nM I) (mrv I) (vIdiv (ans (mH I h) 3 (gvT s l f tt dy)) 2)) 0 (I 12 0 12).toNat m = fo (shwS (nM I) (mrv I) (vIdiv (ans (mH I h) 3 (gvT s l f tt dy)) 2)) 0 9 m := by
    obtain ⟨q, hq⟩ : ∃ q, 9 = (I 12 0 12).toNat + q := ⟨9 - (I 12 0 12).toNat, by omega⟩
    rw [hq, fo_add]
    symm
    exact fo_id q _ _ (fun j b h1 h2 => if_pos (mrv_ge (by omega)))
  rw [e] at a3
  exact a3
end MMEM
