/-! the model: far, odds, sure -/
def gN (g : Nat → Int) : Nat → Int := fun j => if j = 0 ∨ j = 1 ∨ j = 2 ∨ j = 7 ∨ j = 8 then 0 else g j
theorem gN_gvB (s l f dy t : Int) : gN (gvB s l f dy t) = gvB s l f dy t := by
  funext j
  match j with
  | 0 => rfl
  | 1 => rfl
  | 2 => rfl
  | 3 => rfl
  | 4 => rfl
  | 5 => rfl
  | 6 => rfl
  | 7 => rfl
  | 8 => rfl
  | 9 => rfl
  | n + 10 => rfl
theorem gN_Th (g : Nat → Int) (a b c : Int) : gN (gTh g a b c) = gN g := by
  funext j
  match j with
  | 0 => rfl
  | 1 => rfl
  | 2 => rfl
  | 3 => rfl
  | 4 => rfl
  | 5 => rfl
  | 6 => rfl
  | 7 => rfl
  | 8 => rfl
  | 9 => rfl
  | n + 10 => rfl
theorem gN_Fi (g : Nat → Int) (a b : Int) : gN (gFi g a b) = gN g := by
  funext j
  match j with
  | 0 => rfl
  | 1 => rfl
  | 2 => rfl
  | 3 => rfl
  | 4 => rfl
  | 5 => rfl
  | 6 => rfl
  | 7 => rfl
  | 8 => rfl
  | 9 => rfl
  | n + 10 => rfl
theorem gN_N (g : Nat → Int) : gN (gN g) = gN g := by
  funext j
  unfold gN
  split <;> rfl
theorem gvM_N {I : H3} : gvM (up3 (up3 (up3 (up3 (up3 I 75 0 1 0) 75 0 2 0) 75 0 3 0) 75 0 8 0) 75 0 9 0) = gN (gvM I) := by
  funext j
  match j with
  | 0 => rfl
  | 1 => rfl
  | 2 => rfl
  | 3 => rfl
  | 4 => rfl
  | 5 => rfl
  | 6 => rfl
  | 7 => rfl
  | 8 => rfl
  | 9 => rfl
  | n + 10 => rfl
theorem gvM_2 {I : H3} {a b : Int} : gvM (up3 (up3 I 75 0 9 b) 75 0 8 a) = gFi (gvM I) a b := by
  funext j
  match j with
  | 0 => rfl
  | 1 => rfl
  | 2 => rfl
  | 3 => rfl
  | 4 => rfl
  | 5 => rfl
  | 6 => rfl
  | 7 => rfl
  | 8 => rfl
  | 9 => rfl
  | n + 10 => rfl
theorem gvM_3 {I J : H3} {a b v : Int} (v1 : J 75 0 1 = a) (v2 : J 75 0 2 = b) (q : ∀ c, c ≠ 1 → c ≠ 2 → J 75 0 c = I 75 0 c) : gvM (up3 J 75 0 3 v) = gTh (gvM I) a b v := by
  funext j
  match j with
  | 0 => exact v1
  | 1 => exact v2
  | 2 => rfl
  | 3 => exact q 4 (by decide) (by decide)
  | 4 => exact q 5 (by decide) (by decide)
  | 5 => exact q 6 (by decide) (by decide)
  | 6 => exact q 7 (by decide) (by decide)
  | 7 => exact q 8 (by decide) (by decide)
  | 8 => exact q 9 (by decide) (by decide)
  | 9 => exact q 10 (by decide) (by decide)
  | n + 10 => rfl
theorem ix16 {f k : Nat} (hf : f < 132) (hk : k < 16) : w32 (w32 (16 * (f : Int)) + (k : Int)) = ((16 * f + k : Nat) : Int) := by
  rw [w32_s (x := 16 * (f : Int)) (by omega), w32_s (by omega)]
  omega
/-- the numbers of a face of the model -/
def nM (I : H3) (f : Nat) : Nat → Int := fun j => I 48 0 (16 * f + j)
def s75 (r _ _ : Nat) : Bool := r == 75
def sH (r _ c : Nat) : Bool := r == 75 && (c == 1 || c == 2)
def sF (r _ _ : Nat) : Bool := r == 63 || r == 75
section HOLD
variable {d f : Nat} {L : H3} {t : Nat → Nat} {I0 : H3}
theorem l187a (hf : f < 132) : ∀ (n k : Nat) (I : H3), k + n = 12 → Fr sH I0 I →
    ∃ J, Res (d + 1) 187 6 [vr 12 0, vi (f : Int), vi (k : Int)] [] (mk I L t) = Res (d + 1) 187 6 [vr 12 0, vi (f : Int), vi ((12 : Nat) : Int)] [] (mk J L t) ∧ Fr sH I0 J ∧ J 75 0 1 = difP (nM I0 f) (I0 76 0) k n (I 75 0 1) ∧ J 75 0 2 = I 75 0 2
  | 0, k, I, hk, hF => by
    have hk' : k = 12 := by omega
    subst hk'
    exact ⟨I, rfl, hF, rfl, rfl⟩
  | n + 1, k, I, hk, hF => by
    have e48 : I 48 0 = I0 48 0 := hF.ri (fun _ => rfl)
    have e76 : I 76 0 = I0 76 0 := hF.ri (fun _ => rfl)
    have ix := ix16 (f := f) (k := k) hf (by omega)
    obtain ⟨J, hr, hJ, h1, h2⟩ := l187a hf n (k + 1) (up3 I 75 0 1 (w32 (I 75 0 1 + aptP (nM I0 f k) (I0 76 0 k)))) (by omega) (hF.up rfl)
    refine ⟨J, Eq.trans (P187_6_0 (h1 := by omega) (h2 := by omega) (g1 := by rw [ix]; omega) (g2 := by omega)) ?_, hJ, ?_, h2⟩
    · rw [ix, lem_w32k (k := k) (by omega), Int.toNat_natCast, e48, Int.toNat_natCast, e76]
      exact hr
    · rw [h1, up_e]
      rfl
theorem l187b (hf : f < 132) : ∀ (n k : Nat) (I : H3), k + n = 16 → 12 ≤ k → Fr sH I0 I →
    ∃ J, Res (d + 1) 187 6 [vr 12 0, vi (f : Int), vi (k : Int)] [] (mk I L t) = Res (d + 1) 187 6 [vr 12 0, vi (f : Int), vi ((16 : Nat) : Int)] [] (mk J L t) ∧ Fr sH I0 J ∧ J 75 0 2 = difP (nM I0 f) (I0 76 0) k n (I 75 0 2) ∧ J 75 0 1 = I 75 0 1
  | 0, k, I, hk, h12, hF => by
    have hk' : k = 16 := by omega
    subst hk'
    exact ⟨I, rfl, hF, rfl, rfl⟩
  | n + 1, k, I, hk, h12, hF => by
    have e48 : I 48 0 = I0 48 0 := hF.ri (fun _ => rfl)
    have e76 : I 76 0 = I0 76 0 := hF.ri (fun _ => rfl)
    have ix := ix16 (f := f) (k := k) hf (by omega)
    obtain ⟨J, hr, hJ, h1, h2⟩ := l187b hf n (k + 1) (up3 I 75 0 2 (w32 (I 75 0 2 + aptP (nM I0 f k) (I0 76 0 k)))) (by omega) (by omega) (hF.up rfl)
    refine ⟨J, Eq.trans (P187_6_1 (h1 := by omega) (h2 := by omega) (g1 := by rw [ix]; omega) (g2 := by omega)) ?_, hJ, ?_, h2⟩
    · rw [ix, lem_w32k (k := k) (by omega), Int.toNat_natCast, e48, Int.toNat_natCast, e76]
      exact hr
    · rw [h1, up_e]
      rfl
theorem sH_75 {I J : H3} (h : Fr sH I J) : Fr s75 I J := h.mo (fun r i c k => by
  unfold s75 at k
  unfold sH
  rw [k]
  rfl)
theorem sp187 {I : H3} (hf : f < 132) : ∃ J, Cal (d + 1) 187 [vr 12 0, vi (f : Int)] (mk I L t) = some (vx, mk J L t) ∧ Fr s75 I J ∧ gvM J = gTh (gN (gvM I)) (difP (nM I f) (I 76 0) 0 12 0) (difP (nM I f) (I 76 0) 12 4 0) (if I 49 0 f = I 12 0 55 then 1 else 0) := by
  have c1 : Cal d 185 [vr 12 0] (mk I L t) = some (vx, _) := P185_0_0
  have F0 : Fr s75 I (up3 (up3 (up3 (up3 (up3 I 75 0 1 0) 75 0 2 0) 75 0 3 0) 75 0 8 0) 75 0 9 0) := ((((Fr.rfl'.up rfl).up rfl).up rfl).up rfl).up rfl
  obtain ⟨J1, h1, F1, a1, a2⟩ := l187a (d := d) (L := L) (t := t) (I0 := up3 (up3 (up3 (up3 (up3 I 75 0 1 0) 75 0 2 0) 75 0 3 0) 75 0 8 0) 75 0 9 0) hf 12 0 _ rfl Fr.rfl'
  obtain ⟨J2, h2, F2, b2, b1⟩ := l187b (d := d) (L := L) (t := t) (I0 := up3 (up3 (up3 (up3 (up3 I 75 0 1 0) 75 0 2 0) 75 0 3 0) 75 0 8 0) 75 0 9 0) hf 4 12 J1 rfl (by decide) F1
  have F2' : Fr s75 I J2 := F0.tr (sH_75 F2)
  have v1 : J2 75 0 1 = difP (nM I f) (I 76 0) 0 12 0 := by rw [b1, a1]; rfl
  have v2 : J2 75 0 2 = difP (nM I f) (I 76 0) 12 4 0 := by rw [b2, a2]; rfl
  have fin : ∀ v, gvM (up3 J2 75 0 3 v) = gTh (gN (gvM I)) (difP (nM I f) (I 76 0) 0 12 0) (difP (nM I f) (I 76 0) 12 4 0) v := by
    intro v
    rw [← gvM_N]
    exact gvM_3 v1 v2 (fun c h1 h2 => F2 75 0 c (by simp [sH, h1, h2]))
  have e49 : J2 49 0 f = I 49 0 f := F2' 49 0 f rfl
  have e55 : J2 12 0 55 = I 12 0 55 := F2' 12 0 55 rfl
  by_cases h : I 49 0 f = I 12 0 55
  · refine ⟨_, Eq.trans (P187_0_0 (c1 := c1)) (Eq.trans h1 (Eq.trans h2 (P187_6_2 (h1 := by decide) (g1 := by omega) (h2 := by rw [Int.toNat_natCast, e49, e55]; exact h)))), F2'.up rfl, ?_⟩
    rw [if_pos h]
    exact fin 1
  · refine ⟨_, Eq.trans (P187_0_0 (c1 := c1)) (Eq.trans h1 (Eq.trans h2 (P187_6_3 (h1 := by decide) (g1 := by omega) (h2 := by rw [Int.toNat_natCast, e49, e55]; exact h)))), F2'.up rfl, ?_⟩
    rw [if_neg h]
    exact fin 0
theorem s75_F {I J : H3} (h : Fr s75 I J) : Fr sF I J := h.mo (fun r i c k => by
  simp only [sF, Bool.or_eq_false_iff] at k
  exact k.2)
theorem s63_F {I J : H3} (h : Fr s63 I J) : Fr sF I J := h.mo (fun r i c k => by
  simp only [sF, Bool.or_eq_false_iff] at k
  exact k.1)
theorem mH_cg {I J : H3} {h : Nat} (e5 : J 55 0 = I 55 0) (e6 : J 56 0 = I 56 0) (e7 : J 57 0 = I 57 0) : mH J h = mH I h := by
  unfold mH mS1 mS2
  rw [e5, e6, e7]
theorem mhOk_cg {I J : H3} {h : Nat} (e6 : J 56 0 = I 56 0) (e7 : J 57 0 = I 57 0) (k : mhOk I h) : mhOk J h := by
  unfold mhOk
  rw [e6, e7]
  exact k
theorem gvM_cg {I J : H3} (e : J 75 0 = I 75 0) : gvM J = gvM I := by
  unfold gvM
  rw [e]
/-- the model's head now -/
def mhd (I : H3) (h : Nat) : Prop := h < 4 ∧ I 12 0 54 = (h : Int) ∧ mhOk I h ∧ okH (mH I h)
theorem mhd_fr {S : Nat → Nat → Nat → Bool} {I J : H3} {h : Nat} (k : Fr S I J) (h1 : S 12 0 54 = false) (h2 : ∀ c, S 55 0 c = false ∧ S 56 0 c = false ∧ S 57 0 c = false) (m : mhd I h) : mhd J h ∧ mH J h = mH I h := by
  have e5 : J 55 0 = I 55 0 := k.ri (fun c => (h2 c).1)
  have e6 : J 56 0 = I 56 0 := k.ri (fun c => (h2 c).2.1)
  have e7 : J 57 0 = I 57 0 := k.ri (fun c => (h2 c).2.2)
  have eh := mH_cg (h := h) e5 e6 e7
  refine ⟨⟨m.1, (k 12 0 54 h1).trans m.2.1, mhOk_cg e6 e7 m.2.2.1, ?_⟩, eh⟩
  rw [eh]
  exact m.2.2.2
theorem sp188 {I : H3} {h : Nat} (hf : f < 132) (hm : mhd I h) : ∃ J, Cal (d + 2) 188 [vr 12 0, vi (f : Int)] (mk I L t) = some (vi (farP (ans (mH I h)) (gN (gvM I)) (I 12 0 55) (I 76 0) (nM I f) (I 49 0 f)), mk J L t) ∧ Fr sF I J ∧ gvM J = gN (gvM I) := by
  obtain ⟨J1, c1, F1, g1⟩ := sp187 (d := d) (L := L) (t := t) (I := I) hf
  obtain ⟨m1, e1⟩ := mhd_fr F1 rfl (fun _ => ⟨rfl, rfl, rfl⟩) hm
  obtain ⟨J2, c2, F2⟩ := sp184 (d := d) (w := 0) (L := L) (t := t) m1.1 m1.2.1 (by decide) m1.2.2.1 m1.2.2.2
  rw [e1, g1] at c2
  have e2 : gvM J2 = gvM J1 := gvM_cg (F2.ri (fun _ => rfl))
  refine ⟨_, P188_0_0 (c1 := c1) (c2 := c2) (c3 := P185_0_0), ((((((s75_F F1).tr (s63_F F2)).up rfl).up rfl).up rfl).up rfl).up rfl, ?_⟩
  rw [gvM_N, e2, g1, gN_Th, gN_N]
end HOLD
/-- what a look at odds may write, in the model -/
def sMx (r _ _ : Nat) : Bool := r == 63 || r == 75 || r == 78 || r == 79
theorem sF_Mx {I J : H3} (h : Fr sF I J) : Fr sMx I J := h.mo (fun r i c k => by
  simp only [sMx, Bool.or_eq_false_iff] at k
  simp only [sF, Bool.or_eq_false_iff]
  exact k.1.1)
/-- in any heap like I0 the distances are fa's -/
def MFar (d : Nat) (fa : Int → Int) (I0 : H3) (G : Nat → Int) (t : Nat → Nat) : Prop := ∀ (I L : H3), Fr sMx I0 I → gvM I = G → ∀ f : Int, 0 ≤ f ∧ f < 120 → ∃ J, Cal d 188 [vr 12 0, vi f] (mk I L t) = some (vi (fa f), mk J L t) ∧ Fr sF I J ∧ gvM J = G
def fM (I : H3) (h : Nat) (G : Nat → Int) : Int → Int := faP (ans (mH I h)) G (I 12 0 55) (I 76 0) (nM I) (I 49 0)
theorem mfar_ok {d h : Nat} {I0 : H3} {G : Nat → Int} {t : Nat → Nat} (hm : mhd I0 h) (hG : gN G = G) : MFar (d + 2) (fM I0 h G) I0 G t := by
  intro I L k hg f hf
  obtain ⟨m1, e1⟩ := mhd_fr k rfl (fun _ => ⟨rfl, rfl, rfl⟩) hm
  obtain ⟨J, c, F, g⟩ := sp188 (d := d) (f := f.toNat) (L := L) (t := t) (by omega) m1
  have ef : ((f.toNat : Nat) : Int) = f := by omega
  rw [ef, hg, hG, e1] at c
  rw [hg, hG] at g
  refine ⟨J, c.trans ?_, F, g⟩
  unfold fM faP nM
  rw [if_pos hf, k 12 0 55 rfl, k.ri (r := 76) (i := 0) (fun _ => rfl), k.ri (r := 48) (i := 0) (fun _ => rfl), k 49 0 f.toNat rfl]
/-- the line of the model -/
def mrv (I : H3) : Int → Int := rvP (I 12 0 12) (I 54 0)
def lnOk (I : H3) : Prop := (0 ≤ I 12 0 12 ∧ I 12 0 12 ≤ 9) ∧ rvB (mrv I)
theorem mrv_at {I : H3} {k : Nat} (h : (k : Int) < I 12 0 12) : mrv I (k : Int) = I 54 0 k := by
  unfold mrv
  rw [rvP_pos (by omega)]
  rfl
theorem mrv_ge {I : H3} {k : Nat} (h : I 12 0 12 ≤ (k : Int)) : mrv I (k : Int) = -1 := by
  unfold mrv
  exact rvP_neg (by omega)
theorem part_in {w : Nat → Int} {nob : Int} (h : wOk w nob) : ∀ k, k ≤ 9 → nob ≤ fo (fun k a => w32 (a + w k)) 0 k nob ∧ fo (fun k a => w32 (a + w k)) 0 k nob ≤ nob + 20000 * (k : Int)
  | 0, _ => by
    rw [fo_0]
    omega
  | k + 1, hk => by
    have ih := part_in h k (by omega)
    have hw := h.1 k (by omega)
    have hn := h.2
    rw [fo_e, Nat.zero_add, w32_s (by omega)]
    omega
section MODDS
variable {d : Nat} {L : H3} {t : Nat → Nat} {I0 : H3} {G : Nat → Int} {fa : Int → Int} {led push limit nob kind : Int} {each : Bool}
theorem l193a (hfa : MFar d fa I0 G t) (hl : lnOk I0) (hok : wOk (wtP fa (mrv I0) limit led push) nob) : ∀ (n k : Nat) (I : H3) (u9 : MV), Fr sMx I0 I → gvM I = G → (k : Int) + n = I0 12 0 12 → (∀ j, j < k → I 79 0 j = wtP fa (mrv I0) limit led push j) →
    ∃ J, Res (d + 1) 193 26 [vr 12 0, vi kind, vi led, vi push, vi limit, vi nob, vl (fo (fun k a => w32 (a + wtP fa (mrv I0) limit led push k)) 0 k nob), vx, vi (k : Int), u9, vx] [] (mk I L t) =
        Res (d + 1) 193 134 [vr 12 0, vi kind, vi led, vi push, vi limit, vi nob, vl (fo (fun k a => w32 (a + wtP fa (mrv I0) limit led push k)) 0 (k + n) nob), vx, vl 1000000, vx, vi 0] [] (mk J L t) ∧ Fr sMx I0 J ∧ gvM J = G ∧ ∀ j, j < k + n → J 79 0 j = wtP fa (mrv I0) limit led push j
  | 0, k, I, u9, hF, hg, hk, hj => ⟨I, P193_26_7 (by rw [hF 12 0 12 rfl]; omega), hF, hg, hj⟩
  | n + 1, k, I, u9, hF, hg, hk, hj => by
    have e12 : I 12 0 12 = I0 12 0 12 := hF 12 0 12 rfl
    have e54 : I 54 0 = I0 54 0 := hF.ri (fun _ => rfl)
    have hl9 := hl.1
    have hlt : (k : Int) < I0 12 0 12 := by omega
    have ev : mrv I0 (k : Int) = I0 54 0 k := mrv_at hlt
    have hwk := hok.1 k (by omega)
    have hp := part_in hok k (by omega)
    have hn := hok.2
    have go : ∀ (J1 : H3) (v : Int), Fr sMx I0 J1 → gvM J1 = G → (∀ j, j < k → J1 79 0 j = wtP fa (mrv I0) limit led push j) → wtP fa (mrv I0) limit led push k = v → ∀ u9',
        ∃ J, Res (d + 1) 193 26 [vr 12 0, vi kind, vi led, vi push, vi limit, vi nob, vl (w64 (fo (fun k a => w32 (a + wtP fa (mrv I0) limit led push k)) 0 k nob + up3 J1 79 0 k v 79 0 k)), vx, vi (w32 ((k : Int) + 1)), u9', vx] [] (mk (up3 J1 79 0 k v) L t) =
          Res (d + 1) 193 134 [vr 12 0, vi kind, vi led, vi push, vi limit, vi nob, vl (fo (fun k a => w32 (a + wtP fa (mrv I0) limit led push k)) 0 (k + (n + 1)) nob), vx, vl 1000000, vx, vi 0] [] (mk J L t) ∧ Fr sMx I0 J ∧ gvM J = G ∧ ∀ j, j < k + (n + 1) → J 79 0 j = wtP fa (mrv I0) limit led push j := by
      intro J1 v F1 g1 hj1 hv u9'
      rw [up_e, ← hv]
      have e : w64 (fo (fun k a => w32 (a + wtP fa (mrv I0) limit led push k)) 0 k nob + wtP fa (mrv I0) limit led push k) = fo (fun k a => w32 (a + wtP fa (mrv I0) limit led push k)) 0 (k + 1) nob := by
        rw [fo_e, Nat.zero_add, w32_s (by omega), w64_id (by omega) (by omega)]
      rw [e, lem_w32k (by omega), show k + (n + 1) = k + 1 + n by omega]
      refine l193a hfa hl hok n (k + 1) _ u9' (F1.up rfl) ((gvM_cg (show up3 J1 79 0 k v 75 0 = J1 75 0 by rw [up_r (show (75 : Nat) ≠ 79 by decide)])).trans g1) (by omega) (fun j h1 => ?_)
      by_cases hjk : j = k
      · subst hjk
        rw [up_e]
      · rw [up_s hjk]
        exact hj1 j (by omega)
    by_cases h1 : I0 54 0 k = -1
    · have ew : wtP fa (mrv I0) limit led push k = w32 (0 + 0) := by
        unfold wtP
        rw [ev, if_pos h1]
        decide +kernel
      obtain ⟨J, hr, hJ⟩ := go I _ hF hg hj ew (vi 0)
      exact ⟨J, Eq.trans (P193_26_0 (h1 := by rw [e12]; exact hlt) (g1 := by omega) (h2 := by rw [Int.toNat_natCast, e54]; exact h1)) hr, hJ⟩
    · have hrng : 0 ≤ I0 54 0 k ∧ I0 54 0 k < 120 := by
        have := (hl.2 (k : Int)).resolve_left (by rw [ev]; exact h1)
        rw [ev] at this
        exact this
      obtain ⟨J1, c1, F1, g1⟩ := hfa I L hF hg (I0 54 0 k) hrng
      have hj1 : ∀ j, j < k → J1 79 0 j = wtP fa (mrv I0) limit led push j := fun j q => (F1 79 0 j rfl).trans (hj j q)
      have e54' : J1 54 0 k = I0 54 0 k := (F1 54 0 k rfl).trans (congrFun e54 k)
      have FJ : Fr sMx I0 J1 := hF.tr (sF_Mx F1)
      by_cases h3 : w32 (limit - fa (I0 54 0 k)) < 0
      · have em : (if 0 < w32 (limit - fa (I0 54 0 k)) then w32 (limit - fa (I0 54 0 k)) else 0) = 0 := if_neg (by omega)
        by_cases h5 : (k : Int) = led
        · have ew : wtP fa (mrv I0) limit led push k = w32 (0 + push) := by
            unfold wtP
            rw [ev, if_neg h1, if_pos h5, em]
          obtain ⟨J, hr, hJ⟩ := go J1 _ FJ g1 hj1 ew (vi (w32 (limit - fa (I0 54 0 k))))
          exact ⟨J, Eq.trans (P193_26_1 (h1 := by rw [e12]; exact hlt) (g1 := by omega) (h2 := by rw [Int.toNat_natCast, e54]; exact h1) (c1 := by rw [Int.toNat_natCast, e54]; exact c1) (h3 := h3) (h4 := by rw [Int.toNat_natCast, e54']; exact h1) (h5 := h5)) hr, hJ⟩
        · have ew : wtP fa (mrv I0) limit led push k = w32 (0 + 0) := by
            unfold wtP
            rw [ev, if_neg h1, if_neg h5, em]
            decide +kernel
          obtain ⟨J, hr, hJ⟩ := go J1 _ FJ g1 hj1 ew (vi (w32 (limit - fa (I0 54 0 k))))
          exact ⟨J, Eq.trans (P193_26_2 (h1 := by rw [e12]; exact hlt) (g1 := by omega) (h2 := by rw [Int.toNat_natCast, e54]; exact h1) (c1 := by rw [Int.toNat_natCast, e54]; exact c1) (h3 := h3) (h4 := by rw [Int.toNat_natCast, e54']; exact h1) (h5 := h5)) hr, hJ⟩
      · have em : (if 0 < w32 (limit - fa (I0 54 0 k)) then w32 (limit - fa (I0 54 0 k)) else 0) = w32 (limit - fa (I0 54 0 k)) := by
          split <;> omega
        by_cases h5 : (k : Int) = led
        · have ew : wtP fa (mrv I0) limit led push k = w32 (w32 (limit - fa (I0 54 0 k)) + push) := by
            unfold wtP
            rw [ev, if_neg h1, if_pos h5, em]
          obtain ⟨J, hr, hJ⟩ := go J1 _ FJ g1 hj1 ew (vi (w32 (limit - fa (I0 54 0 k))))
          exact ⟨J, Eq.trans (P193_26_4 (h1 := by rw [e12]; exact hlt) (g1 := by omega) (h2 := by rw [Int.toNat_natCast, e54]; exact h1) (c1 := by rw [Int.toNat_natCast, e54]; exact c1) (h3 := by omega) (h4 := by rw [Int.toNat_natCast, e54']; exact h1) (h5 := h5)) hr, hJ⟩
        · have ew : wtP fa (mrv I0) limit led push k = w32 (w32 (limit - fa (I0 54 0 k)) + 0) := by
            unfold wtP
            rw [ev, if_neg h1, if_neg h5, em, Int.add_zero, w32_w]
          obtain ⟨J, hr, hJ⟩ := go J1 _ FJ g1 hj1 ew (vi (w32 (limit - fa (I0 54 0 k))))
          exact ⟨J, Eq.trans (P193_26_5 (h1 := by rw [e12]; exact hlt) (g1 := by omega) (h2 := by rw [Int.toNat_natCast, e54]; exact h1) (c1 := by rw [Int.toNat_natCast, e54]; exact c1) (h3 := by omega) (h4 := by rw [Int.toNat_natCast, e54']; exact h1) (h5 := h5)) hr, hJ⟩
theorem od1_0 {each : Bool} {all nob l : Int} : od1 each all nob l 0 = 0 := by
  unfold od1
  cases each <;> simp
def s78 (r _ _ : Nat) : Bool := r == 78
theorem l193b {w : Nat → Int} (h : wOk w nob) (hk0 : kind = 0 ↔ each = false) {sz : Nat} (h9 : sz ≤ 9) (e12 : I0 12 0 12 = (sz : Int)) (hw : ∀ j, j < sz → I0 79 0 j = w j) (hz : ∀ j, sz ≤ j → j < 9 → w j = 0) : ∀ (n k : Nat) (I : H3), k + n = 9 → Fr s78 I0 I → (∀ j, j < k → I 78 0 j = odP each (allP w nob) nob w j) →
    ∃ J, Res (d + 1) 193 134 [vr 12 0, vi kind, vi led, vi push, vi limit, vi nob, vl (allP w nob), vx, vl (lftP each (allP w nob) nob w k), vx, vi (k : Int)] [] (mk I L t) = some (vx, mk J L t) ∧ Fr s78 I0 J ∧ ∀ j, j < 10 → J 78 0 j = odP each (allP w nob) nob w j
  | 0, k, I, hk, hF, hj => by
    have hk9 : k = 9 := by omega
    subst hk9
    have lb := lft_b (each := each) h (show 9 ≤ 9 by omega)
    refine ⟨_, P193_134_3 (by omega), hF.up rfl, fun j h1 => ?_⟩
    by_cases hj9 : j = 9
    · subst hj9
      rw [up_e, w32_s (by omega)]
      rfl
    · rw [up_s hj9]
      exact hj j (by omega)
  | n + 1, k, I, hk, hF, hj => by
    have f12 : I 12 0 12 = (sz : Int) := (hF 12 0 12 rfl).trans e12
    have hwk := h.1 k (by omega)
    have hn := h.2
    have ha := all_in h
    have lb := lft_b (each := each) h (show k ≤ 9 by omega)
    have lb1 := lft_b (each := each) h (show k + 1 ≤ 9 by omega)
    by_cases hks : sz ≤ k
    · have w0 := hz k hks (by omega)
      have el : lftP each (allP w nob) nob w (k + 1) = lftP each (allP w nob) nob w k := by
        show lftP each (allP w nob) nob w k - od1 each (allP w nob) nob (lftP each (allP w nob) nob w k) (w k) = _
        rw [w0, od1_0, Int.sub_zero]
      obtain ⟨J, hr, hJ⟩ := l193b h hk0 h9 e12 hw hz n (k + 1) (up3 I 78 0 k 0) (by omega) (hF.up rfl) (fun j h1 => by
        by_cases hjk : j = k
        · subst hjk
          rw [up_e]
          unfold odP
          rw [if_pos (by omega), w0, od1_0]
        · rw [up_s hjk]
          exact hj j (by omega))
      refine ⟨J, Eq.trans (P193_134_0 (h1 := by omega) (g1 := by omega) (h2 := by rw [f12]; omega)) ?_, hJ⟩
      rw [lem_w32k (by omega), ← el]
      exact hr
    · have e79 : I 79 0 ((k : Int).toNat) = w k := (hF 79 0 k rfl).trans (hw k (by omega))
      have go : ∀ v, od1 each (allP w nob) nob (lftP each (allP w nob) nob w k) (w k) = v →
          ∃ J, Res (d + 1) 193 134 [vr 12 0, vi kind, vi led, vi push, vi limit, vi nob, vl (allP w nob), vx, vl (w64 (lftP each (allP w nob) nob w k - up3 (up3 I 78 0 k 0) 78 0 k v 78 0 k)), vx, vi (w32 ((k : Int) + 1))] [] (mk (up3 (up3 I 78 0 k 0) 78 0 k v) L t) = some (vx, mk J L t) ∧ Fr s78 I0 J ∧ ∀ j, j < 10 → J 78 0 j = odP each (allP w nob) nob w j := by
        intro v hv
        have el : lftP each (allP w nob) nob w k - v = lftP each (allP w nob) nob w (k + 1) := by rw [← hv]; rfl
        rw [up_e, el, w64_id (by omega) (by omega), lem_w32k (by omega)]
        refine l193b h hk0 h9 e12 hw hz n (k + 1) _ (by omega) ((hF.up rfl).up rfl) (fun j h1 => ?_)
        by_cases hjk : j = k
        · subst hjk
          rw [up_e]
          unfold odP
          rw [if_pos (by omega)]
          exact hv.symm
        · rw [up_s hjk, up_s hjk]
          exact hj j (by omega)
      cases each with
      | true =>
        have lt := lft_in (each := true) h k (by omega)
        have lt' : 0 ≤ lftP true (allP w nob) nob w k ∧ lftP true (allP w nob) nob w k ≤ 1000000 := lt
        have od := od_e lt' hwk hn
        have e32 : w32 (w k + nob) = w k + nob := w32_s (by omega)
        obtain ⟨J, hr, hJ⟩ := go _ rfl
        refine ⟨J, Eq.trans (P193_134_2 (h1 := by omega) (g1 := by omega) (h2 := by rw [f12]; omega) (h3 := fun q => by cases hk0.mp q) (g2 := by omega) (g3 := by rw [e79, e32]; omega)) ?_, hJ⟩
        rw [e79, e32, od.1]
        exact hr
      | false =>
        have od := od_a hwk ⟨ha.2.2 k (by omega), by omega, ha.2.1⟩
        obtain ⟨J, hr, hJ⟩ := go _ rfl
        refine ⟨J, Eq.trans (P193_134_1 (h1 := by omega) (g1 := by omega) (h2 := by rw [f12]; omega) (h3 := hk0.mpr rfl) (g2 := by omega) (g3 := by omega)) ?_, hJ⟩
        rw [e79, od.1]
        exact hr
theorem sp193 {I : H3} {h : Nat} (hm : mhd I h) (hl : lnOk I) (hp : 0 ≤ push ∧ push ≤ 99) :
    ∃ J, Cal (d + 3) 193 [vr 12 0, vi kind, vi led, vi push] (mk I L t) = some (vx, mk J L t) ∧ Fr sMx I J ∧ gvM J = gN (gvM I) ∧ ∀ j, j < 10 → J 78 0 j = odQ (ans (mH I h)) (gN (gvM I)) (fM I h (gN (gvM I))) (mrv I) (decide (kind ≠ 0)) led push j := by
  have F0 : Fr sMx I (up3 (up3 (up3 (up3 (up3 I 75 0 1 0) 75 0 2 0) 75 0 3 0) 75 0 8 0) 75 0 9 0) := ((((Fr.rfl'.up rfl).up rfl).up rfl).up rfl).up rfl
  obtain ⟨m0, e0⟩ := mhd_fr F0 rfl (fun _ => ⟨rfl, rfl, rfl⟩) hm
  obtain ⟨J1, c1, F1⟩ := sp184 (d := d + 1) (w := 4) (L := L) (t := t) m0.1 m0.2.1 (by decide) m0.2.2.1 m0.2.2.2
  obtain ⟨m1, e1⟩ := mhd_fr F1 rfl (fun _ => ⟨rfl, rfl, rfl⟩) m0
  obtain ⟨J2, c2, F2⟩ := sp184 (d := d + 1) (w := 5) (L := L) (t := t) m1.1 m1.2.1 (by decide) m1.2.2.1 m1.2.2.2
  have g1 : gvM J1 = gN (gvM I) := (gvM_cg (F1.ri (fun _ => rfl))).trans gvM_N
  have g2 : gvM J2 = gN (gvM I) := (gvM_cg (F2.ri (fun _ => rfl))).trans g1
  rw [e0, gvM_N] at c1
  rw [e1, e0, g1] at c2
  have FJ : Fr sMx I J2 := F0.tr (sF_Mx ((s63_F F1).tr (s63_F F2)))
  have h4 := ans_in (mH I h) (w := 4) (gN (gvM I)) (by decide)
  have h5 := ans_in (mH I h) (w := 5) (gN (gvM I)) (by decide)
  obtain ⟨r0, r1, r2, r3, r4, r5, r6, r7⟩ := rom_v
  rw [r4.1, r4.2.1] at h4
  rw [r5.1, r5.2.1] at h5
  have hok : wOk (wtP (fM I h (gN (gvM I))) (mrv I) (ans (mH I h) 4 (gN (gvM I))) led push) (ans (mH I h) 5 (gN (gvM I))) := by
    refine ⟨fun k _ => wt_in h4 (fun f => faP_in _ _ _ _ _ _ (fun g => ?_) f) hp k, h5.1, by omega⟩
    have := ans_in (mH I h) (w := 0) g (by decide)
    rwa [r0.1, r0.2] at this
  have hl9 := hl.1
  obtain ⟨J3, hr3, F3, g3, hw3⟩ := l193a (d := d + 2) (L := L) (kind := kind) (mfar_ok (d := d) (t := t) hm (gN_N _)) hl hok (I 12 0 12).toNat 0 J2 vx FJ g2 (by omega) (fun j hj => by omega)
  rw [Nat.zero_add] at hr3 hw3
  have hz : ∀ j, (I 12 0 12).toNat ≤ j → j < 9 → wtP (fM I h (gN (gvM I))) (mrv I) (ans (mH I h) 4 (gN (gvM I))) led push j = 0 := fun j h1 h2 => by
    unfold wtP
    rw [if_pos (mrv_ge (by omega))]
  have ea : fo (fun k a => w32 (a + wtP (fM I h (gN (gvM I))) (mrv I) (ans (mH I h) 4 (gN (gvM I))) led push k)) 0 (I 12 0 12).toNat (ans (mH I h) 5 (gN (gvM I))) = allP (wtP (fM I h (gN (gvM I))) (mrv I) (ans (mH I h) 4 (gN (gvM I))) led push) (ans (mH I h) 5 (gN (gvM I))) := by
    unfold allP
    obtain ⟨m, hm9⟩ : ∃ m, 9 = (I 12 0 12).toNat + m := ⟨9 - (I 12 0 12).toNat, by omega⟩
    rw [hm9, fo_add]
    have pi := part_in hok (I 12 0 12).toNat (by omega)
    have q : ∀ a : Int, a = fo (fun k a => w32 (a + wtP (fM I h (gN (gvM I))) (mrv I) (ans (mH I h) 4 (gN (gvM I))) led push k)) 0 (I 12 0 12).toNat (ans (mH I h) 5 (gN (gvM I))) → fo (fun k a => w32 (a + wtP (fM I h (gN (gvM I))) (mrv I) (ans (mH I h) 4 (gN (gvM I))) led push k)) (0 + (I 12 0 12).toNat) m a = a := by
      intro a ha
      have hb : w32 a = a := w32_s (by omega)
      have : ∀ n k b, (I 12 0 12).toNat ≤ k → k + n ≤ 9 → b = a → fo (fun k a => w32 (a + wtP (fM I h (gN (gvM I))) (mrv I) (ans (mH I h) 4 (gN (gvM I))) led push k)) k n b = a := by
        intro n
        induction n with
        | zero => intro k b _ _ hb'; exact hb'
        | succ n ih =>
          intro k b h1 h2 hb'
          rw [fo_s]
          apply ih (k + 1) _ (by omega) (by omega)
          rw [hz k h1 (by omega), Int.add_zero, hb', hb]
      exact this m _ a (by omega) (by omega) rfl
    exact (q _ rfl).symm
  rw [ea] at hr3
  obtain ⟨J4, hr4, F4, ho4⟩ := l193b (d := d + 2) (L := L) (t := t) (led := led) (push := push) (limit := ans (mH I h) 4 (gN (gvM I))) (kind := kind) (I0 := J3) (each := decide (kind ≠ 0)) hok (by simp) (sz := (I 12 0 12).toNat) (by omega) (by rw [F3 12 0 12 rfl]; omega) hw3 hz 9 0 J3 rfl Fr.rfl' (fun j hj => by omega)
  refine ⟨J4, Eq.trans (P193_0_0 (c1 := P185_0_0) (c2 := c1) (c3 := c2)) (Eq.trans hr3 hr4), F3.tr (F4.mo (fun r i c k => ?_)), (gvM_cg (F4.ri (fun _ => rfl))).trans g3, ho4⟩
  simp only [sMx, Bool.or_eq_false_iff] at k
  exact k.1.2
end MODDS
