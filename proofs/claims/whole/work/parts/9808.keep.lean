/-! what was read is kept, on both sides -/
section ROWS
variable {d y pc q len : Nat} {ls st : List MV} {I L : H3} {t t2 : Nat → Nat} {a : Int}
theorem e_aast {r i r' i' : Nat} {n : Int} (hd : decode (cod y) pc = .ok (.aastore, 1)) (hq : pc + 1 = q) (he : 10 ≤ aek r i ∧ aek r i < 23) (hs : sh r' i' = .inl (aek r i - 10)) (hn : alen (aek r i) r i = n) (hS : isS r = false) (hS' : isS r' = false) (g : 0 ≤ a ∧ a < n) (hp : PP t2 = up3 (PP t) r i a.toNat (some (r', i'))) : Res d y pc ls (vr r' i' :: vi a :: vr r i :: st) (mk I L t) = Res d y q ls st (mk I L t2) := by
  subst hq; subst hn
  refine res_step hd rfl ?_
  show astX 10 _ ls (vr r' i' :: vi a :: vr r i :: st) (mk I L t) = _
  unfold astX
  dsimp only
  rw [if_pos ⟨rfl, he.1, he.2, hs, g.1, g.2, hS, hS'⟩]
  show nk _ ls st (I, L, up3 (PP t) r i a.toNat (some (r', i')), 1021) = _
  rw [← hp]
theorem e_putP {ix o c s ne w r i : Nat} {p : MR} (hd : decode (cod y) pc = .ok (.putfield ix, 3)) (hq : pc + 3 = q) (ho : own y = o) (hf : fldR o ix = some (c, s, ne, w)) (hs : sh r i = .inl c) (hS : isS r = false) (hfin : fin c s = false) (hk : ftk c s = 3) (hp : PP t2 = up3 (PP t) r i s (some p)) : Res d y pc ls (va (some p) :: vr r i :: st) (mk I L t) = Res d y q ls st (mk I L t2) := by
  subst hq; subst ho
  refine res_step hd rfl ?_
  show putX (own y) ix _ (knd y) ls (va (some p) :: vr r i :: st) (mk I L t) = _
  unfold putX
  rw [hf]
  dsimp only
  rw [if_pos ⟨hs, hS, fun z => by rw [hfin] at z; cases z⟩, if_pos hk]
  show nk _ ls st (I, L, up3 (PP t) r i s (some p), 1021) = _
  rw [← hp]
end ROWS
/-- one reference anew -/
def ut (t : Nat → Nat) (k x : Nat) : Nat → Nat := fun a => if a = k then x else t a
theorem ut_e {t : Nat → Nat} {k x : Nat} : ut t k x k = x := if_pos rfl
theorem ut_n {t : Nat → Nat} {k x a : Nat} (h : a ≠ k) : ut t k x a = t a := if_neg h
theorem pp_all {t t' : Nat → Nat} {P : Nat → Nat → Nat → Option MR} (h8 : ∀ i s, PP t' 8 i s = P 8 i s) (h38 : ∀ i s, PP t' 38 i s = P 38 i s) (h39 : ∀ i s, PP t' 39 i s = P 39 i s) (ho : ∀ r, r ≠ 8 → r ≠ 38 → r ≠ 39 → P r = PP t r) : PP t' = P := by
  funext r i s
  by_cases a : r = 8
  · subst a; exact h8 i s
  by_cases b : r = 38
  · subst b; exact h38 i s
  by_cases c : r = 39
  · subst c; exact h39 i s
  rw [ho r a b c]
  unfold PP
  simp only [if_neg a, if_neg b, if_neg c]
  rfl
theorem pp_8c {t t' : Nat → Nat} (h4 : t' 4 = t 4) (h9 : t' 9 = t 9) (h10 : t' 10 = t 10) (h11 : t' 11 = t 11) (i s : Nat) : PP t' 8 i s = PP t 8 i s := by
  show PPo8 t' i s = PPo8 t i s
  unfold PPo8
  rw [h4, h9, h10, h11]
theorem pp_38c {t t' : Nat → Nat} (h : ∀ a, a < 4 → t' a = t a) (i s : Nat) : PP t' 38 i s = PP t 38 i s := by
  show (if i = 0 ∧ s < 4 then some (2, t' s) else none) = if i = 0 ∧ s < 4 then some (2, t s) else none
  split
  · next c => rw [h s c.2]
  · rfl
theorem pp_39c {t t' : Nat → Nat} (h : ∀ a, a < 4 → t' (5 + a) = t (5 + a)) (i s : Nat) : PP t' 39 i s = PP t 39 i s := by
  show (if i = 0 ∧ s < 4 then some (9, t' (5 + s)) else none) = if i = 0 ∧ s < 4 then some (9, t (5 + s)) else none
  split
  · next c => rw [h s c.2]
  · rfl
theorem up3_r {P : Nat → Nat → Nat → Option MR} {r i s a : Nat} {x : Option MR} (h : a ≠ r) : up3 P r i s x a = P a := by
  funext b c
  exact if_neg (fun k => h k.1)
section PPU
variable {t : Nat → Nat} {k x : Nat}
theorem pp_u38 (hk : k < 4) : PP (ut t k x) = up3 (PP t) 38 0 k (some (2, x)) := by
  refine pp_all (t := t) (fun i s => ?_) (fun i s => ?_) (fun i s => ?_) (fun r a b c => up3_r b)
  · rw [up3_r (by decide)]
    exact pp_8c (ut_n (by omega)) (ut_n (by omega)) (ut_n (by omega)) (ut_n (by omega)) i s
  · show (if i = 0 ∧ s < 4 then some (2, ut t k x s) else none) = if 38 = 38 ∧ i = 0 ∧ s = k then some (2, x) else if i = 0 ∧ s < 4 then some (2, t s) else none
    by_cases c : i = 0 ∧ s = k
    · rw [if_pos ⟨c.1, by omega⟩, if_pos ⟨rfl, c⟩, c.2, ut_e]
    · rw [if_neg (show ¬ (38 = 38 ∧ i = 0 ∧ s = k) from fun z => c z.2)]
      by_cases e : i = 0 ∧ s < 4
      · rw [if_pos e, if_pos e, ut_n (fun z => c ⟨e.1, z⟩)]
      · rw [if_neg e, if_neg e]
  · rw [up3_r (by decide)]
    exact pp_39c (fun a _ => ut_n (by omega)) i s
theorem pp_u39 (hk : k < 4) : PP (ut t (5 + k) x) = up3 (PP t) 39 0 k (some (9, x)) := by
  refine pp_all (t := t) (fun i s => ?_) (fun i s => ?_) (fun i s => ?_) (fun r a b c => up3_r c)
  · rw [up3_r (by decide)]
    exact pp_8c (ut_n (by omega)) (ut_n (by omega)) (ut_n (by omega)) (ut_n (by omega)) i s
  · rw [up3_r (by decide)]
    exact pp_38c (fun a _ => ut_n (by omega)) i s
  · show (if i = 0 ∧ s < 4 then some (9, ut t (5 + k) x (5 + s)) else none) = if 39 = 39 ∧ i = 0 ∧ s = k then some (9, x) else if i = 0 ∧ s < 4 then some (9, t (5 + s)) else none
    by_cases c : i = 0 ∧ s = k
    · rw [if_pos ⟨c.1, by omega⟩, if_pos ⟨rfl, c⟩, c.2, ut_e]
    · rw [if_neg (show ¬ (39 = 39 ∧ i = 0 ∧ s = k) from fun z => c z.2)]
      by_cases e : i = 0 ∧ s < 4
      · rw [if_pos e, if_pos e, ut_n (fun z => c ⟨e.1, by omega⟩)]
      · rw [if_neg e, if_neg e]
theorem pp_u8 {s0 c0 : Nat} {q : Nat} (h : (q = 10 ∧ s0 = 3 ∧ c0 = 5) ∨ (q = 4 ∧ s0 = 4 ∧ c0 = 2) ∨ (q = 9 ∧ s0 = 5 ∧ c0 = 9) ∨ (q = 11 ∧ s0 = 6 ∧ c0 = 5)) : PP (ut t q x) = up3 (PP t) 8 0 s0 (some (c0, x)) := by
  refine pp_all (t := t) (fun i s => ?_) (fun i s => ?_) (fun i s => ?_) (fun r a b c => up3_r a)
  · show PPo8 (ut t q x) i s = if 8 = 8 ∧ i = 0 ∧ s = s0 then some (c0, x) else PPo8 t i s
    by_cases c : i = 0 ∧ s = s0
    · rw [if_pos ⟨rfl, c⟩]
      obtain ⟨rfl, rfl⟩ := c
      rcases h with ⟨rfl, rfl, rfl⟩ | ⟨rfl, rfl, rfl⟩ | ⟨rfl, rfl, rfl⟩ | ⟨rfl, rfl, rfl⟩ <;> rfl
    · rw [if_neg (show ¬ (8 = 8 ∧ i = 0 ∧ s = s0) from fun z => c z.2)]
      unfold PPo8
      by_cases e : i = 0
      · rw [if_pos e, if_pos e]
        have e2 : s ≠ s0 := fun z => c ⟨e, z⟩
        rcases h with ⟨rfl, rfl, rfl⟩ | ⟨rfl, rfl, rfl⟩ | ⟨rfl, rfl, rfl⟩ | ⟨rfl, rfl, rfl⟩ <;> simp [ut, e2]
      · rw [if_neg e, if_neg e]
  · rw [up3_r (by decide)]
    exact pp_38c (fun a _ => ut_n (by omega)) i s
  · rw [up3_r (by decide)]
    exact pp_39c (fun a _ => ut_n (by omega)) i s
end PPU
section KEEP
variable {d : Nat} {L : H3} {t : Nat → Nat}
theorem sp50 {I : H3} {k : Nat} (hk : k < 4) : Cal d 50 [vr 8 0, vi (k : Int)] (mk I L t) = some (vi (I 2 (t 4) 6), mk I L (ut (ut t k (t 4)) 4 (t k))) := by
  have g : 0 ≤ (k : Int) ∧ (k : Int) < 4 := by omega
  have r := P50_0_0 (d := d) (I := I) (L := L) (t := t) (g1 := g)
  rw [Int.toNat_natCast] at r
  refine Eq.trans r <| Eq.trans (e_aast (t2 := ut t k (t 4)) D50_16 rfl ⟨by show 10 ≤ 12; decide, by show 12 < 23; decide⟩ (sh_2 _) (aq_38 0) rfl rfl g (pp_u38 hk)) <| Eq.trans (e_aload_n D50_17 rfl rfl) <| Eq.trans (e_aload_n D50_18 rfl rfl) <| Eq.trans (e_putP (t2 := ut (ut t k (t 4)) 4 (t k)) (p := (2, t k)) D50_19 rfl o_50 f_8_38 (sh_8 _) rfl rfl (by decide) (pp_u8 (Or.inr (Or.inl ⟨rfl, rfl, rfl⟩)))) <| Eq.trans (e_aload_n D50_22 rfl rfl) <| Eq.trans (e_getP (p := (38, 0)) D50_23 rfl o_50 f_8_20 (sh_8 _) (by decide) (pp_8_1 _)) <| Eq.trans (e_iload_n D50_26 rfl rfl) <| Eq.trans (e_aald (p := (2, t 4)) D50_27 rfl (ae_38 _) (aq_38 _) ?_ g) <| Eq.trans (e_getI D50_28 rfl o_50 f_8_85 (sh_2 _) (by decide)) (e_iret D50_31 rfl)
  rw [Int.toNat_natCast, pa_38 _ hk, ut_n (show k ≠ 4 by omega), ut_e]
theorem sp51 {I : H3} : Cal d 51 [vr 8 0] (mk I L t) = some (vi (I 5 (t 11) 3), mk I L (ut (ut t 10 (t 11)) 11 (t 10))) := by
  refine Eq.trans P51_0_0 <| Eq.trans (e_putP (t2 := ut t 10 (t 11)) (p := (5, t 11)) D51_10 rfl o_51 f_8_33 (sh_8 _) rfl rfl (by decide) (pp_u8 (Or.inl ⟨rfl, rfl, rfl⟩))) <| Eq.trans (e_aload_n D51_13 rfl rfl) <| Eq.trans (e_aload_n D51_14 rfl rfl) <| Eq.trans (e_putP (t2 := ut (ut t 10 (t 11)) 11 (t 10)) (p := (5, t 10)) D51_15 rfl o_51 f_8_47 (sh_8 _) rfl rfl (by decide) (pp_u8 (Or.inr (Or.inr (Or.inr ⟨rfl, rfl, rfl⟩))))) <| Eq.trans (e_aload_n D51_18 rfl rfl) <| Eq.trans (e_getP (p := (5, t 11)) D51_19 rfl o_51 f_8_33 (sh_8 _) (by decide) ?_) <| Eq.trans (e_getI D51_22 rfl o_51 f_8_88 (sh_5 _) (by decide)) (e_iret D51_25 rfl)
  rw [pp_8_3]
  rfl
theorem sp52 {I : H3} {k : Nat} (hk : k < 4) : Cal d 52 [vr 8 0, vi (k : Int)] (mk I L t) = some (vi (I 9 (t 9) 4), mk I L (ut (ut t (5 + k) (t 9)) 9 (t (5 + k)))) := by
  have g : 0 ≤ (k : Int) ∧ (k : Int) < 4 := by omega
  have r := P52_0_0 (d := d) (I := I) (L := L) (t := t) (g1 := g)
  rw [Int.toNat_natCast] at r
  refine Eq.trans r <| Eq.trans (e_aast (t2 := ut t (5 + k) (t 9)) D52_16 rfl ⟨by show 10 ≤ 19; decide, by show 19 < 23; decide⟩ (sh_9 _) (aq_39 0) rfl rfl g (pp_u39 hk)) <| Eq.trans (e_aload_n D52_17 rfl rfl) <| Eq.trans (e_aload_n D52_18 rfl rfl) <| Eq.trans (e_putP (t2 := ut (ut t (5 + k) (t 9)) 9 (t (5 + k))) (p := (9, t (5 + k))) D52_19 rfl o_52 f_8_43 (sh_8 _) rfl rfl (by decide) (pp_u8 (Or.inr (Or.inr (Or.inl ⟨rfl, rfl, rfl⟩))))) <| Eq.trans (e_aload_n D52_22 rfl rfl) <| Eq.trans (e_getP (p := (39, 0)) D52_23 rfl o_52 f_8_26 (sh_8 _) (by decide) (pp_8_2 _)) <| Eq.trans (e_iload_n D52_26 rfl rfl) <| Eq.trans (e_aald (p := (9, t 9)) D52_27 rfl (ae_39 _) (aq_39 _) ?_ g) <| Eq.trans (e_getI D52_28 rfl o_52 f_8_89 (sh_9 _) (by decide)) (e_iret D52_31 rfl)
  rw [Int.toNat_natCast, pa_39 _ hk, ut_n (show 5 + k ≠ 9 by omega), ut_e]
/-! the model keeps -/
def sK1 (k r _ c : Nat) : Bool := (r == 56 || r == 57) && decide (8 * k ≤ c ∧ c < 8 * k + 8)
def sK2 (k r _ c : Nat) : Bool := r == 55 && decide (800 * k ≤ c ∧ c < 800 * k + 800)
def sKh (k r i c : Nat) : Bool := sK1 k r i c || sK2 k r i c || (r == 58 && c == k)
theorem l180a {k : Nat} (hk : k < 4) : ∀ (m w : Nat) (I : H3), w + m = 8 → ∃ J, Res d 180 19 [vr 12 0, vi (k : Int), vi (w : Int)] [] (mk I L t) = Res d 180 67 [vr 12 0, vi (k : Int), vi 0] [] (mk J L t) ∧ Fr (sK1 k) I J ∧ (∀ v, w ≤ v → v < 8 → J 56 0 (8 * k + v) = I 60 0 v ∧ J 57 0 (8 * k + v) = I 61 0 v) ∧ ∀ v, v < w → J 56 0 (8 * k + v) = I 56 0 (8 * k + v) ∧ J 57 0 (8 * k + v) = I 57 0 (8 * k + v)
  | 0, w, I, hw => ⟨I, P180_19_1 (by omega), Fr.rfl', fun v a b => by omega, fun _ _ => ⟨rfl, rfl⟩⟩
  | m + 1, w, I, hw => by
    have e : w32 (w32 (8 * (k : Int)) + (w : Int)) = ((8 * k + w : Nat) : Int) := by
      rw [w32_s (x := 8 * (k : Int)) (by omega), w32_s (by omega)]
      omega
    obtain ⟨K, hK⟩ : ∃ K : H3, K = up3 (up3 I 56 0 (8 * k + w) (I 60 0 w)) 57 0 (8 * k + w) (I 61 0 w) := ⟨_, rfl⟩
    obtain ⟨J, r, F, a, b⟩ := l180a hk m (w + 1) K (by omega)
    have FK : Fr (sK1 k) I K := by
      rw [hK]
      refine (Fr.rfl'.up ?_).up ?_ <;> (unfold sK1; simp; omega)
    refine ⟨J, Eq.trans (P180_19_0 (h1 := by omega) (g1 := by omega) (g2 := by rw [e]; omega)) ?_, FK.tr F, fun v h1 h2 => ?_, fun v h1 => ?_⟩
    · rw [e, Int.toNat_natCast, Int.toNat_natCast, lem_w32k (k := w) (by omega), ← hK]
      exact r
    · by_cases q : v = w
      · subst q
        obtain ⟨p1, p2⟩ := b v (by omega)
        rw [p1, p2, hK]
        refine ⟨?_, up_e⟩
        rw [up_r (show (56 : Nat) ≠ 57 by decide), up_e]
      · obtain ⟨p1, p2⟩ := a v (by omega) h2
        rw [p1, p2, FK 60 0 v rfl, FK 61 0 v rfl]
        exact ⟨rfl, rfl⟩
    · obtain ⟨p1, p2⟩ := b v (by omega)
      rw [p1, p2, hK]
      refine ⟨?_, ?_⟩
      · rw [up_r (show (56 : Nat) ≠ 57 by decide), up_s (by omega)]
      · rw [up_s (by omega), up_r (show (57 : Nat) ≠ 56 by decide)]
theorem l180b {k s : Nat} (hk : k < 4) (hs : s ≤ 400) : ∀ (m c : Nat) (I : H3), c + m = 2 * s → I 12 0 35 = (s : Int) → ∃ J, Res d 180 67 [vr 12 0, vi (k : Int), vi (c : Int)] [] (mk I L t) = some (vx, mk J L t) ∧ Fr (sK2 k) I J ∧ (∀ v, c ≤ v → v < 2 * s → J 55 0 (800 * k + v) = I 59 0 v) ∧ ∀ v, v < c → J 55 0 (800 * k + v) = I 55 0 (800 * k + v)
  | 0, c, I, hc, e35 => ⟨I, P180_67_1 (by rw [e35, w32_s (by omega)]; omega), Fr.rfl', fun v a b => by omega, fun _ _ => rfl⟩
  | m + 1, c, I, hc, e35 => by
    have e : w32 (w32 (800 * (k : Int)) + (c : Int)) = ((800 * k + c : Nat) : Int) := by
      rw [w32_s (x := 800 * (k : Int)) (by omega), w32_s (by omega)]
      omega
    obtain ⟨K, hK⟩ : ∃ K : H3, K = up3 I 55 0 (800 * k + c) (I 59 0 c) := ⟨_, rfl⟩
    have FK : Fr (sK2 k) I K := by
      rw [hK]
      exact Fr.rfl'.up (by unfold sK2; simp; omega)
    obtain ⟨J, r, F, a, b⟩ := l180b hk hs m (c + 1) K (by omega) (by rw [FK 12 0 35 rfl]; exact e35)
    refine ⟨J, Eq.trans (P180_67_0 (h1 := by rw [e35, w32_s (by omega)]; omega) (g1 := by omega) (g2 := by rw [e]; omega)) ?_, FK.tr F, fun v h1 h2 => ?_, fun v h1 => ?_⟩
    · rw [e, Int.toNat_natCast, Int.toNat_natCast, lem_w32k (k := c) (by omega), ← hK]
      exact r
    · by_cases q : v = c
      · subst q
        rw [b v (by omega), hK, up_e]
      · rw [a v (by omega) h2, FK 59 0 v rfl]
    · rw [b v (by omega), hK, up_s (by omega)]
theorem sp180h {k s : Nat} {I : H3} (hk : k < 4) (hs : s ≤ 400) (e45 : I 12 0 45 = 0) (e35 : I 12 0 35 = (s : Int)) : ∃ J, Cal d 180 [vr 12 0, vi (k : Int)] (mk I L t) = some (vx, mk J L t) ∧ Fr (sKh k) I J ∧ (∀ v, v < 8 → J 56 0 (8 * k + v) = I 60 0 v ∧ J 57 0 (8 * k + v) = I 61 0 v) ∧ ∀ v, v < 2 * s → J 55 0 (800 * k + v) = I 59 0 v := by
  obtain ⟨K, hK⟩ : ∃ K : H3, K = up3 I 58 0 k (I 12 0 34) := ⟨_, rfl⟩
  have FK : Fr (fun r _ c => r == 58 && c == k) I K := by
    rw [hK]
    exact Fr.rfl'.up (by simp)
  obtain ⟨J1, r1, F1, a1, _⟩ := l180a (d := d) (L := L) (t := t) hk 8 0 K rfl
  obtain ⟨J2, r2, F2, a2, _⟩ := l180b (d := d) (L := L) (t := t) (s := s) hk hs (2 * s) 0 J1 (by omega) (by rw [F1 12 0 35 rfl, FK 12 0 35 rfl]; exact e35)
  refine ⟨J2, Eq.trans (P180_0_0 (h1 := e45) (g1 := by omega)) ?_, ((FK.mo fun r i c q => ?_).tr (F1.mo fun r i c q => ?_)).tr (F2.mo fun r i c q => ?_), fun v hv => ?_, fun v hv => ?_⟩
  · rw [Int.toNat_natCast, ← hK]
    exact Eq.trans r1 r2
  · unfold sKh at q
    simp only [Bool.or_eq_false_iff] at q
    exact q.2
  · unfold sKh at q
    simp only [Bool.or_eq_false_iff] at q
    exact q.1.1
  · unfold sKh at q
    simp only [Bool.or_eq_false_iff] at q
    exact q.1.2
  · rw [F2 56 0 _ rfl, F2 57 0 _ rfl, (a1 v (Nat.zero_le _) hv).1, (a1 v (Nat.zero_le _) hv).2, FK 60 0 v rfl, FK 61 0 v rfl]
    exact ⟨rfl, rfl⟩
  · rw [a2 v (Nat.zero_le _) hv, F1 59 0 v rfl, FK 59 0 v rfl]
def sKs (r _ c : Nat) : Bool := r == 64 || r == 65 || r == 66 || (r == 12 && c == 33)
theorem l180c {k : Int} {s : Nat} (hs : s ≤ 12) : ∀ (m c : Nat) (I : H3), c + m = s → I 12 0 33 = (s : Int) → ∃ J, Res d 180 122 [vr 12 0, vi k, vi (c : Int)] [] (mk I L t) = some (vx, mk J L t) ∧ Fr (fun r _ _ => r == 64 || r == 65 || r == 66) I J ∧ (∀ v, c ≤ v → v < s → J 64 0 v = I 67 0 v ∧ J 65 0 v = I 68 0 v ∧ J 66 0 v = I 69 0 v) ∧ ∀ v, v < c → J 64 0 v = I 64 0 v ∧ J 65 0 v = I 65 0 v ∧ J 66 0 v = I 66 0 v
  | 0, c, I, hc, e33 => ⟨I, P180_122_1 (by rw [e33]; omega), Fr.rfl', fun v a b => by omega, fun _ _ => ⟨rfl, rfl, rfl⟩⟩
  | m + 1, c, I, hc, e33 => by
    obtain ⟨K, hK⟩ : ∃ K : H3, K = up3 (up3 (up3 I 64 0 c (I 67 0 c)) 65 0 c (I 68 0 c)) 66 0 c (I 69 0 c) := ⟨_, rfl⟩
    have FK : Fr (fun r _ _ => r == 64 || r == 65 || r == 66) I K := by
      rw [hK]
      exact ((Fr.rfl'.up rfl).up rfl).up rfl
    obtain ⟨J, r, F, a, b⟩ := l180c (k := k) hs m (c + 1) K (by omega) (by rw [FK 12 0 33 rfl]; exact e33)
    refine ⟨J, Eq.trans (P180_122_0 (h1 := by rw [e33]; omega) (g1 := by omega)) ?_, FK.tr F, fun v h1 h2 => ?_, fun v h1 => ?_⟩
    · rw [Int.toNat_natCast, lem_w32k (k := c) (by omega), ← hK]
      exact r
    · by_cases q : v = c
      · subst q
        obtain ⟨p1, p2, p3⟩ := b v (by omega)
        rw [p1, p2, p3, hK]
        refine ⟨?_, ?_, up_e⟩
        · rw [up_r (show (64 : Nat) ≠ 66 by decide), up_r (show (64 : Nat) ≠ 65 by decide), up_e]
        · rw [up_r (show (65 : Nat) ≠ 66 by decide), up_e]
      · obtain ⟨p1, p2, p3⟩ := a v (by omega) h2
        rw [p1, p2, p3, FK 67 0 v rfl, FK 68 0 v rfl, FK 69 0 v rfl]
        exact ⟨rfl, rfl, rfl⟩
    · obtain ⟨p1, p2, p3⟩ := b v (by omega)
      rw [p1, p2, p3, hK]
      refine ⟨?_, ?_, ?_⟩
      · rw [up_r (show (64 : Nat) ≠ 66 by decide), up_r (show (64 : Nat) ≠ 65 by decide), up_s (by omega)]
      · rw [up_r (show (65 : Nat) ≠ 66 by decide), up_s (by omega), up_r (show (65 : Nat) ≠ 64 by decide)]
      · rw [up_s (by omega), up_r (show (66 : Nat) ≠ 65 by decide), up_r (show (66 : Nat) ≠ 64 by decide)]
theorem sp180s {k : Int} {s : Nat} {I : H3} (hs : s ≤ 12) (e45 : I 12 0 45 = 1) (e34 : I 12 0 34 = (s : Int)) : ∃ J, Cal d 180 [vr 12 0, vi k] (mk I L t) = some (vx, mk J L t) ∧ Fr sKs I J ∧ J 12 0 33 = (s : Int) ∧ ∀ v, v < s → J 64 0 v = I 67 0 v ∧ J 65 0 v = I 68 0 v ∧ J 66 0 v = I 69 0 v := by
  have FK : Fr (fun r _ c => r == 12 && c == 33) I (up3 I 12 0 33 (s : Int)) := Fr.rfl'.up rfl
  obtain ⟨J, r, F, a, _⟩ := l180c (d := d) (L := L) (t := t) (k := k) hs s 0 (up3 I 12 0 33 (s : Int)) (by omega) up_e
  refine ⟨J, Eq.trans (P180_0_1 (h1 := by rw [e45]; decide) (h2 := e45)) ?_, (FK.mo fun r i c q => ?_).tr (F.mo fun r i c q => ?_), ?_, fun v hv => ?_⟩
  · rw [e34]
    exact r
  · unfold sKs at q
    simp only [Bool.or_eq_false_iff] at q
    exact q.2
  · unfold sKs at q
    simp only [Bool.or_eq_false_iff] at q ⊢
    exact q.1
  · rw [F 12 0 33 rfl, up_e]
  · obtain ⟨p1, p2, p3⟩ := a v (Nat.zero_le _) hv
    rw [p1, p2, p3, FK 67 0 v rfl, FK 68 0 v rfl, FK 69 0 v rfl]
    exact ⟨rfl, rfl, rfl⟩
end KEEP
