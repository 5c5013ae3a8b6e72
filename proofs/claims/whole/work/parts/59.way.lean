/-! the class: shares of worlds, ways -/
section FRT
variable {I J : H3} {t : Nat → Nat}
theorem fr_k (k : Fr sT I J) (h : kOk I) : kOk J := by
  unfold kOk
  rw [k.rg (r := 1) (fun _ _ => rfl)]
  exact h
theorem fr_ty (k : Fr sT I J) (h : tyOk I) : tyOk J := by
  unfold tyOk
  rw [k.rg (r := 115) (fun _ _ => rfl)]
  exact h
theorem fr_rs (k : Fr sT I J) (h : rsOk I) : rsOk J := fun r hr => (fr_rw k (h r hr)).1
theorem fr_3 (k : Fr sT I J) {s : Nat} (hs : s < 60) : J 3 s = I 3 s := k.ri (fun c => by
  have : (s == 60) = false := by rw [beq_eq_false_iff_ne]; omega
  simp [sT, this])
theorem fr_mOk (k : Fr sT I J) {s : Nat} (hs : s < 60) (h : mOk I t s) : mOk J t s ∧ aW J t s = aW I t s :=
  mOk_fr k (by
    have : (s == 60) = false := by rw [beq_eq_false_iff_ne]; omega
    simp [sT, this]) (fun _ _ => ⟨rfl, rfl, rfl, rfl⟩) h
theorem fr_wd (k : Fr sT I J) {i : Nat} (hi : i < 40) (h : wdOk I t i) : wdOk J t i := by
  unfold wdOk snOk
  rw [fr_3 k (show 20 + i < 60 by omega), k.rg (r := 10) (fun _ _ => rfl)]
  exact ⟨(fr_mOk k (by omega) h.1).1, h.2.1, (fr_rw k h.2.2.1).1, h.2.2.2⟩
theorem fr_wy (k : Fr sT I J) {y : Nat} (h : wyOk I y) : wyOk J y := by
  unfold wyOk
  rw [k.rg (r := 9) (fun _ _ => rfl)]
  exact h
theorem fr_rv (k : Fr sT I J) : rv J = rv I := by
  funext r
  unfold rv
  rw [k.rg (r := 4) (fun _ _ => rfl), k.rg (r := 30) (fun _ _ => rfl)]
theorem fr_aW (k : Fr sT I J) {s : Nat} (hs : s < 60) : aW J t s = aW I t s := by
  unfold aW
  rw [fr_3 k hs, hC_cg (k.rg (fun _ _ => rfl)) (k.rg (fun _ _ => rfl)) (k.rg (fun _ _ => rfl)) (k.rg (fun _ _ => rfl))]
theorem fr_trW (k : Fr sT I J) {i y : Nat} (hi : i < 40) : trW J t i y = trW I t i y := by
  have e3 := fr_3 k (show 20 + i < 60 by omega)
  unfold trW drW gvS
  rw [fr_aW k (show 20 + i < 60 by omega), e3, fr_rv k, k.rg (r := 22) (fun _ _ => rfl), k.rg (r := 115) (fun _ _ => rfl), k.rg (r := 1) (fun _ _ => rfl), k.rg (r := 9) (fun _ _ => rfl), k.rg (r := 10) (fun _ _ => rfl)]
theorem fr_toW (k : Fr sT I J) {i y : Nat} (hi : i < 40) : toW J t i y = toW I t i y := by
  have e3 := fr_3 k (show 20 + i < 60 by omega)
  unfold toW faW
  rw [fr_trW k hi, fr_aW k (show 20 + i < 60 by omega)]
  unfold gvS
  rw [e3, fr_rv k, k.rg (r := 22) (fun _ _ => rfl), k.rg (r := 1) (fun _ _ => rfl), k.rg (r := 9) (fun _ _ => rfl), k.rg (r := 10) (fun _ _ => rfl)]
end FRT
/-- the share of a sort of faces -/
def shS (od : Nat → Int) (rv : Int → Int) (seen susp what : Int) (k : Nat) (a : Int) : Int :=
  if rv k = -1 then a else if (if rv k = seen then 0 else if (k : Int) = susp then 1 else 2) = what then w32 (a + od k) else a
def shP (od : Nat → Int) (rv : Int → Int) (seen susp what : Int) : Int := if what = 3 then od 9 else fo (shS od rv seen susp what) 0 9 0
theorem shP_cg {od od' : Nat → Int} (h : ∀ j, j < 10 → od j = od' j) {rv : Int → Int} {seen susp what : Int} : shP od rv seen susp what = shP od' rv seen susp what := by
  unfold shP
  rw [h 9 (by decide)]
  split
  · rfl
  · exact fo_cg 9 0 0 (fun j b _ hj => by
      unfold shS
      rw [h j (by omega)])
section SHARE2
variable {d i : Nat} {I L : H3} {t : Nat → Nat}
theorem sp69 {p f : Int} : Cal d 69 [vr 10 i, vi p, vi f] (mk I L t) = some (vi (if f = I 3 (20 + i) 4 then 0 else if p = I 10 i 3 then 1 else 2), mk I L t) := by
  by_cases h1 : f = I 3 (20 + i) 4
  · rw [if_pos h1]
    exact P69_0_0 h1
  · rw [if_neg h1]
    by_cases h2 : p = I 10 i 3
    · rw [if_pos h2]
      exact P69_0_1 h1 h2
    · rw [if_neg h2]
      exact P69_0_2 h1 h2
theorem l134 {what : Int} (hr : rwOk I (106 + i)) : ∀ (n k : Nat) (a : Int) (u : MV), k + n = 9 → Res (d + 2) 134 19 [vr 11 0, vr 10 i, vi what, vi a, vi (k : Int), u] [] (mk I L t) = some (vi (fo (shS (I 15 0) (rv I (106 + i)) (I 3 (20 + i) 4) (I 10 i 3) what) k n a), mk I L t)
  | 0, k, a, u, hk => P134_19_3 (by omega)
  | n + 1, k, a, u, hk => by
    rw [fo_s]
    by_cases h1 : rv I (106 + i) (k : Int) = -1
    · have es : shS (I 15 0) (rv I (106 + i)) (I 3 (20 + i) 4) (I 10 i 3) what k a = a := if_pos h1
      rw [es]
      refine Eq.trans (P134_19_2 (h1 := by omega) (g1 := hr.1) (h2 := h1)) ?_
      rw [lem_w32k (by omega)]
      exact l134 hr n (k + 1) a _ (by omega)
    · by_cases h2 : (if rv I (106 + i) (k : Int) = I 3 (20 + i) 4 then 0 else if (k : Int) = I 10 i 3 then 1 else 2) = what
      · have es : shS (I 15 0) (rv I (106 + i)) (I 3 (20 + i) 4) (I 10 i 3) what k a = w32 (a + I 15 0 k) := by
          unfold shS
          rw [if_neg h1, if_pos h2]
        have eo : oP (I 15 0) (k : Int) = I 15 0 k := by
          unfold oP
          rw [if_pos (by omega)]
          rfl
        rw [es]
        refine Eq.trans (P134_19_0 (h1 := by omega) (g1 := hr.1) (h2 := h1) (c1 := sp69) (h3 := h2) (c2 := s1)) ?_
        rw [lem_w32k (by omega), eo]
        exact l134 hr n (k + 1) _ _ (by omega)
      · have es : shS (I 15 0) (rv I (106 + i)) (I 3 (20 + i) 4) (I 10 i 3) what k a = a := by
          unfold shS
          rw [if_neg h1, if_neg h2]
        rw [es]
        refine Eq.trans (P134_19_1 (h1 := by omega) (g1 := hr.1) (h2 := h1) (c1 := sp69) (h3 := h2)) ?_
        rw [lem_w32k (by omega)]
        exact l134 hr n (k + 1) a _ (by omega)
theorem sp134 {what : Int} (hr : rwOk I (106 + i)) : Cal (d + 2) 134 [vr 11 0, vr 10 i, vi what] (mk I L t) = some (vi (shP (I 15 0) (rv I (106 + i)) (I 3 (20 + i) 4) (I 10 i 3) what), mk I L t) := by
  unfold shP
  by_cases h : what = 3
  · rw [if_pos h]
    exact P134_0_0 h s1
  · rw [if_neg h]
    exact Eq.trans (P134_0_1 h) (l134 hr 9 0 0 _ rfl)
end SHARE2
/-- the share of a sort in a world by a way -/
def shW (I : H3) (t : Nat → Nat) (i y : Nat) (what : Int) : Int := shP (toW I t i y) (rv I (106 + i)) (I 3 (20 + i) 4) (I 10 i 3) what
theorem fr_shW {I J : H3} {t : Nat → Nat} (k : Fr sT I J) {i y : Nat} {what : Int} (hi : i < 40) : shW J t i y what = shW I t i y what := by
  unfold shW
  rw [fr_toW k hi, fr_rv k, fr_3 k (show 20 + i < 60 by omega), k.rg (r := 10) (fun _ _ => rfl)]
/-- all worlds in bounds -/
def wsOk (I : H3) (t : Nat → Nat) : Prop := (0 ≤ I 11 0 14 ∧ I 11 0 14 ≤ 40) ∧ ∀ i : Nat, (i : Int) < I 11 0 14 → wdOk I t i
theorem fr_ws {I J : H3} {t : Nat → Nat} (k : Fr sT I J) (h : wsOk I t) : wsOk J t := by
  unfold wsOk
  rw [k 11 0 14 rfl]
  exact ⟨h.1, fun i hi => fr_wd k (by have := h.1; omega) (h.2 i hi)⟩
/-- what the looks at worlds want -/
def lkOk (I : H3) (t : Nat → Nat) : Prop := fcOk I ∧ kOk I ∧ tyOk I ∧ rsOk I ∧ wsOk I t
theorem fr_lk {I J : H3} {t : Nat → Nat} (k : Fr sT I J) (h : lkOk I t) : lkOk J t := ⟨fr_fc k h.1, fr_k k h.2.1, fr_ty k h.2.2.1, fr_rs k h.2.2.2.1, fr_ws k h.2.2.2.2⟩
section WAY
variable {d : Nat} {I0 L : H3} {t : Nat → Nat}
/-- a world tried by a way, with its share -/
theorem tried60 {I : H3} {i y : Nat} (hk : lkOk I0 t) (hF : Fr sT I0 I) (hi : (i : Int) < I0 11 0 14) (hy : wyOk I0 y) : ∃ J, Cal (d + 5) 133 [vr 11 0, vr 10 i, vr 9 y] (mk I L t) = some (vx, mk J L t) ∧ Fr sT I0 J ∧ (∀ (L' : H3) (e : Nat) (what : Int), Cal (e + 2) 134 [vr 11 0, vr 10 i, vi what] (mk J L' t) = some (vi (shW I0 t i y what), mk J L' t)) ∧
    At60 I J (20 + i) 0 (trW I0 t i y).1 (c16 (I0 115 (I0 1 (I0 3 (20 + i) 4).toNat 1).toNat)) (trW I0 t i y).2 ∧ ∀ j, j < 10 → J 15 0 j = toW I0 t i y j := by
  have h40 : i < 40 := by have := hk.2.2.2.2.1; omega
  have hk' := fr_lk hF hk
  obtain ⟨J, c, A, o⟩ := sp133 (d := d) (L := L) (y := y) h40 (hk'.2.2.2.2.2 i (by rw [hF 11 0 14 rfl]; exact hi)) (fr_wy hF hy) hk'.1 hk'.2.1 hk'.2.2.1 hk'.2.2.2.1
  have FJ : Fr sT I0 J := hF.tr A.1
  rw [fr_trW hF h40, fr_3 hF (show 20 + i < 60 by omega), hF.rg (r := 1) (fun _ _ => rfl), hF.rg (r := 115) (fun _ _ => rfl)] at A
  rw [fr_toW hF h40] at o
  refine ⟨J, c, FJ, fun L' e what => ?_, A, o⟩
  have hr := (hk.2.2.2.2.2 i hi).2.2.1
  refine Eq.trans (sp134 (fr_rw FJ hr).1) ?_
  unfold shW
  rw [shP_cg o, fr_rv FJ, fr_3 FJ (show 20 + i < 60 by omega), FJ.rg (r := 10) (fun _ _ => rfl)]
def sumW (I : H3) (t : Nat → Nat) (y : Nat) (what : Int) : Int := fo (fun i a => w64 (a + shW I t i y what)) 0 (I 11 0 14).toNat 0
theorem l135 {x y : Nat} (hx : x < 4) (hyx : t (5 + x) = y) (hk : lkOk I0 t) (hy : wyOk I0 y) : ∀ (n k : Nat) (I L : H3), k + n = (I0 11 0 14).toNat → Fr sT I0 I → 
    ∃ J L', Res (d + 6) 135 22 [vr 11 0, vi (x : Int), vi (k : Int)] [] (mk I L t) = some (vx, mk J L' t) ∧ Fr sT I0 J ∧ L' 19 0 x = fo (fun i a => w64 (a + shW I0 t i y 0)) k n (L 19 0 x) ∧ L' 20 0 x = fo (fun i a => w64 (a + shW I0 t i y 1)) k n (L 20 0 x) ∧ ∀ j, j ≠ x → L' 19 0 j = L 19 0 j ∧ L' 20 0 j = L 20 0 j
  | 0, k, I, L, hk', hF => by
    have e := hF 11 0 14 rfl
    have hb := hk.2.2.2.2.1
    exact ⟨I, L, P135_22_1 (by rw [e]; omega), hF, rfl, rfl, fun _ _ => ⟨rfl, rfl⟩⟩
  | n + 1, k, I, L, hk', hF => by
    have e := hF 11 0 14 rfl
    have hb := hk.2.2.2.2.1
    obtain ⟨J, c, FJ, sh, _⟩ := tried60 (d := d) (L := L) (i := k) hk hF (by omega) hy
    obtain ⟨J', L', hr, h1, h2, h3, h4⟩ := l135 hx hyx hk hy n (k + 1) J (up3 (up3 L 19 0 x (w64 (L 19 0 x + shW I0 t k y 0))) 20 0 x (w64 (L 20 0 x + shW I0 t k y 1))) (by omega) FJ
    refine ⟨J', L', Eq.trans (P135_22_0 (h1 := by rw [e]; omega) (g1 := by omega) (g2 := by omega) (c1 := by rw [Int.toNat_natCast, Int.toNat_natCast, hyx]; exact c) (c2 := sh L (d + 3) 0) (c3 := sh _ (d + 3) 1)) ?_, h1, ?_, ?_, fun j hj => ?_⟩
    · rw [lem_w32k (k := k) (by omega)]
      exact hr
    · rw [h2, up_r (by decide), up_e, fo_s]
    · rw [h3, up_e, fo_s]
    · obtain ⟨h5, h6⟩ := h4 j hj
      rw [h5, h6, up_r (by decide), up_s hj, up_s hj]
      exact ⟨rfl, congrFun (congrFun (up_r (by decide)) 0) j⟩
theorem sp135 {I L : H3} {x y : Nat} (hx : x < 4) (hyx : t (5 + x) = y) (hk : lkOk I0 t) (hy : wyOk I0 y) (hF : Fr sT I0 I) :
    ∃ J L', Cal (d + 6) 135 [vr 11 0, vi (x : Int)] (mk I L t) = some (vx, mk J L' t) ∧ Fr sT I0 J ∧ L' 19 0 x = sumW I0 t y 0 ∧ L' 20 0 x = sumW I0 t y 1 ∧ ∀ j, j ≠ x → L' 19 0 j = L 19 0 j ∧ L' 20 0 j = L 20 0 j := by
  obtain ⟨J, L', hr, h1, h2, h3, h4⟩ := l135 (d := d) hx hyx hk hy (I0 11 0 14).toNat 0 I (up3 (up3 L 19 0 x 0) 20 0 x 0) (by omega) hF
  refine ⟨J, L', Eq.trans (P135_0_0 (g1 := by omega)) hr, h1, ?_, ?_, fun j hj => ?_⟩
  · rw [h2, up_r (by decide), up_e]
    rfl
  · rw [h3, up_e]
    rfl
  · obtain ⟨h5, h6⟩ := h4 j hj
    rw [h5, h6, up_r (by decide), up_s hj, up_s hj]
    exact ⟨rfl, congrFun (congrFun (up_r (by decide)) 0) j⟩
theorem lcmp_0 {a b : Int} : vLcmp a b = 0 ↔ a = b := by
  unfold vLcmp
  split
  · constructor
    · intro h
      cases h
    · intro h
      omega
  · split
    · next h => exact ⟨fun _ => h, fun _ => rfl⟩
    · next h => exact ⟨fun k => (by cases k), fun k => absurd k h⟩
theorem lcmp_ge {a b : Int} : 0 ≤ vLcmp a b ↔ b ≤ a := by
  unfold vLcmp
  split
  · omega
  · split <;> omega
theorem lcmp_le {a b : Int} : vLcmp a b ≤ 0 ↔ a ≤ b := by
  unfold vLcmp
  split
  · omega
  · split <;> omega
/-- another way is better -/
def bett (R W : Nat → Int) (x o : Nat) : Prop := (R o ≠ R x ∨ W o ≠ W x) ∧ R x ≤ R o ∧ W o ≤ W x
theorem l3 {I : H3} {x : Nat} (hx : x < 4) : ∀ (n k : Nat) (u : MV), k + n = 4 → ∃ b : Int, Res d 3 2 [vr 0 0, vi (x : Int), vi (k : Int), u] [] (mk I L t) = some (vi b, mk I L t) ∧ (b = 0 ∨ b = 1) ∧ (b = 1 ↔ ∃ o, k ≤ o ∧ o < 4 ∧ bett (L 19 0) (L 20 0) x o)
  | 0, k, u, hk => ⟨0, P3_2_7 (by omega), Or.inl rfl, ⟨fun h => (by cases h), fun ⟨o, h1, h2, _⟩ => by omega⟩⟩
  | n + 1, k, u, hk => by
    have go : ∀ u', (¬ bett (L 19 0) (L 20 0) x k) → (Res d 3 2 [vr 0 0, vi (x : Int), vi (k : Int), u] [] (mk I L t) = Res d 3 2 [vr 0 0, vi (x : Int), vi (w32 ((k : Int) + 1)), u'] [] (mk I L t)) → ∃ b : Int, Res d 3 2 [vr 0 0, vi (x : Int), vi (k : Int), u] [] (mk I L t) = some (vi b, mk I L t) ∧ (b = 0 ∨ b = 1) ∧ (b = 1 ↔ ∃ o, k ≤ o ∧ o < 4 ∧ bett (L 19 0) (L 20 0) x o) := by
      intro u' hn hr
      rw [lem_w32k (by omega)] at hr
      obtain ⟨b, h1, h2, h3⟩ := l3 hx n (k + 1) u' (by omega)
      refine ⟨b, hr.trans h1, h2, h3.trans ⟨fun ⟨o, a1, a2, a3⟩ => ⟨o, by omega, a2, a3⟩, fun ⟨o, a1, a2, a3⟩ => ⟨o, ?_, a2, a3⟩⟩⟩
      by_cases ho : o = k
      · subst ho
        exact absurd a3 hn
      · omega
    by_cases h1 : L 19 0 k = L 19 0 x
    · by_cases h2 : L 20 0 k = L 20 0 x
      · exact go _ (fun hb => hb.1.elim (fun q => q h1) (fun q => q h2)) (P3_2_3 (h1 := by omega) (g1 := by omega) (g2 := by omega) (h2 := lcmp_0.mpr h1) (h3 := lcmp_0.mpr h2))
      · by_cases h3 : L 20 0 k ≤ L 20 0 x
        · exact ⟨1, P3_2_0 (h1 := by omega) (g1 := by omega) (g2 := by omega) (h2 := lcmp_0.mpr h1) (h3 := fun q => h2 (lcmp_0.mp q)) (h4 := lcmp_ge.mpr (Int.le_of_eq h1.symm)) (h5 := lcmp_le.mpr h3), Or.inr rfl, ⟨fun _ => ⟨k, Nat.le_refl _, by omega, Or.inr h2, Int.le_of_eq h1.symm, h3⟩, fun _ => rfl⟩⟩
        · exact go _ (fun hb => h3 hb.2.2) (P3_2_1 (h1 := by omega) (g1 := by omega) (g2 := by omega) (h2 := lcmp_0.mpr h1) (h3 := fun q => h2 (lcmp_0.mp q)) (h4 := lcmp_ge.mpr (Int.le_of_eq h1.symm)) (h5 := Int.not_le.mp (fun q => h3 (lcmp_le.mp q))))
    · by_cases h2 : L 19 0 x ≤ L 19 0 k
      · by_cases h3 : L 20 0 k ≤ L 20 0 x
        · exact ⟨1, P3_2_4 (h1 := by omega) (g1 := by omega) (g2 := by omega) (h2 := fun q => h1 (lcmp_0.mp q)) (h3 := lcmp_ge.mpr h2) (h4 := lcmp_le.mpr h3), Or.inr rfl, ⟨fun _ => ⟨k, Nat.le_refl _, by omega, Or.inl h1, h2, h3⟩, fun _ => rfl⟩⟩
        · exact go _ (fun hb => h3 hb.2.2) (P3_2_5 (h1 := by omega) (g1 := by omega) (g2 := by omega) (h2 := fun q => h1 (lcmp_0.mp q)) (h3 := lcmp_ge.mpr h2) (h4 := Int.not_le.mp (fun q => h3 (lcmp_le.mp q))))
      · exact go _ (fun hb => h2 hb.2.1) (P3_2_6 (h1 := by omega) (g1 := by omega) (g2 := by omega) (h2 := fun q => h1 (lcmp_0.mp q)) (h3 := Int.not_le.mp (fun q => h2 (lcmp_ge.mp q))))
theorem sp3 {I : H3} {x : Nat} (hx : x < 4) : ∃ b : Int, Cal d 3 [vr 0 0, vi (x : Int)] (mk I L t) = some (vi b, mk I L t) ∧ (b = 0 ∨ b = 1) ∧ (b = 1 ↔ ∃ o, o < 4 ∧ bett (L 19 0) (L 20 0) x o) := by
  obtain ⟨b, h1, h2, h3⟩ := l3 (d := d) (L := L) (t := t) (I := I) hx 4 0 vx rfl
  exact ⟨b, Eq.trans P3_0_0 h1, h2, h3.trans ⟨fun ⟨o, _, a2, a3⟩ => ⟨o, a2, a3⟩, fun ⟨o, a2, a3⟩ => ⟨o, Nat.zero_le _, a2, a3⟩⟩⟩
end WAY
