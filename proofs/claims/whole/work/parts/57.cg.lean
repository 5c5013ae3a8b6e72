/-! pure pictures over alike faces -/
def Feq (F F' : Nat → Nat → Int) : Prop := ∀ f, f < 120 → c16 (F f) = c16 (F' f)
def Keq (K K' : Nat → Int) : Prop := ∀ f, f < 120 → K f = K' f
def rvB (rv : Int → Int) : Prop := ∀ p : Int, rv p = -1 ∨ (0 ≤ rv p ∧ rv p < 120)
theorem difP_cg {f f' g g' : Nat → Int} {k n : Nat} {s : Int} (hf : c16 f = c16 f') (hg : c16 g = c16 g') (h : k + n ≤ 16) : difP f g k n s = difP f' g' k n s :=
  fo_cg n k s (fun j b _ h2 => by rw [c16_of hf (show j < 16 by omega), c16_of hg (show j < 16 by omega)])
theorem farP_cg {A : Nat → (Nat → Int) → Int} {G : Nat → Int} {k kf : Int} {m m' f f' : Nat → Int} (hf : c16 f = c16 f') (hm : c16 m = c16 m') : farP A G k m f kf = farP A G k m' f' kf := by
  unfold farP
  rw [difP_cg hf hm (by decide), difP_cg hf hm (by decide)]
theorem faP_cg {A : Nat → (Nat → Int) → Int} {G : Nat → Int} {k : Int} {m m' : Nat → Int} {F F' : Nat → Nat → Int} {K K' : Nat → Int} (hF : Feq F F') (hK : Keq K K') (hm : c16 m = c16 m') : faP A G k m F K = faP A G k m' F' K' := by
  funext f
  unfold faP
  split
  · next h => rw [farP_cg (hF _ (by omega)) hm, hK _ (by omega)]
  · rfl
theorem suP_cg {A : Nat → (Nat → Int) → Int} {G : Nat → Int} {k kf gap first : Int} {m m' f f' : Nat → Int} (hf : c16 f = c16 f') (hm : c16 m = c16 m') : suP A G k m f kf gap first = suP A G k m' f' kf gap first := by
  unfold suP
  rw [difP_cg hf hm (by decide), difP_cg hf hm (by decide)]
theorem seeP_cg {A : Nat → (Nat → Int) → Int} {G : Int → Nat → Int} {f f' : Nat → Int} (hf : c16 f = c16 f') : seeP A G f = seeP A G f' := by
  rw [← seeP_c, hf, seeP_c]
theorem pul_cg {b : Int} {o o' m m' : Nat → Int} (ho : c16 o = c16 o') (hm : c16 m = c16 m') : pulP b o m = pulP b o' m' := by
  rw [← pul_c, ho, hm, pul_c]
theorem shwP_cg {F F' : Nat → Nat → Int} {rv : Int → Int} {pull pick : Int} {m : Nat → Int} (hF : Feq F F') (hr : rvB rv) : shwP F rv pull pick m = shwP F' rv pull pick m := by
  have e : fo (shwS F rv (vIdiv pull 2)) 0 9 m = fo (shwS F' rv (vIdiv pull 2)) 0 9 m := fo_cg 9 0 m (fun j b _ _ => by
    unfold shwS
    split
    · rfl
    · next h => exact pul_cg (hF _ (by have := (hr j).resolve_left h; omega)) rfl)
  unfold shwP
  rw [e]
  dsimp only
  split
  · rfl
  · next h => exact pul_cg (hF _ (by have := (hr pick).resolve_left h; omega)) rfl
theorem nbP_cg {F F' : Nat → Nat → Int} {rv : Int → Int} {m m' : Nat → Int} {j : Nat} {part : Int} (hF : Feq F F') (hr : rvB rv) (hm : c16 m = c16 m') (hj : j + 1 < 16) : nbP F rv m j part = nbP F' rv m' j part := by
  unfold nbP
  rw [c16_of hm (show j < 16 by omega), c16_of hm hj]
  congr 1
  exact fo_cg 9 0 _ (fun k s _ _ => by
    unfold nbS
    split
    · rfl
    · next h =>
      have hb := (hr k).resolve_left h
      rw [c16_of (hF (rv k).toNat (by omega)) (show j < 16 by omega), c16_of (hF (rv k).toNat (by omega)) hj])
theorem cmP_cg {F F' : Nat → Nat → Int} {nb nb' : Nat → Int} (hF : Feq F F') (hn : ∀ p, p < 6 → nb p = nb' p ∧ 0 ≤ nb p ∧ nb p < 120) : cmP F nb = cmP F' nb' := by
  funext j
  unfold cmP
  split
  · next h =>
    obtain ⟨e, h1, h2⟩ := hn (j / 2) (by omega)
    rw [← e]
    exact c16_of (hF _ (by omega)) (by omega)
  · split
    · next h =>
      congr 1
      exact fo_cg 6 0 0 (fun q a _ hq => by
        obtain ⟨e, h1, h2⟩ := hn q (by omega)
        rw [← e, c16_of (hF _ (by omega)) h])
    · rfl
theorem cm_fo {F : Nat → Nat → Int} {nb : Nat → Int} {j : Nat} (hj : j < 16) (hF : ∀ f, f < 120 → R31 (F f)) (hn : ∀ p, p < 6 → 0 ≤ nb p ∧ nb p < 120) : ∀ n, n ≤ 6 → 0 ≤ fo (fun q a => w32 (a + F (nb q).toNat j)) 0 n 0 ∧ fo (fun q a => w32 (a + F (nb q).toNat j)) 0 n 0 ≤ 31 * (n : Int)
  | 0, _ => ⟨Int.le_refl _, by rw [fo_0]; omega⟩
  | n + 1, h => by
    have ih := cm_fo hj hF hn n (by omega)
    have h1 := hn n (by omega)
    have h2 := hF (nb n).toNat (by omega) j hj
    rw [fo_e, Nat.zero_add, w32_s (by omega)]
    omega
theorem cmP_in {F : Nat → Nat → Int} {nb : Nat → Int} (hF : ∀ f, f < 120 → R31 (F f)) (hn : ∀ p, p < 6 → 0 ≤ nb p ∧ nb p < 120) : R31 (cmP F nb) := by
  intro j hj
  unfold cmP
  by_cases h : j < 12
  · rw [if_pos h]
    have := hn (j / 2) (by omega)
    exact hF _ (by omega) j hj
  · rw [if_neg h, if_pos hj]
    have := cm_fo hj hF hn 6 (by decide)
    rw [vIdiv_pos (by omega) (by omega)]
    omega
theorem c16_cm {F : Nat → Nat → Int} {nb : Nat → Int} : c16 (cmP F nb) = cmP F nb := by
  funext j
  unfold c16
  split
  · rfl
  · next h =>
    unfold cmP
    rw [if_neg (by omega), if_neg h]
theorem dayP_c {A : Nat → (Nat → Int) → Int} {G : Int → Nat → Int} {ty : Nat → Int} : dayP A G (c16 ty) = dayP A G ty := by
  funext s
  unfold dayP
  rw [pul_c1]
/-- how many faces -/
def cntP (rv : Int → Int) : Int := fo (fun k a => if rv (k : Nat) = -1 then a else a + 1) 0 9 0
theorem cnt_in {rv : Int → Int} : ∀ (n k : Nat) (a : Int), 0 ≤ a → a ≤ fo (fun k a => if rv (k : Nat) = -1 then a else a + 1) k n a ∧ fo (fun k a => if rv (k : Nat) = -1 then a else a + 1) k n a ≤ a + n ∧ (a < fo (fun k a => if rv (k : Nat) = -1 then a else a + 1) k n a ↔ ∃ j : Nat, k ≤ j ∧ j < k + n ∧ rv j ≠ -1)
  | 0, k, a, h => by
    rw [fo_0]
    refine ⟨Int.le_refl _, by omega, ⟨fun h1 => by omega, fun ⟨j, h1, h2, _⟩ => by omega⟩⟩
  | n + 1, k, a, h => by
    rw [fo_s]
    by_cases h1 : rv (k : Int) = -1
    · rw [if_pos h1]
      obtain ⟨i1, i2, i3⟩ := cnt_in (rv := rv) n (k + 1) a h
      refine ⟨i1, by omega, ⟨fun q => ?_, fun ⟨j, q1, q2, q3⟩ => ?_⟩⟩
      · obtain ⟨j, q1, q2, q3⟩ := i3.mp q
        exact ⟨j, by omega, by omega, q3⟩
      · refine i3.mpr ⟨j, ?_, by omega, q3⟩
        by_cases hj : j = k
        · subst hj
          exact absurd h1 q3
        · omega
    · rw [if_neg h1]
      obtain ⟨i1, i2, i3⟩ := cnt_in (rv := rv) n (k + 1) (a + 1) (by omega)
      exact ⟨by omega, by omega, ⟨fun _ => ⟨k, Nat.le_refl _, by omega, h1⟩, fun _ => by omega⟩⟩
theorem cntP_pos {rv : Int → Int} : 0 < cntP rv ↔ hasF rv := by
  obtain ⟨_, _, h⟩ := cnt_in (rv := rv) 9 0 0 (Int.le_refl _)
  constructor
  · intro q
    obtain ⟨j, _, h2, h3⟩ := h.mp q
    exact ⟨j, by omega, h3⟩
  · rintro ⟨j, h2, h3⟩
    exact h.mpr ⟨j, by omega, by omega, h3⟩
theorem cntP_in {rv : Int → Int} : 0 ≤ cntP rv ∧ cntP rv ≤ 9 := by
  obtain ⟨h1, h2, _⟩ := cnt_in (rv := rv) 9 0 0 (Int.le_refl _)
  exact ⟨h1, h2⟩
section CNT
variable {d r : Nat} {I L : H3} {t : Nat → Nat}
theorem l27 (h9 : I 4 r 1 ≤ 9) : ∀ (n k : Nat) (a : Int), k + n = (I 4 r 1).toNat → 0 ≤ a → a ≤ 100 + k → Res d 27 4 [vr 4 r, vi a, vi (k : Int)] [] (mk I L t) = some (vi (fo (fun k a => if rv I r (k : Nat) = -1 then a else a + 1) k n a), mk I L t)
  | 0, k, a, hk, h0, h1 => P27_4_2 (by omega)
  | n + 1, k, a, hk, h0, h1 => by
    have e : rv I r (k : Int) = I 30 r k := by
      unfold rv
      rw [rvP_pos (by omega)]
      rfl
    rw [fo_s]
    by_cases h2 : I 30 r k = -1
    · rw [e, if_pos h2]
      refine Eq.trans (P27_4_0 (h1 := by omega) (g1 := by omega) (h2 := h2)) ?_
      rw [lem_w32k (by omega), Int.add_zero, w32_s (by omega)]
      exact l27 h9 n (k + 1) a (by omega) h0 (by omega)
    · rw [e, if_neg h2]
      refine Eq.trans (P27_4_1 (h1 := by omega) (g1 := by omega) (h2 := h2)) ?_
      rw [lem_w32k (k := k) (by omega), w32_s (x := a + 1) (by omega)]
      exact l27 h9 n (k + 1) (a + 1) (by omega) (by omega) (by omega)
theorem sp27 (hr : rwOk I r) : Cal d 27 [vr 4 r] (mk I L t) = some (vi (cntP (rv I r)), mk I L t) := by
  have h9 := hr.1
  refine Eq.trans P27_0_0 (Eq.trans (l27 h9 (I 4 r 1).toNat 0 0 (by omega) (Int.le_refl _) (by omega)) ?_)
  have e : fo (fun k a => if rv I r (k : Nat) = -1 then a else a + 1) 0 (I 4 r 1).toNat 0 = cntP (rv I r) := by
    unfold cntP
    obtain ⟨m, hm⟩ : ∃ m, 9 = (I 4 r 1).toNat + m := ⟨9 - (I 4 r 1).toNat, by omega⟩
    rw [hm, fo_add]
    symm
    refine fo_id m _ _ (fun j b h1 h2 => ?_)
    rw [if_pos]
    unfold rv
    exact rvP_neg (by omega)
  rw [e]
end CNT
