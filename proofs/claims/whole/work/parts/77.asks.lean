/-! calls that only ask -/
theorem mo_or {r : Nat} (h : moB r = true) : r = 12 ∨ (48 ≤ r ∧ r ≤ 114) := by
  unfold moB at h
  simp only [Bool.or_eq_true, Bool.and_eq_true, beq_iff_eq, Nat.ble_eq] at h
  omega
theorem sK_mo {r i c : Nat} (k : sK r i c = false) : r = 12 ∨ (48 ≤ r ∧ r ≤ 114) := mo_or (by
  unfold sK at k
  cases q : moB r with
  | true => rfl
  | false => rw [q] at k; cases k)
theorem sT_K {I J : H3} (h : Fr sT I J) : Fr sK I J := h.mo (fun r i c k => by
  have := sK_mo k
  unfold sT
  simp only [Bool.or_eq_false_iff, Bool.and_eq_false_iff, beq_eq_false_iff_ne]
  omega)
def Both (zc zm : Nat) (as : List MV) : Prop := ∀ (d : Nat) (I L : H3) (t : Nat → Nat), Rel I t →
  ∃ (x : Int) (J L1 K L2 : H3) (t1 : Nat → Nat), Cal (d + 50) zc (vr 11 0 :: as) (mk I L t) = some (vi x, mk J L1 t1) ∧ Cal (d + 50) zm (vr 12 0 :: as) (mk J L1 t1) = some (vi x, mk K L2 t1) ∧ Rel K t1
def BothL (zc zm : Nat) (as : List MV) : Prop := ∀ (d : Nat) (I L : H3) (t : Nat → Nat), Rel I t →
  ∃ (x : Int) (J L1 K L2 : H3) (t1 : Nat → Nat), Cal (d + 50) zc (vr 11 0 :: as) (mk I L t) = some (vl x, mk J L1 t1) ∧ Cal (d + 50) zm (vr 12 0 :: as) (mk J L1 t1) = some (vl x, mk K L2 t1) ∧ Rel K t1
theorem both_q {zc zm : Nat} {as : List MV} (V : H3 → (Nat → Nat) → Int) (W : H3 → Int)
    (hc : ∀ (d : Nat) (I L : H3) (t : Nat → Nat), Rel I t → ∃ J L1, Cal (d + 50) zc (vr 11 0 :: as) (mk I L t) = some (vi (V I t), mk J L1 t) ∧ Fr sQ I J ∧ Fr sK I J)
    (hm : ∀ (d : Nat) (I L : H3) (t : Nat → Nat), Rel I t → ∃ J, Cal (d + 50) zm (vr 12 0 :: as) (mk I L t) = some (vi (W I), mk J L t) ∧ Fr sQ I J)
    (he : ∀ I t, Rel I t → V I t = W I) (ho : ∀ I J, W (ov I J) = W I) : Both zc zm as := fun d I L t h => by
  obtain ⟨J, L1, c, F, G⟩ := hc d I L t h
  obtain ⟨K, c2, F2⟩ := hm d J L1 t (q_rel F h)
  refine ⟨V I t, J, L1, K, L1, t, c, ?_, q_rel (F.tr F2) h⟩
  rw [c2, he I t h, ← ho I J, ← ov_of G]
theorem both_qL {zc zm : Nat} {as : List MV} (V : H3 → (Nat → Nat) → Int) (W : H3 → Int)
    (hc : ∀ (d : Nat) (I L : H3) (t : Nat → Nat), Rel I t → ∃ J L1, Cal (d + 50) zc (vr 11 0 :: as) (mk I L t) = some (vl (V I t), mk J L1 t) ∧ Fr sQ I J ∧ Fr sK I J)
    (hm : ∀ (d : Nat) (I L : H3) (t : Nat → Nat), Rel I t → ∃ J, Cal (d + 50) zm (vr 12 0 :: as) (mk I L t) = some (vl (W I), mk J L t) ∧ Fr sQ I J)
    (he : ∀ I t, Rel I t → V I t = W I) (ho : ∀ I J, W (ov I J) = W I) : BothL zc zm as := fun d I L t h => by
  obtain ⟨J, L1, c, F, G⟩ := hc d I L t h
  obtain ⟨K, c2, F2⟩ := hm d J L1 t (q_rel F h)
  refine ⟨V I t, J, L1, K, L1, t, c, ?_, q_rel (F.tr F2) h⟩
  rw [c2, he I t h, ← ho I J, ← ov_of G]
/-! tried -/
theorem triedV_cg {sh sh' : Nat → Nat → Int → Int} {n i k what : Int} (h : ∀ i k : Nat, (i : Int) < n → k < 4 → sh i k what = sh' i k what) : triedV sh n i k what = triedV sh' n i k what := by
  unfold triedV
  split
  · rfl
  · next q =>
    rw [h _ _ (by omega) (by omega)]
theorem both_tried (i k what : Int) : Both 96 230 [vi i, vi k, vi what] := by
  refine both_q (fun I t => triedV (fun i k => shW I t i (t (5 + k))) (I 11 0 14) i k what) (fun I => triedV (mshW I) (I 12 0 4) i k what) (fun d I L t h => ?_) (fun d I L t h => ?_) (fun I t h => ?_) (fun I J => rfl)
  · obtain ⟨J, c, F⟩ := sp96 (d := d + 44) (L := L) h.lk h.ys i k what
    exact ⟨J, L, c, sT_q F, sT_K F⟩
  · obtain ⟨J, c, F⟩ := sp230 (d := d + 45) (L := L) (t := t) h.ml i k what
    exact ⟨J, c, sMs_q F⟩
  · show triedV (fun i k => shW I t i (t (5 + k))) (I 11 0 14) i k what = triedV (mshW I) (I 12 0 4) i k what
    rw [h.pO.1]
    exact triedV_cg (fun i k hi hk => (h.esh hi hk what).symm)
/-! replayed, spoilt -/
theorem Rel.eer {I : H3} {t : Nat → Nat} (h : Rel I t) (j i : Int) : erM I j i ↔ erD I j i := by
  have v := h.pV
  unfold erM erD
  rw [v.1]
  constructor
  · rintro ⟨a, b, c, e⟩
    rw [(v.2.2 j.toNat (by omega)).1.1, (v.2.2 i.toNat (by omega)).1.1] at e
    exact ⟨a, b, c, e⟩
  · rintro ⟨a, b, c, e⟩
    refine ⟨a, b, c, ?_⟩
    rw [(v.2.2 j.toNat (by omega)).1.1, (v.2.2 i.toNat (by omega)).1.1]
    exact e
theorem rpV_cg {er er' : Int → Int → Prop} {dec : ∀ j i, Decidable (er j i)} {dec' : ∀ j i, Decidable (er' j i)} {rp rp' : Nat → Int → Int} {n : Int} {kind kind' : Nat → Int} {i j : Int} (he : ∀ j i, er j i ↔ er' j i) (hk : ∀ i : Nat, (i : Int) < n → kind i = kind' i) (hr : ∀ (i : Nat) (j : Int), (i : Int) < n → kind i ≠ 2 → rp i j = rp' i j) : rpV er dec rp n kind i j = rpV er' dec' rp' n kind' i j := by
  unfold rpV
  by_cases a : 0 ≤ i ∧ i < n
  · rw [← hk i.toNat (by omega)]
    by_cases b : kind i.toNat = 2
    · rw [if_pos (Or.inr b), if_pos (Or.inr b)]
    · have nb : ¬ (¬ (0 ≤ i ∧ i < n) ∨ kind i.toNat = 2) := fun q => q.elim (fun q => q a) b
      rw [if_neg nb, if_neg nb, hr i.toNat j (by omega) b, hr i.toNat (-1) (by omega) b]
      split
      · rfl
      · by_cases c : er j i
        · rw [if_pos c, if_pos ((he j i).mp c)]
        · rw [if_neg c, if_neg (fun q => c ((he j i).mpr q))]
  · rw [if_pos (Or.inl a), if_pos (Or.inl a)]
theorem spV_cg {er er' : Int → Int → Prop} {dec : ∀ j i, Decidable (er j i)} {dec' : ∀ j i, Decidable (er' j i)} {rp rp' : Nat → Int → Int} {n : Int} {kind kind' : Nat → Int} {i : Int} (he : ∀ j i, er j i ↔ er' j i) (hk : ∀ i : Nat, (i : Int) < n → kind i = kind' i) (hr : ∀ (i : Nat) (j : Int), (i : Int) < n → kind i ≠ 2 → rp i j = rp' i j) : spV er dec rp n kind i = spV er' dec' rp' n kind' i := by
  unfold spV
  by_cases a : 0 ≤ i ∧ i < n
  · rw [← hk i.toNat (by omega)]
    by_cases b : kind i.toNat = 2
    · rw [if_pos (Or.inr b), if_pos (Or.inr b)]
    · have nb : ¬ (¬ (0 ≤ i ∧ i < n) ∨ kind i.toNat = 2) := fun q => q.elim (fun q => q a) b
      rw [if_neg nb, if_neg nb]
      refine congrArg Prod.fst (fo_cg _ 0 _ (fun j s _ hj => ?_))
      unfold spS
      simp only [hr i.toNat j (by omega) b, hr i.toNat (-1) (by omega) b]
      by_cases c : er j i
      · rw [if_pos c, if_pos ((he j i).mp c)]
      · rw [if_neg c, if_neg (fun q => c ((he j i).mpr q))]
  · rw [if_pos (Or.inl a), if_pos (Or.inl a)]
theorem Rel.kd {I : H3} {t : Nat → Nat} (h : Rel I t) : ∀ i : Nat, (i : Int) < I 12 0 3 → 0 ≤ I 95 0 i ∧ I 95 0 i ≤ 2 := fun i hi => by
  have v := h.pV
  rw [v.1] at hi
  have := (v.2.2 i hi).2.1
  omega
theorem both_replayed (i j : Int) : Both 98 238 [vi i, vi j] := by
  refine both_q (fun I t => rpV (erD I) (fun _ _ => Classical.propDecidable _) (rpW I t) (I 11 0 13) (fun i => I 6 i 2) i j) (fun I => rpV (erM I) (fun _ _ => Classical.propDecidable _) (mrpW I) (I 12 0 3) (fun i => I 95 0 i) i j) (fun d I L t h => ?_) (fun d I L t h => ?_) (fun I t h => ?_) (fun I J => rfl)
  · obtain ⟨J, c, F⟩ := sp98 (d := d + 43) (L := L) h.rp (fun _ _ => Classical.propDecidable _) i j
    exact ⟨J, L, c, sT_q F, sT_K F⟩
  · obtain ⟨J, c, F⟩ := sp238 (d := d + 44) (L := L) (t := t) h.mrp h.kd (fun _ _ => Classical.propDecidable _) i j
    exact ⟨J, c, sMs_q F⟩
  · have v := h.pV
    show rpV (erD I) _ (rpW I t) (I 11 0 13) (fun i => I 6 i 2) i j = rpV (erM I) _ (mrpW I) (I 12 0 3) (fun i => I 95 0 i) i j
    rw [v.1]
    exact rpV_cg (fun j i => (h.eer j i).symm) (fun i hi => (v.2.2 i hi).2.1.1.symm) (fun i j hi hk => (h.erp j hi hk).symm)
theorem both_spoilt (i : Int) : Both 99 239 [vi i] := by
  refine both_q (fun I t => spV (erD I) (fun _ _ => Classical.propDecidable _) (rpW I t) (I 11 0 13) (fun i => I 6 i 2) i) (fun I => spV (erM I) (fun _ _ => Classical.propDecidable _) (mrpW I) (I 12 0 3) (fun i => I 95 0 i) i) (fun d I L t h => ?_) (fun d I L t h => ?_) (fun I t h => ?_) (fun I J => rfl)
  · obtain ⟨J, c, F⟩ := sp99 (d := d + 43) (L := L) h.rp (fun _ _ => Classical.propDecidable _) i
    exact ⟨J, L, c, sT_q F, sT_K F⟩
  · obtain ⟨J, c, F⟩ := sp239 (d := d + 44) (L := L) (t := t) h.mrp h.kd (fun _ _ => Classical.propDecidable _) i
    exact ⟨J, c, sMs_q F⟩
  · have v := h.pV
    show spV (erD I) _ (rpW I t) (I 11 0 13) (fun i => I 6 i 2) i = spV (erM I) _ (mrpW I) (I 12 0 3) (fun i => I 95 0 i) i
    rw [v.1]
    exact spV_cg (fun j i => (h.eer j i).symm) (fun i hi => (v.2.2 i hi).2.1.1.symm) (fun i j hi hk => (h.erp j hi hk).symm)
/-! both -/
theorem boV_cg {nw b : Int} {od od' : Nat → Nat → Nat → Int} {rvs rvs' : Nat → Int → Int} {v w r p what : Int} (ho : ∀ w r : Nat, (w : Int) < nw → r < 6 → od w r = od' w r) (hr : ∀ r, r < 6 → rvs r = rvs' r) : boV nw b od rvs v w r p what = boV nw b od' rvs' v w r p what := by
  unfold boV
  by_cases a : ¬ (0 ≤ v ∧ v < nw) ∨ ¬ (0 ≤ w ∧ w < nw) ∨ v = w
  · rw [if_pos a, if_pos a]
  · rw [if_neg a, if_neg a]
    by_cases c : 0 ≤ r ∧ r < 6
    · rw [hr r.toNat (by omega), ho v.toNat r.toNat (by omega) (by omega), ho w.toNat r.toNat (by omega) (by omega)]
    · have e1 : what ≠ 1 ∨ ¬ (0 ≤ r ∧ r < 6) ∨ rvs r.toNat p = -1 := Or.inr (Or.inl c)
      have e2 : what ≠ 1 ∨ ¬ (0 ≤ r ∧ r < 6) ∨ rvs' r.toNat p = -1 := Or.inr (Or.inl c)
      rw [if_pos e1, if_pos e2]
theorem Rel.ews {I : H3} {t : Nat → Nat} (h : Rel I t) (v w : Int) : wsM I v w ↔ wsC I v w := by
  have V := h.pV
  unfold wsM wsC wsP
  rw [V.1]
  constructor
  · rintro ⟨i, a, b, p, c, e, f⟩
    have x := h.vw a
    have y := (V.2.2 i a)
    have z := y.2.2.2.2.2.2.2.2.1.bd (p : Int)
    rw [x.2.2] at e f
    have q := z.resolve_left e
    have mk' := h.pF.2.2.2 (rv I (6 + i) p).toNat (by show (((rvP (I 4 (6 + i) 1) (I 30 (6 + i)) p).toNat : Nat) : Int) < _; omega)
    exact ⟨i, a, y.1.1.symm.trans b, p, c, e, mk'.symm.trans f⟩
  · rintro ⟨i, a, b, p, c, e, f⟩
    have x := h.vw a
    have y := (V.2.2 i a)
    have z := y.2.2.2.2.2.2.2.2.1.bd (p : Int)
    have q := z.resolve_left e
    have mk' := h.pF.2.2.2 (rv I (6 + i) p).toNat (by show (((rvP (I 4 (6 + i) 1) (I 30 (6 + i)) p).toNat : Nat) : Int) < _; omega)
    refine ⟨i, a, by rw [y.1.1]; exact b, p, c, ?_, ?_⟩
    · rw [x.2.2]
      exact e
    · rw [x.2.2, mk']
      exact f
theorem both_both (v w r p what : Int) : Both 100 241 [vi v, vi w, vi r, vi p, vi what] := fun d I L t h => by
  obtain ⟨b, b01, bb, J, c, F⟩ := sp100 (d := d + 45) (L := L) h.rp h.rs v w r p what
  have hJ := q_rel (sT_q F) h
  obtain ⟨b', b01', bb', K, c', F'⟩ := sp241 (d := d + 45) (L := L) (t := t) hJ.mrp hJ.rm v w r p what
  have e1 : wsM J = wsM I := by
    rw [ov_of (sT_K F)]
    rfl
  rw [e1, h.ews, h.ews, ← bb] at bb'
  have eb : b' = b := by
    rcases b01 with q | q <;> rcases b01' with q' | q' <;> subst q <;> subst q'
    · rfl
    · exact absurd (bb'.mp rfl) (by decide)
    · exact absurd (bb'.mpr rfl) (by decide)
    · rfl
  refine ⟨_, J, L, K, L, t, c, ?_, q_rel ((sT_q F).tr (sMs_q F')) h⟩
  rw [c', eb]
  have e2 : boV (J 12 0 2) b (fun w r => modW J w (mrw J r) false (-1) 0) (mrw J) v w r p what = boV (I 12 0 2) b (fun w r => modW I w (mrw I r) false (-1) 0) (mrw I) v w r p what := by
    rw [ov_of (sT_K F)]
    rfl
  rw [e2, h.pM.1, boV_cg (od' := fun w r => odW I t w (rv I r) false (-1) 0) (rvs' := rv I) (fun w r hw hr => by rw [h.eod hw, (h.rw' hr).2.2]) (fun r hr => (h.rw' hr).2.2)]
/-! way -/
theorem wayV_cg {S S' : Nat → Int → Int} {B B' : Nat → Int → Int → Int} {M M' : Nat → Int → Int} {k what be : Int} (h1 : ∀ k, k < 4 → S k = S' k) (h2 : ∀ k, k < 4 → B k = B' k) (h3 : ∀ k, k < 4 → M k = M' k) : wayV S B M k what be = wayV S' B' M' k what be := by
  unfold wayV
  by_cases a : 0 ≤ k ∧ k < 4
  · rw [h1 k.toNat (by omega), h2 k.toNat (by omega), h3 k.toNat (by omega)]
  · rw [if_pos a, if_pos a]
theorem both_way (k what : Int) : BothL 97 235 [vi k, vi what] := by
  have ex : ∀ I t, ∃ be : Int, (be = 0 ∨ be = 1) ∧ (be = 1 ↔ ∃ o, o < 4 ∧ bett (fun k => sumW I t (t (5 + k)) 0) (fun k => sumW I t (t (5 + k)) 1) k.toNat o) := fun I t => by
    by_cases q : ∃ o, o < 4 ∧ bett (fun k => sumW I t (t (5 + k)) 0) (fun k => sumW I t (t (5 + k)) 1) k.toNat o
    · exact ⟨1, Or.inr rfl, ⟨fun _ => q, fun _ => rfl⟩⟩
    · exact ⟨0, Or.inl rfl, ⟨fun e => (by cases e), fun e => absurd e q⟩⟩
  intro d I L t h
  obtain ⟨be, b01, bb⟩ := ex I t
  obtain ⟨J, L', c, F⟩ := sp97 (d := d + 42) (L := L) h.lk h.ys k what be b01 bb
  have hJ := q_rel (sT_q F) h
  have e1 : msumW J = msumW I := by
    rw [ov_of (sT_K F)]
    rfl
  have e2 : mallW J = mallW I := by
    rw [ov_of (sT_K F)]
    rfl
  have e3 : mmsW J = mmsW I := by
    rw [ov_of (sT_K F)]
    rfl
  by_cases hk : 0 ≤ k ∧ k < 4
  · have bbb : be = 1 ↔ ∃ o, o < 4 ∧ bett (fun o => msumW J o 0) (fun o => msumW J o 1) k.toNat o := by
      rw [bb, e1]
      constructor
      · rintro ⟨o, ho, hb⟩
        refine ⟨o, ho, ?_⟩
        unfold bett at hb ⊢
        dsimp only at hb ⊢
        rw [h.esum ho, h.esum ho, h.esum (show k.toNat < 4 by omega), h.esum (show k.toNat < 4 by omega)]
        exact hb
      · rintro ⟨o, ho, hb⟩
        refine ⟨o, ho, ?_⟩
        unfold bett at hb ⊢
        dsimp only at hb ⊢
        rw [h.esum ho, h.esum ho, h.esum (show k.toNat < 4 by omega), h.esum (show k.toNat < 4 by omega)] at hb
        exact hb
    obtain ⟨K, c', F'⟩ := sp235 (d := d + 43) (L := L') (t := t) hJ.ml k what be b01 bbb
    refine ⟨_, J, L', K, L', t, c, ?_, q_rel ((sT_q F).tr (sMs_q F')) h⟩
    rw [c', e1, e2, e3, wayV_cg (fun k hk => funext fun what => h.esum hk what) (fun k hk => funext fun bin => funext fun right => h.eall hk bin right) (fun k hk => funext fun own => h.ems hk own)]
  · obtain ⟨be', b01', bb'⟩ : ∃ be : Int, (be = 0 ∨ be = 1) ∧ (be = 1 ↔ ∃ o, o < 4 ∧ bett (fun o => msumW J o 0) (fun o => msumW J o 1) k.toNat o) := by
      by_cases q : ∃ o, o < 4 ∧ bett (fun o => msumW J o 0) (fun o => msumW J o 1) k.toNat o
      · exact ⟨1, Or.inr rfl, ⟨fun _ => q, fun _ => rfl⟩⟩
      · exact ⟨0, Or.inl rfl, ⟨fun e => (by cases e), fun e => absurd e q⟩⟩
    obtain ⟨K, c', F'⟩ := sp235 (d := d + 43) (L := L') (t := t) hJ.ml k what be' b01' bb'
    refine ⟨_, J, L', K, L', t, c, ?_, q_rel ((sT_q F).tr (sMs_q F')) h⟩
    rw [c']
    unfold wayV
    rw [if_pos hk, if_pos hk]
