/-! locals, cells, the heap of the small machine in the machine's -/
def LV (G : GG) (k : Nat) (lsr : Array Slot) (ls : List MV) (n : Nat) : Prop := ls.length = n ∧ lsr.size = n ∧ lv_wf lsr ∧ ∀ (i : Nat) (v : MV), ls[i]? = some v → v ≠ vx → lsr[i]? = some (Slot.val (tv G v)) ∧ okv G k v
def lvl (G : GG) (ls : List MV) : List (Nat × Value) := ls.zipIdx.filterMap (fun q => match q.1 with
  | .inr (.inr (.inr _)) => none
  | v => some (q.2, tv G v))
theorem lvl_mem {G : GG} {ls : List MV} {q : Nat × Value} : q ∈ lvl G ls ↔ ∃ v, ls[q.1]? = some v ∧ v ≠ vx ∧ q.2 = tv G v := by
  obtain ⟨i, w⟩ := q
  unfold lvl
  rw [List.mem_filterMap]
  constructor
  · rintro ⟨⟨v, j⟩, hm, he⟩
    have hj := List.mem_zipIdx_iff_getElem?.mp hm
    match v, he with
    | .inl x, he => cases he; exact ⟨.inl x, hj, (fun e => by cases e), rfl⟩
    | .inr (.inl x), he => cases he; exact ⟨.inr (.inl x), hj, (fun e => by cases e), rfl⟩
    | .inr (.inr (.inl x)), he => cases he; exact ⟨.inr (.inr (.inl x)), hj, (fun e => by cases e), rfl⟩
  · rintro ⟨v, hv, hx, he⟩
    refine ⟨(v, i), List.mem_zipIdx_iff_getElem?.mpr hv, ?_⟩
    dsimp only at he
    subst he
    match v, hx with
    | .inl x, _ => rfl
    | .inr (.inl x), _ => rfl
    | .inr (.inr (.inl x)), _ => rfl
    | .inr (.inr (.inr ())), hx => exact absurd rfl hx
theorem LV.has {G : GG} {k n : Nat} {lsr : Array Slot} {ls : List MV} (h : LV G k lsr ls n) : lv_has lsr n (lvl G ls) :=
  ⟨h.2.1, h.2.2.1, fun q hq => by
    obtain ⟨v, h1, h2, h3⟩ := lvl_mem.mp hq
    rw [h3]
    exact (h.2.2.2 _ _ h1 h2).1⟩
theorem LV.mono {G : GG} {k k' n : Nat} {lsr : Array Slot} {ls : List MV} (h : LV G k lsr ls n) (hk : k ≤ k') : LV G k' lsr ls n :=
  ⟨h.1, h.2.1, h.2.2.1, fun i v h1 h2 => ⟨(h.2.2.2 i v h1 h2).1, (h.2.2.2 i v h1 h2).2.mono hk⟩⟩
theorem lset_len (v : MV) : ∀ (ls : List MV) (j : Nat), (lset ls j v).length = ls.length := by
  intro ls j
  fun_induction lset ls j v <;> simp_all
theorem lset_get (v : MV) : ∀ (ls : List MV) (j : Nat), j < ls.length → ∀ (i : Nat) (w : MV), (lset ls j v)[i]? = some w → (i = j ∧ w = v) ∨ (i ≠ j ∧ ls[i]? = some w ∧ ¬ (i + 1 = j ∧ ∃ x, w = vl x)) ∨ (i + 1 = j ∧ w = vx) := by
  intro ls j
  fun_induction lset ls j v with
  | case1 j => intro hj; simp at hj
  | case2 a r =>
    intro _ i w h
    cases i with
    | zero => left; simp at h; exact ⟨rfl, h.symm⟩
    | succ i => right; left; exact ⟨by omega, h, fun z => by omega⟩
  | case3 x a r =>
    intro _ i w h
    match i, h with
    | 0, h => right; right; simp at h; exact ⟨rfl, h.symm⟩
    | 1, h => left; simp at h; exact ⟨rfl, h.symm⟩
    | i + 2, h => right; left; exact ⟨by omega, h, fun z => by omega⟩
  | case4 a r j hne ih =>
    intro hj i w h
    cases i with
    | zero =>
      simp at h
      subst h
      right; left
      refine ⟨by omega, rfl, ?_⟩
      rintro ⟨e, x, rfl⟩
      have hj0 : j = 0 := by omega
      subst hj0
      cases r with
      | nil => simp at hj
      | cons b r => exact hne x b r rfl rfl rfl
    | succ i =>
      have h' : (lset r j v)[i]? = some w := h
      rcases ih (by simpa using hj) i w h' with ⟨e1, e2⟩ | ⟨e1, e2, e3⟩ | ⟨e1, e2⟩
      · left; exact ⟨by omega, e2⟩
      · right; left; exact ⟨by omega, e2, fun z => e3 ⟨by omega, z.2⟩⟩
      · right; right; exact ⟨by omega, e2⟩
theorem tv_cat {G : GG} {v : MV} (h : c1 v = true) : (tv G v).category = 1 := by
  match v, h with
  | .inl x, _ => rfl
  | .inr (.inr (.inl (some p))), _ => rfl
  | .inr (.inr (.inl none)), _ => rfl
theorem tv_cat2 {G : GG} {v : MV} (h : (tv G v).category = 2) : ∃ x, v = vl x := by
  match v, h with
  | .inr (.inl x), _ => exact ⟨x, rfl⟩
  | .inl x, h => exact absurd (show (1 : Nat) = 2 from h) (by decide)
  | .inr (.inr (.inl (some p))), h => exact absurd (show (1 : Nat) = 2 from h) (by decide)
  | .inr (.inr (.inl none)), h => exact absurd (show (1 : Nat) = 2 from h) (by decide)
  | .inr (.inr (.inr ())), h => exact absurd (show (1 : Nat) = 2 from h) (by decide)
theorem LV.set1 {G : GG} {k n j : Nat} {lsr lsr' : Array Slot} {ls : List MV} {v : MV} (h : LV G k lsr ls n) (hj : j < n) (hv : v ≠ vx) (ok : okv G k v)
    (h' : lv_has lsr' n ((j, tv G v) :: (lvl G ls).filter (fun q => !(q.1 == j) && !(q.1 + 1 == j && q.2.category == 2)))) : LV G k lsr' (lset ls j v) n := by
  refine ⟨by rw [lset_len]; exact h.1, h'.1, h'.2.1, fun i w hi hw => ?_⟩
  rcases lset_get v ls j (by rw [h.1]; exact hj) i w hi with ⟨rfl, rfl⟩ | ⟨e1, e2, e3⟩ | ⟨e1, e2⟩
  · exact ⟨h'.2.2 (i, tv G w) List.mem_cons_self, ok⟩
  · refine ⟨h'.2.2 (i, tv G w) (List.mem_cons_of_mem _ (List.mem_filter.mpr ⟨lvl_mem.mpr ⟨w, e2, hw, rfl⟩, ?_⟩)), (h.2.2.2 i w e2 hw).2⟩
    have h1 : (i == j) = false := by simpa using e1
    have h2 : (i + 1 == j && (tv G w).category == 2) = false := by
      rw [Bool.and_eq_false_iff]
      by_cases q : i + 1 = j
      · right
        rw [beq_eq_false_iff_ne]
        intro z
        exact e3 ⟨q, tv_cat2 z⟩
      · left; simpa using q
    simp [h1, h2]
  · exact absurd e2 hw
theorem LV.set2 {G : GG} {k n j : Nat} {lsr lsr' : Array Slot} {ls : List MV} {x : Int} (h : LV G k lsr ls n) (hj : j + 1 < n) (ok : w64 x = x)
    (h' : lv_has lsr' n ((j, .long (Int64.ofInt x)) :: (lvl G ls).filter (fun q => !(q.1 == j) && (!(q.1 == j + 1) && !(q.1 + 1 == j && q.2.category == 2))))) : LV G k lsr' (lset (lset ls (j + 1) vx) j (vl x)) n := by
  refine ⟨by rw [lset_len, lset_len]; exact h.1, h'.1, h'.2.1, fun i w hi hw => ?_⟩
  rcases lset_get (vl x) (lset ls (j + 1) vx) j (by rw [lset_len, h.1]; omega) i w hi with ⟨rfl, rfl⟩ | ⟨e1, e2, e3⟩ | ⟨e1, e2⟩
  · exact ⟨h'.2.2 (i, .long (Int64.ofInt x)) List.mem_cons_self, ok⟩
  · rcases lset_get vx ls (j + 1) (by rw [h.1]; exact hj) i w e2 with ⟨-, q⟩ | ⟨g1, g2, g3⟩ | ⟨-, q⟩
    · exact absurd q hw
    · refine ⟨h'.2.2 (i, tv G w) (List.mem_cons_of_mem _ (List.mem_filter.mpr ⟨lvl_mem.mpr ⟨w, g2, hw, rfl⟩, ?_⟩)), (h.2.2.2 i w g2 hw).2⟩
      have h1 : (i == j) = false := by simpa using e1
      have h3 : (i == j + 1) = false := by simpa using g1
      have h2 : (i + 1 == j && (tv G w).category == 2) = false := by
        rw [Bool.and_eq_false_iff]
        by_cases q : i + 1 = j
        · right
          rw [beq_eq_false_iff_ne]
          intro z
          exact e3 ⟨q, tv_cat2 z⟩
        · left; simpa using q
      simp [h1, h2, h3]
    · exact absurd q hw
  · exact absurd e2 hw
theorem lg_sl_one : ∀ (vs : List Value), (∀ v ∈ vs, v.category = 1) → lg_sl vs = vs.map Slot.val
  | [], _ => rfl
  | v :: vs, h => by
    have h1 : ¬ v.category = 2 := by rw [h v List.mem_cons_self]; decide
    have ih := lg_sl_one vs (fun w hw => h w (List.mem_cons_of_mem _ hw))
    unfold lg_sl at ih ⊢
    rw [List.flatMap_cons, ih, if_neg h1]
    rfl
theorem lv_args_one : ∀ (vs : List Value) (k i : Nat) (v : Value), (∀ v ∈ vs, v.category = 1) → vs[i]? = some v → (k + i, v) ∈ lv_args k vs
  | [], _, _, _, _, h => by simp at h
  | a :: vs, k, i, v, hc, h => by
    have h1 : ¬ a.category = 2 := by rw [hc a List.mem_cons_self]; decide
    unfold lv_args
    rw [if_neg h1]
    cases i with
    | zero => simp at h; subst h; exact List.mem_cons_self
    | succ i =>
      have := lv_args_one vs (k + 1) i v (fun w hw => hc w (List.mem_cons_of_mem _ hw)) (by simpa using h)
      rw [show k + (i + 1) = k + 1 + i by omega]
      exact List.mem_cons_of_mem _ this
theorem LV.entry {G : GG} {k : Nat} {as : List MV} {z : Nat} (hc : as.all c1 = true) (hn : as.length ≤ mxl z) (ok : ∀ v ∈ as, okv G k v) :
    LV G k ((lg_sl (as.map (tv G)) ++ List.replicate (mxl z - (lg_sl (as.map (tv G))).length) Slot.unset).toArray) (ini z as) (mxl z) := by
  have hcat : ∀ v ∈ as.map (tv G), v.category = 1 := by
    intro v hv
    obtain ⟨w, hw, rfl⟩ := List.mem_map.mp hv
    exact tv_cat (List.all_eq_true.mp hc w hw)
  have hl := lv_entry (as.map (tv G)) (n := mxl z) (by rw [lg_sl_one _ hcat]; simpa using hn)
  refine ⟨by simp [ini]; omega, hl.1, hl.2.1, fun i v hi hv => ?_⟩
  have hi2 : as[i]? = some v := by
    unfold ini at hi
    by_cases hlt : i < as.length
    · rwa [List.getElem?_append_left hlt] at hi
    · rw [List.getElem?_append_right (by omega)] at hi
      have := List.mem_replicate.mp (List.mem_of_getElem? hi)
      exact absurd this.2 hv
  refine ⟨?_, ok v (List.mem_of_getElem? hi2)⟩
  have := hl.2.2 (0 + i, tv G v) (lv_args_one _ 0 i _ hcat (by rw [List.getElem?_map, hi2]; rfl))
  simpa using this
-- cells
def ekk (e : Nat) : Nat := if e = 1 then 2 else if 9 ≤ e then 3 else 0
def ety (e : Nat) : FieldType := if e = 0 then .int else if e = 1 then .long else if e = 2 then .boolean else if e = 9 then .array .int else .object (cst (e - 10))
def eO (e : Nat) : Bool := e == 9 || aoC (e - 10)
theorem shT_eO : shT.all (fun q => match q with | .inr (e, _) => decide (e < 9) || decide (23 ≤ e) || eO e | _ => true) = true := by decide +kernel
theorem eO_aek {r i : Nat} (h9 : 9 ≤ aek r i) (h23 : aek r i < 23) : eO (aek r i) = true := by
  unfold aek sh at h9 h23 ⊢
  by_cases hr : r = rSCR
  · rw [if_pos hr] at h9
    have h9 : 9 ≤ 0 := h9
    omega
  · rw [if_neg hr] at h9 h23 ⊢
    by_cases hlt : r < shT.length
    · have hm : shT.getD r (.inr (7, 0)) ∈ shT := by
        rw [List.getD_eq_getElem?_getD, List.getElem?_eq_getElem hlt]
        exact List.getElem_mem hlt
      have := List.all_eq_true.mp shT_eO _ hm
      generalize shT.getD r (.inr (7, 0)) = v at *
      match v, h9, h23, this with
      | .inl _, h9, _, _ =>
        have h9 : 9 ≤ 0 := h9
        omega
      | .inr (e, _), h9, h23, this =>
        have h9 : 9 ≤ e := h9
        have h23 : e < 23 := h23
        simp only [Bool.or_eq_true, decide_eq_true_eq] at this
        rcases this with (h | h) | h
        · omega
        · omega
        · exact h
    · rw [List.getD_eq_getElem?_getD, List.getElem?_eq_none (by omega)] at h9
      have h9 : 9 ≤ 7 := h9
      omega
def okE (e : Nat) : Prop := e = 0 ∨ e = 1 ∨ e = 2 ∨ (9 ≤ e ∧ e < 23 ∧ eO e = true)
def cell1 (G : GG) (h : MS) (p : MR) (a : Nat) (H : Heap) : Prop := match sh p.1 p.2 with
  | .inl c => t_OB a (gC G c) (cN c) (gI G c) H (fun s => tv G (rdk h p.1 p.2 s (ftk c s)))
  | .inr (e, n) => H[a]? = some (arrV (gA G e) n (fun s => tv G (rdk h p.1 p.2 s (ekk e))))
def sz (p : MR) : Nat := match sh p.1 p.2 with
  | .inl c => cN c
  | .inr (_, n) => n
def sl : Nat → Nat
  | 0 => 0
  | k + 1 => sl k + sz (nm k)
theorem sl_mono {a b : Nat} (h : a ≤ b) : sl a ≤ sl b := by
  induction h with
  | refl => exact Nat.le_refl _
  | step _ ih => exact Nat.le_trans ih (Nat.le_add_right _ _)
def Rep (G : GG) (h : MS) (H : Heap) : Prop :=
  H.size = gB G + h.2.2.2 ∧ (∀ j, j < h.2.2.2 → cell1 G h (nm j) (gB G + j) H) ∧ (∀ j, h.2.2.2 ≤ j → ∀ s, h.1 (nm j).1 (nm j).2 s = 0 ∧ h.2.1 (nm j).1 (nm j).2 s = 0 ∧ (s < sz (nm j) → h.2.2.1 (nm j).1 (nm j).2 s = none)) ∧
  ∀ r i s, w32 (h.1 r i s) = h.1 r i s ∧ w64 (h.2.1 r i s) = h.2.1 r i s ∧ ∀ p, vld G h.2.2.2 (r, i) → isS r = false → s < sz (r, i) → h.2.2.1 r i s = some p → vld G h.2.2.2 p
theorem cell1.kept {G : GG} {h h' : MS} {p : MR} {a : Nat} {H H' : Heap} (h0 : cell1 G h p a H) (he : ∀ s, h'.1 p.1 p.2 s = h.1 p.1 p.2 s ∧ h'.2.1 p.1 p.2 s = h.2.1 p.1 p.2 s ∧ h'.2.2.1 p.1 p.2 s = h.2.2.1 p.1 p.2 s) (hq : H'[a]? = H[a]?) : cell1 G h' p a H' := by
  have hr : ∀ s t, rdk h' p.1 p.2 s t = rdk h p.1 p.2 s t := by
    intro s t
    obtain ⟨h1, h2, h3⟩ := he s
    unfold rdk
    rw [h1, h2, h3]
  unfold cell1 at h0 ⊢
  split at h0
  · obtain ⟨cell, q1, q2, q3, q4⟩ := h0
    exact ⟨cell, by rw [hq]; exact q1, q2, q3, fun k hk => (q4 k hk).trans (by show some (tv G (rdk h p.1 p.2 k _)) = some (tv G (rdk h' p.1 p.2 k _)); rw [hr])⟩
  · rw [hq, h0]
    congr 2
    funext s
    rw [hr]
/-- a write at a cell that is there -/
theorem Rep.write {G : GG} {h h' : MS} {H H' : Heap} (R : Rep G h H) {p : MR} (hv : vld G h.2.2.2 p) (hs : isS p.1 = false) (hk : h'.2.2.2 = h.2.2.2)
    (he : ∀ r i s, (r, i) ≠ p → h'.1 r i s = h.1 r i s ∧ h'.2.1 r i s = h.2.1 r i s ∧ h'.2.2.1 r i s = h.2.2.1 r i s)
    (hc : ∀ s, w32 (h'.1 p.1 p.2 s) = h'.1 p.1 p.2 s ∧ w64 (h'.2.1 p.1 p.2 s) = h'.2.1 p.1 p.2 s ∧ ∀ q, vld G h.2.2.2 (p.1, p.2) → isS p.1 = false → s < sz (p.1, p.2) → h'.2.2.1 p.1 p.2 s = some q → vld G h.2.2.2 q)
    (hz : H'.size = H.size) (ho : ∀ q : Nat, q ≠ adr G p → H'[q]? = H[q]?) (hn : cell1 G h' p (adr G p) H') : Rep G h' H' := by
  obtain ⟨r1, r2, r3, r4⟩ := R
  obtain ⟨d1, d2⟩ := hv.dyn hs
  have ha : adr G p = gB G + mn p := adr_dyn hs
  refine ⟨by rw [hz, hk]; exact r1, fun j hj => ?_, fun j hj s => ?_, fun r i s => ?_⟩
  · rw [hk] at hj
    by_cases e : j = mn p
    · subst e
      rw [d2, ← ha]
      exact hn
    · have hne : nm j ≠ p := fun z => e (by rw [← z, mn_nm])
      exact (r2 j hj).kept (fun s => he _ _ s hne) (ho _ (by rw [ha]; omega))
  · rw [hk] at hj
    have hne : nm j ≠ p := fun z => by
      rw [← d2] at z
      have := nm_inj z
      omega
    obtain ⟨e1, e2, e3⟩ := he (nm j).1 (nm j).2 s hne
    rw [e1, e2, e3]
    exact r3 j hj s
  · rw [hk]
    by_cases e : (r, i) = p
    · subst e
      exact hc s
    · obtain ⟨e1, e2, e3⟩ := he r i s e
      rw [e1, e2, e3]
      exact r4 r i s
/-- a cell more, all zeros -/
theorem Rep.push {G : GG} {h : MS} {H H' : Heap} (R : Rep G h H) (hz : H'.size = H.size + 1) (ho : ∀ q : Nat, q < H.size → H'[q]? = H[q]?) (hn : cell1 G h (nm h.2.2.2) (gB G + h.2.2.2) H') : Rep G (h.1, h.2.1, h.2.2.1, h.2.2.2 + 1) H' := by
  obtain ⟨r1, r2, r3, r4⟩ := R
  refine ⟨by rw [hz, r1]; rfl, fun j hj => ?_, fun j hj s => r3 j (Nat.le_of_succ_le hj) s, fun r i s => ⟨(r4 r i s).1, (r4 r i s).2.1, fun p hv hsr hsz hp => ?_⟩⟩
  · rcases Nat.lt_succ_iff_lt_or_eq.mp hj with q | q
    · exact (r2 j q).kept (fun s => ⟨rfl, rfl, rfl⟩) (ho _ (by rw [r1]; omega))
    · subst q
      exact hn.kept (fun s => ⟨rfl, rfl, rfl⟩) rfl
  · show vld G (h.2.2.2 + 1) p
    by_cases hv0 : vld G h.2.2.2 (r, i)
    · exact ((r4 r i s).2.2 p hv0 hsr hsz hp).mono (Nat.le_succ _)
    · obtain ⟨d1, d2⟩ := hv.dyn hsr
      have d1 : mn (r, i) < h.2.2.2 + 1 := d1
      have hj : mn (r, i) = h.2.2.2 := by
        rcases Nat.lt_succ_iff_lt_or_eq.mp d1 with q | q
        · exact absurd (Or.inl ⟨_, q, d2⟩) hv0
        · exact q
      rw [hj] at d2
      have h3 := (r3 h.2.2.2 (Nat.le_refl _) s).2.2
      rw [d2] at h3
      have h3 := h3 hsz
      have hp : h.2.2.1 r i s = some p := hp
      have h3 : h.2.2.1 r i s = none := h3
      rw [h3] at hp
      cases hp
theorem Rep.cell {G : GG} {h : MS} {H : Heap} (R : Rep G h H) {p : MR} (hv : vld G h.2.2.2 p) (hs : isS p.1 = false) : cell1 G h p (adr G p) H := by
  obtain ⟨d1, d2⟩ := hv.dyn hs
  have := R.2.1 _ d1
  rwa [d2, ← adr_dyn hs] at this
theorem okv_rdk {G : GG} {h : MS} {H : Heap} (R : Rep G h H) {r i s : Nat} (hv : vld G h.2.2.2 (r, i)) (hsr : isS r = false) (hsz : s < sz (r, i)) (t : Nat) : okv G h.2.2.2 (rdk h r i s t) := by
  obtain ⟨h1, h2, h3⟩ := R.2.2.2 r i s
  unfold rdk
  split
  · exact h1
  · split
    · exact h2
    · match hp : h.2.2.1 r i s with
      | none => trivial
      | some p => exact h3 p hv hsr hsz hp
