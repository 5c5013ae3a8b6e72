/-! the table is full; the script stays as it is -/
noncomputable def W0 : WT := fun r i s => @decide (∀ j, nm j = (r, i) → ¬ s < sz (r, i)) (Classical.propDecidable _)
theorem W0_cell (j t : Nat) (h : t < sz (nm j)) : TQ W0 (nm j).1 (nm j).2 t = none := by
  unfold TQ
  rw [if_neg]
  unfold W0
  rw [@decide_eq_true_eq _ (Classical.propDecidable _)]
  exact fun q => q j rfl h
def okB (p : MR) : Bool := if p.1 = 0 then decide (p.2 < 1) else if p.1 = 1 then decide (p.2 < 131) else if p.1 = 2 then decide (p.2 < 5) else if p.1 = 3 then decide (p.2 < 61) else if p.1 = 4 then decide (p.2 < 146) else if p.1 = 5 then decide (p.2 < 2) else if p.1 = 6 then decide (p.2 < 100) else if p.1 = 10 then decide (p.2 < 40) else if p.1 = 7 ∨ p.1 = 8 ∨ p.1 = 11 ∨ p.1 = 12 ∨ p.1 = 21 ∨ p.1 = 38 ∨ p.1 = 39 ∨ (40 ≤ p.1 ∧ p.1 ≤ 45) then decide (p.2 < 1) else true
theorem okB_all : nmT.all okB = true := by decide +kernel
theorem nm_ok (j : Nat) : okB (nm j) = true := by
  unfold nm
  rw [List.getD_eq_getElem?_getD]
  cases e : nmT[j]? with
  | none => rfl
  | some p => exact List.all_eq_true.mp okB_all p (List.mem_of_getElem? e)
theorem PPo12_all : ∀ s : Fin 94, (m12.contains s.val || (PPo12 t0 0 s.val).isNone) = true := by decide +kernel
theorem covW {W : WT} (hX : WX W) (hM : (m12.all fun s => W 12 0 s) = true) (h0 : WL W0 W) (r i s : Nat) (hp : PP t0 r i s ≠ none) : W r i s = true := by
  by_cases q : ∃ j, nm j = (r, i) ∧ s < sz (r, i)
  · obtain ⟨j, e, hs⟩ := q
    have ok := nm_ok j
    rw [e] at ok
    obtain ⟨x11, ⟨x7, x8, x50, x51, x2, x38, x39⟩, ⟨x0, x21⟩, x1, x3, x4, x6, x10, x40, x41, x42, x43, x44, x45⟩ := hX
    by_cases e0 : r = 0
    · subst e0
      have hi : i < 1 := of_decide_eq_true ok
      rw [show i = 0 by omega]
      exact x0 s hs
    by_cases e1 : r = 1
    · subst e1
      have hi : i < 131 := of_decide_eq_true ok
      by_cases c : s = 0
      · rw [c]
        exact x1 i hi
      · exact absurd (show PPo1 t0 i s = none by unfold PPo1; rw [if_neg c]) hp
    by_cases e2 : r = 2
    · subst e2
      have hi : i < 5 := of_decide_eq_true ok
      by_cases c : s < 5
      · exact x2 i hi s c
      · exact absurd (show PPo2 t0 i s = none by unfold PPo2; rw [if_neg (by omega), if_neg (by omega), if_neg (by omega), if_neg (by omega), if_neg (by omega)]) hp
    by_cases e3 : r = 3
    · subst e3
      have hi : i < 61 := of_decide_eq_true ok
      by_cases c : s < 2
      · exact x3 i hi s c
      · exact absurd (show PPo3 t0 i s = none by unfold PPo3; rw [if_neg (by omega), if_neg (by omega)]) hp
    by_cases e4 : r = 4
    · subst e4
      have hi : i < 146 := of_decide_eq_true ok
      by_cases c : s = 0
      · rw [c]
        exact x4 i hi
      · exact absurd (show PPo4 t0 i s = none by unfold PPo4; rw [if_neg c]) hp
    by_cases e5 : r = 5
    · subst e5
      have hi : i < 2 := of_decide_eq_true ok
      by_cases c : s < 3
      · by_cases z : i = 0
        · rw [z]
          exact x50 s c
        · rw [show i = 1 by omega]
          exact x51 s c
      · exact absurd (show PPo5 t0 i s = none by unfold PPo5; rw [if_neg (by omega), if_neg (by omega), if_neg (by omega)]) hp
    by_cases e6 : r = 6
    · subst e6
      have hi : i < 100 := of_decide_eq_true ok
      by_cases c : s = 0
      · rw [c]
        exact x6 i hi
      · exact absurd (show PPo6 t0 i s = none by unfold PPo6; rw [if_neg c]) hp
    by_cases e7 : r = 7
    · subst e7
      have hi : i < 1 := of_decide_eq_true ok
      rw [show i = 0 by omega] at hp ⊢
      by_cases c : s < 4
      · exact x7 s c
      · exact absurd (show PPo7 t0 0 s = none by unfold PPo7; rw [if_neg (by omega), if_neg (by omega), if_neg (by omega), if_neg (by omega)]) hp
    by_cases e8 : r = 8
    · subst e8
      have hi : i < 1 := of_decide_eq_true ok
      rw [show i = 0 by omega]
      exact x8 s hs
    by_cases e10 : r = 10
    · subst e10
      have hi : i < 40 := of_decide_eq_true ok
      by_cases c : s < 2
      · exact x10 i hi s c
      · exact absurd (show PPo10 t0 i s = none by unfold PPo10; rw [if_neg (by omega), if_neg (by omega)]) hp
    by_cases e11 : r = 11
    · subst e11
      have hi : i < 1 := of_decide_eq_true ok
      rw [show i = 0 by omega] at hp ⊢
      by_cases c : s < 10
      · exact x11 s c
      · exact absurd (show PPo11 t0 0 s = none by unfold PPo11; rw [if_neg (by omega), if_neg (by omega), if_neg (by omega), if_neg (by omega), if_neg (by omega), if_neg (by omega), if_neg (by omega), if_neg (by omega), if_neg (by omega), if_neg (by omega)]) hp
    by_cases e12 : r = 12
    · subst e12
      have hi : i < 1 := of_decide_eq_true ok
      have hs' : s < 94 := hs
      rw [show i = 0 by omega] at hp ⊢
      have h := PPo12_all ⟨s, hs'⟩
      rw [Bool.or_eq_true] at h
      rcases h with h | h
      · exact List.all_eq_true.mp hM s (List.contains_iff_mem.mp h)
      · exact absurd (show PPo12 t0 0 s = none from Option.isNone_iff_eq_none.mp h) hp
    by_cases e21 : r = 21
    · subst e21
      have hi : i < 1 := of_decide_eq_true ok
      rw [show i = 0 by omega]
      exact x21 s hs
    by_cases e38 : r = 38
    · subst e38
      have hi : i < 1 := of_decide_eq_true ok
      rw [show i = 0 by omega]
      exact x38 s hs
    by_cases e39 : r = 39
    · subst e39
      have hi : i < 1 := of_decide_eq_true ok
      rw [show i = 0 by omega]
      exact x39 s hs
    by_cases e40 : r = 40
    · subst e40
      have hi : i < 1 := of_decide_eq_true ok
      rw [show i = 0 by omega]
      exact x40 s hs
    by_cases e41 : r = 41
    · subst e41
      have hi : i < 1 := of_decide_eq_true ok
      rw [show i = 0 by omega]
      exact x41 s hs
    by_cases e42 : r = 42
    · subst e42
      have hi : i < 1 := of_decide_eq_true ok
      rw [show i = 0 by omega]
      exact x42 s hs
    by_cases e43 : r = 43
    · subst e43
      have hi : i < 1 := of_decide_eq_true ok
      rw [show i = 0 by omega]
      exact x43 s hs
    by_cases e44 : r = 44
    · subst e44
      have hi : i < 1 := of_decide_eq_true ok
      rw [show i = 0 by omega]
      exact x44 s hs
    by_cases e45 : r = 45
    · subst e45
      have hi : i < 1 := of_decide_eq_true ok
      rw [show i = 0 by omega]
      exact x45 s hs
    exact absurd (show PP t0 r i s = none by unfold PP; rw [if_neg e0, if_neg e1, if_neg e2, if_neg e3, if_neg e4, if_neg e5, if_neg e6, if_neg e7, if_neg e8, if_neg e10, if_neg e11, if_neg e12, if_neg e21, if_neg e38, if_neg e39, if_neg e40, if_neg e41, if_neg e42, if_neg e43, if_neg e44, if_neg e45]) hp
  · refine h0 r i s ?_
    unfold W0
    rw [@decide_eq_true_eq _ (Classical.propDecidable _)]
    exact fun j e hs => q ⟨j, e, hs⟩
theorem TQ_full {W : WT} (hX : WX W) (hM : (m12.all fun s => W 12 0 s) = true) (h0 : WL W0 W) : TQ W = PP t0 := by
  funext r i s
  unfold TQ
  by_cases h : PP t0 r i s = none
  · rw [h]
    split <;> rfl
  · rw [if_pos (covW hX hM h0 r i s h)]
/-! the script -/
theorem up_scr {f : H3} {r i s : Nat} {x : Int} (h : isS r = false) : up3 f r i s x rSCR = f rSCR := up_r (fun z => by rw [← z] at h; cases h)
theorem nxt_scr {y d pc q q' : Nat} {i : Instr} {ls ls' st st' : List MV} {h h' : MS} (hn : nxt y d pc i q ls st h = some (q', ls', st', h')) : h'.1 rSCR = h.1 rSCR := by
  cases i <;> simp only [nxt, ldX, stX, bin, binN, binL, binLN, jmp1, jmp2, getX, putX, aldX, aaldX, astX, newX, cpyX, slnX, schX, mthX] at hn <;> (repeat' split at hn) <;>
    first
      | (cases hn; done)
      | (obtain ⟨-, -, -, e⟩ := inj4 hn; subst e; rfl)
      | (obtain ⟨-, -, -, e⟩ := inj4 hn; subst e; exact up_scr (And.left (And.right ‹sh _ _ = _ ∧ isS _ = false ∧ _›)))
      | (obtain ⟨-, -, -, e⟩ := inj4 hn; subst e; exact up_scr (‹_ ∧ _ ∧ _ ∧ isS _ = false›.2.2.2))
      | (obtain ⟨-, -, -, e⟩ := inj4 hn; subst e; have g := ‹_ ∧ _ ∧ _ ∧ _ ∧ _ ∧ isS _ = false ∧ isS _ = false ∧ _›; have g := g.2.2.2.2.2.2.1; funext a b; exact if_neg (fun z => by rw [← z.1] at g; cases g))
theorem run_scr : ∀ (n d y pc : Nat) (ls st : List MV) (h : MS) (r : MV × MS), run n d y pc ls st h = some r → r.2.1 rSCR = h.1 rSCR
  | 0, _, _, _, _, _, _, _, hr => by cases hr
  | n + 1, d, y, pc, ls, st, h, r, hr => by
    unfold run at hr
    split at hr
    · cases hr
    · split at hr
      · split at hr
        · next q ls' st' h' hn => exact (run_scr n _ _ _ _ _ _ _ hr).trans (nxt_scr hn)
        · split at hr
          · split at hr
            · cases hr
            · split at hr
              · split at hr
                · cases hr
                · next v h1 hc => exact (run_scr n _ _ _ _ _ _ _ hr).trans (run_scr n _ _ _ _ _ _ _ hc)
              · cases hr
          · rw [rtn_h hr]
      · cases hr
theorem cal_scr {d z : Nat} {as : List MV} {h h' : MS} {v : MV} (hc : Cal d z as h = some (v, h')) : h'.1 rSCR = h.1 rSCR := by
  obtain ⟨n, hn⟩ := res_iff.mp hc
  exact run_scr n _ _ _ _ _ _ _ hn
