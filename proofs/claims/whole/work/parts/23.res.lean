/-! what a run comes to, whatever its fuel -/
theorem run_up : ∀ (n d y pc : Nat) (ls st : List MV) (h : MS) (r : MV × MS), run n d y pc ls st h = some r → run (n + 1) d y pc ls st h = some r
  | 0, _, _, _, _, _, _, _, hr => by cases hr
  | n + 1, d, y, pc, ls, st, h, r, hr => by
    unfold run at hr ⊢
    split at hr
    · cases hr
    · split at hr
      · next hl =>
        rw [if_pos hl]
        split at hr
        · next q ls' st' h' hn => exact run_up n _ _ _ _ _ _ _ hr
        · split at hr
          · split at hr
            · cases hr
            · split at hr
              · next hrc =>
                rw [if_pos hrc]
                split at hr
                · cases hr
                · next v h1 hc =>
                  rw [run_up n _ _ _ _ _ _ _ hc]
                  exact run_up n _ _ _ _ _ _ _ hr
              · cases hr
          · exact hr
      · cases hr
theorem run_ge {n m d y pc : Nat} {ls st : List MV} {h : MS} {r : MV × MS} (hm : n ≤ m) (hr : run n d y pc ls st h = some r) : run m d y pc ls st h = some r := by
  induction hm with
  | refl => exact hr
  | step _ ih => exact run_up _ _ _ _ _ _ _ _ ih
def Runs (d y pc : Nat) (ls st : List MV) (h : MS) (r : MV × MS) : Prop := ∃ n, run n d y pc ls st h = some r
noncomputable def Res (d y pc : Nat) (ls st : List MV) (h : MS) : Option (MV × MS) := @dite _ (∃ r, Runs d y pc ls st h r) (Classical.propDecidable _) (fun H => some (Classical.choose H)) (fun _ => none)
theorem runs_one {d y pc : Nat} {ls st : List MV} {h : MS} {r r' : MV × MS} (a : Runs d y pc ls st h r) (b : Runs d y pc ls st h r') : r = r' := by
  obtain ⟨n, a⟩ := a
  obtain ⟨k, b⟩ := b
  exact Option.some.inj ((run_ge (Nat.le_max_left n k) a).symm.trans (run_ge (Nat.le_max_right n k) b))
theorem res_iff {d y pc : Nat} {ls st : List MV} {h : MS} {r : MV × MS} : Res d y pc ls st h = some r ↔ Runs d y pc ls st h r := by
  unfold Res
  constructor
  · intro hr
    split at hr
    · next H => rw [← Option.some.inj hr]; exact Classical.choose_spec H
    · cases hr
  · intro hr
    rw [dif_pos ⟨r, hr⟩]
    exact congrArg some (runs_one (Classical.choose_spec (⟨r, hr⟩ : ∃ r, Runs d y pc ls st h r)) hr)
theorem res_of {d y pc d' y' pc' : Nat} {ls st ls' st' : List MV} {h h' : MS} (k : ∀ r, Runs d y pc ls st h r ↔ Runs d' y' pc' ls' st' h' r) : Res d y pc ls st h = Res d' y' pc' ls' st' h' := by
  apply Option.ext
  intro r
  rw [res_iff, res_iff]
  exact k r
/-- what a call comes to -/
noncomputable def Cal (d z : Nat) (as : List MV) (h : MS) : Option (MV × MS) := Res d z 0 (ini z as) [] h
section RES
variable {d y pc q len : Nat} {i : Instr} {ls ls' st st' : List MV} {h h' : MS}
theorem res_step (hd : decode (cod y) pc = .ok (i, len)) (hl : len = lnI i len) (hn : nxt y d pc i (pc + len) ls st h = some (q, ls', st', h')) : Res d y pc ls st h = Res d y q ls' st' h' := by
  refine res_of fun r => ⟨fun ⟨n, hr⟩ => ?_, fun ⟨n, hr⟩ => ⟨n + 1, ?_⟩⟩
  · cases n with
    | zero => cases hr
    | succ n =>
      unfold run at hr
      rw [hd] at hr
      dsimp only at hr
      rw [if_pos hl, hn] at hr
      exact ⟨n, hr⟩
  · unfold run
    rw [hd]
    dsimp only
    rw [if_pos hl, hn]
    exact hr
theorem res_ret {r : MV × MS} (hd : decode (cod y) pc = .ok (i, len)) (hl : len = lnI i len) (hn : nxt y d pc i (pc + len) ls st h = none) (hc : cll y i st = none) (hr : rtn y i st h = some r) : Res d y pc ls st h = some r := by
  refine res_iff.mpr ⟨1, ?_⟩
  unfold run
  rw [hd]
  dsimp only
  rw [if_pos hl, hn, hc]
  exact hr
theorem res_call {z : Nat} {as rest : List MV} (hd : decode (cod y) pc = .ok (i, len)) (hl : len = lnI i len) (hn : nxt y (d + 1) pc i (pc + len) ls st h = none) (hc : cll y i st = some (z, as, rest)) (hv : rcv z as = true) :
    Res (d + 1) y pc ls st h = (Cal d z as h).bind fun v => Res (d + 1) y (pc + len) ls (psh z v.1 rest) v.2 := by
  apply Option.ext
  intro r
  rw [res_iff, Option.bind_eq_some_iff]
  unfold Cal
  constructor
  · rintro ⟨n, hr⟩
    cases n with
    | zero => cases hr
    | succ n =>
      unfold run at hr
      rw [hd] at hr
      dsimp only at hr
      rw [if_pos hl, hn, hc] at hr
      dsimp only at hr
      rw [if_pos hv] at hr
      split at hr
      · cases hr
      · next v h1 hc1 => exact ⟨(v, h1), res_iff.mpr ⟨n, hc1⟩, res_iff.mpr ⟨n, hr⟩⟩
  · rintro ⟨⟨v, h1⟩, a, b⟩
    obtain ⟨n, a⟩ := res_iff.mp a
    obtain ⟨k, b⟩ := res_iff.mp b
    refine ⟨max n k + 1, ?_⟩
    unfold run
    rw [hd]
    dsimp only
    rw [if_pos hl, hn, hc]
    dsimp only
    rw [if_pos hv, run_ge (Nat.le_max_left n k) a]
    exact run_ge (Nat.le_max_right n k) b
/-- a straight piece of code -/
def nxts (y d : Nat) : Nat → List (Instr × Nat) → List MV → List MV → MS → Option (Nat × List MV × List MV × MS)
  | pc, [], ls, st, h => some (pc, ls, st, h)
  | pc, (i, len) :: r, ls, st, h => match nxt y d pc i (pc + len) ls st h with
    | some (q, ls', st', h') => nxts y d q r ls' st' h'
    | none => none
/-- the code is there -/
def cdAt (y : Nat) : Nat → List (Instr × Nat) → Bool
  | _, [] => true
  | pc, (i, len) :: r => decide (decode (cod y) pc = .ok (i, len)) && decide (len = lnI i len) && cdAt y (pc + len) r
end RES
