/-! first specs -/
def b2 (p : Prop) {dp : Decidable p} : Int := @ite _ p dp 1 0
theorem s146 {d : Nat} {I L : Nat → Nat → Nat → Int} {t : Nat → Nat} (v a b : Int) : Cal d 146 [vi v, vi a, vi b] (mk I L t) = some (vi (if a ≤ v ∧ v ≤ b then 1 else 0), mk I L t) := by
  show Res d 146 0 [vi v, vi a, vi b] [] (mk I L t) = _
  rw [b146_0]
  by_cases h1 : v < a
  · rw [if_pos h1, b146_14, b146_15 (by decide), if_neg (by omega)]
  · rw [if_neg h1, b146_5]
    by_cases h2 : b < v
    · rw [if_pos h2, b146_14, b146_15 (by decide), if_neg (by omega)]
    · rw [if_neg h2, b146_10, b146_15 (by decide), if_pos (by omega)]
