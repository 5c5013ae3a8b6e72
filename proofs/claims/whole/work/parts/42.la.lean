/-! small calls: within bounds -/
section LA
variable {d : Nat} {v a b : Int} {I L : Nat → Nat → Nat → Int} {t : Nat → Nat}
theorem kT102 (h : a ≤ v ∧ v ≤ b) : Cal d 102 [vi v, vi a, vi b] (mk I L t) = some (vi 1, mk I L t) := P102_0_0 h.1 h.2
theorem kF102 (h : ¬ (a ≤ v ∧ v ≤ b)) : Cal d 102 [vi v, vi a, vi b] (mk I L t) = some (vi 0, mk I L t) := by
  by_cases h1 : a ≤ v
  · exact P102_0_1 h1 (by omega)
  · exact P102_0_2 (by omega)
theorem kT146 (h : a ≤ v ∧ v ≤ b) : Cal d 146 [vi v, vi a, vi b] (mk I L t) = some (vi 1, mk I L t) := P146_0_0 h.1 h.2
theorem kF146 (h : ¬ (a ≤ v ∧ v ≤ b)) : Cal d 146 [vi v, vi a, vi b] (mk I L t) = some (vi 0, mk I L t) := by
  by_cases h1 : a ≤ v
  · exact P146_0_1 h1 (by omega)
  · exact P146_0_2 (by omega)
/-- a place of a row -/
def rvP (n : Int) (f : Nat → Int) (p : Int) : Int := if 0 ≤ p ∧ p < n then f p.toNat else -1
def isLet (c : Int) : Prop := (97 ≤ c ∧ c ≤ 122) ∨ (65 ≤ c ∧ c ≤ 90)
def cutP (v a b : Int) : Int := if v < a then a else if b < v then b else v
def aptP (a b : Int) : Int := if b < a then w32 (a - b) else w32 (b - a)
def blrP (v r : Int) : Int := cutP (w32 (w32 (vIdiv v (w32 (r + 1)) * w32 (r + 1)) + vIdiv r 2)) 0 31
end LA
