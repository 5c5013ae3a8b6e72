/-! a call whose end is known -/
theorem calb {d z e y q : Nat} {as ls st st' : List MV} {h h1 : MS} {v : MV} (c : Cal d z as h = some (v, h1)) (hp : psh z v st = st') : ((Cal d z as h).bind fun w => Res e y q ls (psh z w.1 st) w.2) = Res e y q ls st' h1 := by
  rw [c]
  show Res e y q ls (psh z v st) h1 = _
  rw [hp]
/-! path equations (printed by wip/whole/genpath.py) -/
/-! x_isIn -/
theorem P102_0_0 {d : Nat} {x0 x1 x2 : Int} {I L : Nat → Nat → Nat → Int} {t : Nat → Nat} (h1 : x1 ≤ x0) (h2 : x0 ≤ x2) : Cal d 102 [vi x0, vi x1, vi x2] (mk I L t) = some (vi 1, mk I L t) :=
  Eq.trans (show _ = Res d 102 0 [vi x0, vi x1, vi x2] [] (mk I L t) from rfl) <| Eq.trans (b102_0) <| Eq.trans (if_neg (Int.not_lt.mpr h1)) <| Eq.trans (b102_5) <| Eq.trans (if_neg (Int.not_lt.mpr h2)) <| Eq.trans (b102_10) <| b102_15 (by decide)
theorem P102_0_1 {d : Nat} {x0 x1 x2 : Int} {I L : Nat → Nat → Nat → Int} {t : Nat → Nat} (h1 : x1 ≤ x0) (h2 : x2 < x0) : Cal d 102 [vi x0, vi x1, vi x2] (mk I L t) = some (vi 0, mk I L t) :=
  Eq.trans (show _ = Res d 102 0 [vi x0, vi x1, vi x2] [] (mk I L t) from rfl) <| Eq.trans (b102_0) <| Eq.trans (if_neg (Int.not_lt.mpr h1)) <| Eq.trans (b102_5) <| Eq.trans (if_pos h2) <| Eq.trans (b102_14) <| b102_15 (by decide)
theorem P102_0_2 {d : Nat} {x0 x1 x2 : Int} {I L : Nat → Nat → Nat → Int} {t : Nat → Nat} (h1 : x0 < x1) : Cal d 102 [vi x0, vi x1, vi x2] (mk I L t) = some (vi 0, mk I L t) :=
  Eq.trans (show _ = Res d 102 0 [vi x0, vi x1, vi x2] [] (mk I L t) from rfl) <| Eq.trans (b102_0) <| Eq.trans (if_pos h1) <| Eq.trans (b102_14) <| b102_15 (by decide)
/-! m_isIn -/
theorem P146_0_0 {d : Nat} {x0 x1 x2 : Int} {I L : Nat → Nat → Nat → Int} {t : Nat → Nat} (h1 : x1 ≤ x0) (h2 : x0 ≤ x2) : Cal d 146 [vi x0, vi x1, vi x2] (mk I L t) = some (vi 1, mk I L t) :=
  Eq.trans (show _ = Res d 146 0 [vi x0, vi x1, vi x2] [] (mk I L t) from rfl) <| Eq.trans (b146_0) <| Eq.trans (if_neg (Int.not_lt.mpr h1)) <| Eq.trans (b146_5) <| Eq.trans (if_neg (Int.not_lt.mpr h2)) <| Eq.trans (b146_10) <| b146_15 (by decide)
theorem P146_0_1 {d : Nat} {x0 x1 x2 : Int} {I L : Nat → Nat → Nat → Int} {t : Nat → Nat} (h1 : x1 ≤ x0) (h2 : x2 < x0) : Cal d 146 [vi x0, vi x1, vi x2] (mk I L t) = some (vi 0, mk I L t) :=
  Eq.trans (show _ = Res d 146 0 [vi x0, vi x1, vi x2] [] (mk I L t) from rfl) <| Eq.trans (b146_0) <| Eq.trans (if_neg (Int.not_lt.mpr h1)) <| Eq.trans (b146_5) <| Eq.trans (if_pos h2) <| Eq.trans (b146_14) <| b146_15 (by decide)
theorem P146_0_2 {d : Nat} {x0 x1 x2 : Int} {I L : Nat → Nat → Nat → Int} {t : Nat → Nat} (h1 : x0 < x1) : Cal d 146 [vi x0, vi x1, vi x2] (mk I L t) = some (vi 0, mk I L t) :=
  Eq.trans (show _ = Res d 146 0 [vi x0, vi x1, vi x2] [] (mk I L t) from rfl) <| Eq.trans (b146_0) <| Eq.trans (if_pos h1) <| Eq.trans (b146_14) <| b146_15 (by decide)
