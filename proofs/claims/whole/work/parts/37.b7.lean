/-! block equations (printed by wip/whole/genall.py) -/
/-! J_min -/
theorem cc_248 : cod 248 = cJ9_min_7cf53 := rfl
theorem D248_0 : decode (cod 248) 0 = .ok (.iload_n 0, 1) := by rw [cc_248]; decide +kernel
theorem D248_1 : decode (cod 248) 1 = .ok (.iload_n 1, 1) := by rw [cc_248]; decide +kernel
theorem D248_2 : decode (cod 248) 2 = .ok (.if_icmp .gt 7, 3) := by rw [cc_248]; decide +kernel
theorem D248_5 : decode (cod 248) 5 = .ok (.iload_n 0, 1) := by rw [cc_248]; decide +kernel
theorem D248_6 : decode (cod 248) 6 = .ok (.goto 4, 3) := by rw [cc_248]; decide +kernel
theorem D248_9 : decode (cod 248) 9 = .ok (.iload_n 1, 1) := by rw [cc_248]; decide +kernel
theorem D248_10 : decode (cod 248) 10 = .ok (.ireturn, 1) := by rw [cc_248]; decide +kernel
theorem b248_0 {d : Nat} {x0 x1 : Int} {I L : Nat → Nat → Nat → Int} {t : Nat → Nat} : Res d 248 0 [vi x0, vi x1] [] (mk I L t) = if x1 < x0 then Res d 248 9 [vi x0, vi x1] [] (mk I L t) else Res d 248 5 [vi x0, vi x1] [] (mk I L t) :=
  Eq.trans (e_iload_n D248_0 rfl rfl) <| Eq.trans (e_iload_n D248_1 rfl rfl) <| e_icgt D248_2 rfl rfl
theorem b248_5 {d : Nat} {x0 x1 : Int} {I L : Nat → Nat → Nat → Int} {t : Nat → Nat} : Res d 248 5 [vi x0, vi x1] [] (mk I L t) = Res d 248 10 [vi x0, vi x1] [vi x0] (mk I L t) :=
  Eq.trans (e_iload_n D248_5 rfl rfl) <| e_goto (q1 := 10) D248_6 rfl
theorem b248_9 {d : Nat} {x0 x1 : Int} {I L : Nat → Nat → Nat → Int} {t : Nat → Nat} : Res d 248 9 [vi x0, vi x1] [] (mk I L t) = Res d 248 10 [vi x0, vi x1] [vi x1] (mk I L t) :=
  e_iload_n D248_9 rfl rfl
theorem b248_10 {d : Nat} {x0 x1 xs0 : Int} {I L : Nat → Nat → Nat → Int} {t : Nat → Nat} : Res d 248 10 [vi x0, vi x1] [vi xs0] (mk I L t) = some (vi xs0, (mk I L t)) :=
  e_iret D248_10 rfl
