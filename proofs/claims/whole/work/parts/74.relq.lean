/-! what a call that only asks may write -/
def sQ (r i c : Nat) : Bool := sT r i c || sMs r i c || ((r == 1 || r == 22) && Nat.ble 120 i) || (r == 48 && Nat.ble 1920 c) || (r == 49 && Nat.ble 120 c)
theorem ble_f {a b : Nat} (h : b < a) : Nat.ble a b = false := Bool.eq_false_iff.mpr (fun q => by
  have := Nat.le_of_ble_eq_true q
  omega)
section RELQ
variable {I J : H3} {t : Nat → Nat}
theorem sT_q (h : Fr sT I J) : Fr sQ I J := h.mo (fun r i c k => by
  unfold sQ at k
  simp only [Bool.or_eq_false_iff] at k
  exact k.1.1.1.1)
theorem sMs_q (h : Fr sMs I J) : Fr sQ I J := h.mo (fun r i c k => by
  unfold sQ at k
  simp only [Bool.or_eq_false_iff] at k
  exact k.1.1.1.2)
theorem q3 (F : Fr sQ I J) {w : Nat} (h : w < 60) : J 3 w = I 3 w := F.ri (fun c => by
  have : (w == 60) = false := by rw [beq_eq_false_iff_ne]; omega
  simp [sQ, sT, sMs, this])
theorem q28 (F : Fr sQ I J) {w : Nat} (h : w < 60) : J 28 w = I 28 w := F.ri (fun c => by
  have : (w == 60) = false := by rw [beq_eq_false_iff_ne]; omega
  simp [sQ, sT, sMs, this])
theorem q29 (F : Fr sQ I J) {w : Nat} (h : w < 60) : J 29 w = I 29 w := F.ri (fun c => by
  have : (w == 60) = false := by rw [beq_eq_false_iff_ne]; omega
  simp [sQ, sT, sMs, this])
theorem q1 (F : Fr sQ I J) {f : Nat} (h : f < 120) : J 1 f = I 1 f := F.ri (fun c => by
  have : Nat.ble 120 f = false := ble_f (by omega)
  simp [sQ, sT, sMs, this])
theorem q22 (F : Fr sQ I J) {f : Nat} (h : f < 120) : J 22 f = I 22 f := F.ri (fun c => by
  have : Nat.ble 120 f = false := ble_f (by omega)
  simp [sQ, sT, sMs, this])
theorem qnM (F : Fr sQ I J) {f : Nat} (h : f < 120) : c16 (nM J f) = c16 (nM I f) := c16_cg (fun j hj => F 48 0 (16 * f + j) (by
  have : Nat.ble 1920 (16 * f + j) = false := ble_f (by omega)
  simp [sQ, sT, sMs, this]))
theorem q49 (F : Fr sQ I J) {f : Nat} (h : f < 120) : J 49 0 f = I 49 0 f := F 49 0 f (by
  have : Nat.ble 120 f = false := ble_f (by omega)
  simp [sQ, sT, sMs, this])
theorem q_reF (F : Fr sQ I J) (h : reF I) : reF J := by
  obtain ⟨a, b, c, e⟩ := h
  refine ⟨by rw [F 11 0 10 rfl]; exact a, by rw [F 11 0 10 rfl, F 12 0 1 rfl]; exact b, fun f hf => ?_, fun f hf => ?_⟩
  · rw [q22 F hf, q1 F hf, qnM F hf, q49 F hf]
    exact c f hf
  · rw [F 11 0 10 rfl] at hf
    rw [q1 F (show f < 120 by omega), F 50 0 f rfl]
    exact e f hf
theorem q_rv (F : Fr sQ I J) : rv J = rv I := by
  funext r p
  unfold rv
  rw [F.rg (r := 4) (fun _ _ => rfl), F.rg (r := 30) (fun _ _ => rfl)]
theorem q_rel (F : Fr sQ I J) (h : Rel I t) : Rel J t := by
  have e4 : J 4 = I 4 := F.rg (fun _ _ => rfl)
  have e30 : J 30 = I 30 := F.rg (fun _ _ => rfl)
  have e5 : J 5 = I 5 := F.rg (fun _ _ => rfl)
  have e6 : J 6 = I 6 := F.rg (fun _ _ => rfl)
  have e10 : J 10 = I 10 := F.rg (fun _ _ => rfl)
  have e52 : J 52 = I 52 := F.rg (fun _ _ => rfl)
  have e53 : J 53 = I 53 := F.rg (fun _ _ => rfl)
  have e102 : J 102 = I 102 := F.rg (fun _ _ => rfl)
  have e103 : J 103 = I 103 := F.rg (fun _ _ => rfl)
  have e112 : J 112 = I 112 := F.rg (fun _ _ => rfl)
  have e113 : J 113 = I 113 := F.rg (fun _ _ => rfl)
  have e90 : J 90 = I 90 := F.rg (fun _ _ => rfl)
  have e91 : J 91 = I 91 := F.rg (fun _ _ => rfl)
  have e92 : J 92 = I 92 := F.rg (fun _ _ => rfl)
  have e93 : J 93 = I 93 := F.rg (fun _ _ => rfl)
  have e94 : J 94 = I 94 := F.rg (fun _ _ => rfl)
  have e46 : J 46 = I 46 := F.rg (fun _ _ => rfl)
  have e47 : J 47 = I 47 := F.rg (fun _ _ => rfl)
  have e50 : J 50 = I 50 := F.rg (fun _ _ => rfl)
  have e86 : J 86 = I 86 := F.rg (fun _ _ => rfl)
  have x10 : J 11 0 10 = I 11 0 10 := F 11 0 10 rfl
  have x11 : J 11 0 11 = I 11 0 11 := F 11 0 11 rfl
  have x12 : J 11 0 12 = I 11 0 12 := F 11 0 12 rfl
  have x13 : J 11 0 13 = I 11 0 13 := F 11 0 13 rfl
  have x14 : J 11 0 14 = I 11 0 14 := F 11 0 14 rfl
  have x15 : J 11 0 15 = I 11 0 15 := F 11 0 15 rfl
  have x16 : J 11 0 16 = I 11 0 16 := F 11 0 16 rfl
  have hf := h.pF.1
  refine ⟨h.pP, q_reF F h.pF, ?_, ?_, ?_, ?_, ?_, ?_, ?_, ?_, ?_, ?_, ?_, ?_, ?_⟩
  · unfold reT mT
    rw [F.rg (r := 115) (fun _ _ => rfl), F.rg (r := 51) (fun _ _ => rfl)]
    exact h.pT
  · unfold reR
    rw [x10, e4, e30, e52, e53]
    exact h.pR
  · intro k hk
    have a := h.pH k hk
    rw [hC_cg (F.rg (fun _ _ => rfl)) (F.rg (fun _ _ => rfl)) (F.rg (fun _ _ => rfl)) (F.rg (fun _ _ => rfl)), mH_cg (F.ri (fun _ => rfl)) (F.ri (fun _ => rfl)) (F.ri (fun _ => rfl))]
    exact ⟨a.1, hOk_cg (F.rg (fun _ _ => rfl)) (F.rg (fun _ _ => rfl)) a.2.1, mhOk_cg (F.ri (fun _ => rfl)) (F.ri (fun _ => rfl)) a.2.2.1, a.2.2.2⟩
  · unfold reS
    rw [e5, F 12 0 33 rfl, F.rg (r := 64) (fun _ _ => rfl), F.rg (r := 65) (fun _ _ => rfl), F.rg (r := 66) (fun _ _ => rfl), F.rg (r := 31) (fun _ _ => rfl), F.rg (r := 32) (fun _ _ => rfl), F.rg (r := 33) (fun _ _ => rfl)]
    exact h.pS
  · unfold reW wyOk
    rw [F.rg (r := 9) (fun _ _ => rfl), F.rg (r := 70) (fun _ _ => rfl), F.rg (r := 71) (fun _ _ => rfl), F.rg (r := 72) (fun _ _ => rfl), F.rg (r := 73) (fun _ _ => rfl)]
    exact h.pW
  · unfold reB
    rw [F 12 0 36 rfl, F 12 0 43 rfl, F 12 0 50 rfl, F.rg (r := 7) (fun _ _ => rfl), F.rg (r := 62) (fun _ _ => rfl), F.rg (r := 34) (fun _ _ => rfl)]
    exact h.pB
  · have m := h.pM
    have mb := m.2.1
    refine ⟨by rw [F 12 0 2 rfl, x12]; exact m.1, by rw [x12]; exact m.2.1, fun w hw => ?_⟩
    rw [x12] at hw
    have hw60 : w < 60 := by omega
    have a := m.2.2 w hw
    unfold rmi kpM ktM
    rw [x10, x16, q3 F hw60, q28 F hw60, q29 F hw60, F 80 0 w rfl, F 81 0 w rfl, F 82 0 w rfl, F 83 0 w rfl, F 84 0 w rfl, F 85 0 w rfl, F 86 0 w rfl, F 87 0 w rfl, F.rg (r := 88) (fun _ _ => rfl), F.rg (r := 89) (fun _ _ => rfl)]
    exact a
  · have m := h.pV
    refine ⟨by rw [F 12 0 3 rfl, x13]; exact m.1, by rw [x13]; exact m.2.1, fun i hi => ?_⟩
    rw [x13] at hi
    have a := m.2.2 i hi
    unfold rsi
    rw [x10, x12, e6, e94, e4, e30, e102, e103, q_rv F, F 95 0 i rfl, F 96 0 i rfl, F 97 0 i rfl, F 98 0 i rfl, F 99 0 i rfl, F 100 0 i rfl, F 101 0 i rfl]
    exact a
  · have m := h.pO
    have mb := m.2.1
    refine ⟨by rw [F 12 0 4 rfl, x14]; exact m.1, by rw [x14]; exact m.2.1, fun i hi => ?_⟩
    rw [x14] at hi
    have a := m.2.2 i hi
    unfold rwi
    rw [x10, q3 F (show 20 + i < 60 by omega), e4, e30, e10, e112, e113, F 105 0 i rfl, F 106 0 i rfl, F 107 0 i rfl, F 108 0 i rfl, F 109 0 i rfl, F 110 0 i rfl, F 111 0 i rfl, F 114 0 i rfl]
    exact a
  · unfold reN
    rw [F 12 0 0 rfl, x16]
    exact h.pN
  · unfold reL rli
    rw [F 12 0 72 rfl, x10, x11, x12, x13, x15, x16, e90, e91, e92, e93, e94, e46, e47, e50, e86]
    exact h.pL
  · unfold reC
    rw [x11, x10]
    refine Eq.trans h.pC (fo_cg _ 0 0 (fun f b _ hb => ?_))
    rw [q1 F (show f < 120 by omega)]
  · unfold reU
    rw [F 12 0 72 rfl, x12, e90, e91, F.rg (r := 60) (fun _ _ => rfl)]
    refine ⟨fun w w1 w2 => ?_, h.pU.2⟩
    rw [q3 F (show w < 60 by omega), F 87 0 w rfl]
    exact h.pU.1 w w1 w2
end RELQ
/-! what the class writes alone, and the model -/
def moB (r : Nat) : Bool := r == 12 || (Nat.ble 48 r && Nat.ble r 114)
def sK (r _ _ : Nat) : Bool := !(moB r)
def sO (r _ _ : Nat) : Bool := moB r
def ov (I J : H3) : H3 := fun r => cond (moB r) (I r) (J r)
theorem ov_of {I J : H3} (F : Fr sK I J) : J = ov I J := by
  funext r i c
  unfold ov
  cases q : moB r with
  | true => exact F r i c (by unfold sK; rw [q]; rfl)
  | false => rfl
