/-! what is asked answers alike on both sides -/
section RELEQ
variable {I : H3} {t : Nat → Nat}
theorem Rel.eA (h : Rel I t) {w : Nat} (hw : (w : Int) < I 11 0 12) : mA I w = aW I t w := by
  have m := h.pM.2.2 w hw
  obtain ⟨⟨a1, a2, a3⟩, _⟩ := m
  unfold mA aW
  rw [a1, (h.pH (I 3 w 2).toNat (by omega)).1]
theorem Rel.eG (h : Rel I t) {w : Nat} (hw : (w : Int) < I 11 0 12) : mG I w = gvS I w (I 3 w 8) := by
  obtain ⟨a, b, c, ⟨e1, e2, e3⟩, ⟨f, _⟩, _⟩ := h.pM.2.2 w hw
  funext dy
  unfold mG gvT gvS
  rw [e1, e2, e3, f]
theorem Rel.eD (h : Rel I t) {w : Nat} (hw : (w : Int) < I 11 0 12) : w32 (I 12 0 0 - I 86 0 w) = I 3 w 10 := by
  obtain ⟨a, b, c, e, f, ⟨g1, g2, g3⟩, i, _⟩ := h.pM.2.2 w hw
  have n := h.pN
  have n2 := n.2
  rw [n.1, g1, w32_s (by omega), i]
theorem gvS_W {w : Nat} : gvS I w (I 3 w 8) (I 3 w 10) = gvW I w := rfl
theorem Rel.eG2 (h : Rel I t) {w : Nat} (hw : (w : Int) < I 11 0 12) : mG I w (w32 (I 12 0 0 - I 86 0 w)) = gvW I w := by
  rw [h.eG hw, h.eD hw]
  rfl
theorem Rel.eh (h : Rel I t) {w : Nat} (hw : (w : Int) < I 11 0 12) : ans (mH I (I 80 0 w).toNat) = aW I t w := h.eA hw
theorem Rel.emfa (h : Rel I t) {w : Nat} (hw : (w : Int) < I 11 0 12) {G : Nat → Int} {m m' : Nat → Int} (hm : c16 m = c16 m') : mfa I (I 80 0 w).toNat G (I 81 0 w) m = faP (aW I t w) G (I 3 w 3) m' (I 22) (fun f => I 1 f 1) := by
  obtain ⟨a, b, _⟩ := h.pM.2.2 w hw
  unfold mfa
  rw [h.eh hw, b]
  exact faP_cg (fun f hf => (h.eF f hf).symm) (fun f hf => (h.eK f hf).symm) hm
theorem Rel.efa (h : Rel I t) {w : Nat} (hw : (w : Int) < I 11 0 12) : mfa I (I 80 0 w).toNat (mG I w (w32 (I 12 0 0 - I 86 0 w))) (I 81 0 w) (c16 (kpM I w)) = fW I t w := by
  rw [h.eG2 hw]
  have a := (h.pM.2.2 w hw).2.2.2.2.2.2.2.1.1
  exact h.emfa hw (by rw [c16_c, a])
theorem Rel.eod (h : Rel I t) {w : Nat} (hw : (w : Int) < I 11 0 12) {rw' : Int → Int} {each : Bool} {led push : Int} : modW I w rw' each led push = odW I t w rw' each led push := by
  unfold modW
  rw [h.efa hw, h.eG2 hw, h.eA hw]
  rfl
/-! worlds by ways -/
theorem trM_cg {A : Nat → (Nat → Int) → Int} {Gd : Int → Nat → Int} {F F' : Nat → Nat → Int} {seen : Nat} {ty : Nat → Int} {dr : Bool} {rvd : Int → Int} {waits : Nat} (hF : Feq F F') (hs : seen < 120) (hr : dr = true → rvB rvd ∧ hasF rvd) : trM A Gd F seen ty dr rvd waits = trM A Gd F' seen ty dr rvd waits := by
  unfold trM
  rw [seeP_cg (hF seen hs)]
  cases q : dr with
  | false => rw [if_neg (show ¬ (false = true) by decide), if_neg (show ¬ (false = true) by decide)]
  | true =>
    obtain ⟨r1, r2⟩ := hr q
    rw [cmP_cg hF (fun p hp => ⟨nbP_cg hF r1 rfl (by omega), nbP_in r1 r2⟩)]
theorem trM_f {A : Nat → (Nat → Int) → Int} {Gd : Int → Nat → Int} {F : Nat → Nat → Int} {seen : Nat} {ty : Nat → Int} {rvd rvd' : Int → Int} {waits : Nat} : trM A Gd F seen ty false rvd waits = trM A Gd F seen ty false rvd' waits := by
  unfold trM
  rw [if_neg (show ¬ (false = true) by decide), if_neg (show ¬ (false = true) by decide)]
theorem Rel.etr (h : Rel I t) {i y : Nat} (hi : (i : Int) < I 11 0 14) (hy : y < 4) : mtrW I i y = trW I t i (t (5 + y)) := by
  obtain ⟨⟨a1, a2, a3⟩, b, ⟨c1, c2, c3⟩, ⟨e1, e2, e3⟩, ⟨f1, _⟩, r, s⟩ := h.pO.2.2 i hi
  obtain ⟨w0, w1, w2, w3, wo⟩ := h.pW y hy
  have hf := h.pF.1
  have hh := h.pH (I 3 (20 + i) 2).toNat (by omega)
  have hk := (h.pF.2.2.1 (I 3 (20 + i) 4).toNat (by omega)).2.2
  have ht := h.pT (I 1 (I 3 (20 + i) 4).toNat 1).toNat (by omega)
  have eG : gvT (I 108 0 i) (I 109 0 i) (I 110 0 i) 0 = gvS I (20 + i) 0 := by
    funext dy
    unfold gvT gvS
    rw [e1, e2, e3]
  have er : ∀ r, r < 6 → mrw I r = rv I r := fun r hr => (h.rw' hr).2.2
  have edr : mdr I y = drW I (t (5 + y)) := by
    unfold mdr drW
    rw [w3]
    by_cases q : I 9 (t (5 + y)) 3 = -1
    · rw [q]
      rfl
    · rw [er _ (by have := wo.1.resolve_left q; omega)]
  unfold mtrW trW
  rw [a1, ← hh.1, c1, eG, edr, w3, f1, hk.1, ht.2]
  have e0 : ans (hC I (t (I 3 (20 + i) 2).toNat)) = aW I t (20 + i) := rfl
  rw [e0]
  by_cases q : I 9 (t (5 + y)) 3 = -1
  · have qd : drW I (t (5 + y)) = false := by
      unfold drW
      rw [q]
      rfl
    rw [qd, trM_cg (fun f hf => (h.eF f hf).symm) (by omega) (fun z => by cases z)]
    exact trM_f
  · have q6 := wo.1.resolve_left q
    have x := h.rw' (r := (I 9 (t (5 + y)) 3).toNat) (by omega)
    rw [x.2.2]
    exact trM_cg (fun f hf => (h.eF f hf).symm) (by omega) (fun z => by
      unfold drW at z
      simp only [Bool.and_eq_true, decide_eq_true_eq] at z
      exact ⟨x.1.2, cntP_pos.mp z.2⟩)
theorem Rel.eto (h : Rel I t) {i y : Nat} (hi : (i : Int) < I 11 0 14) (hy : y < 4) : mtoW I i y = toW I t i (t (5 + y)) := by
  obtain ⟨⟨a1, a2, a3⟩, b, ⟨c1, c2, c3⟩, ⟨e1, e2, e3⟩, ⟨f1, _⟩, r, s⟩ := h.pO.2.2 i hi
  obtain ⟨w0, w1, w2, w3, wo⟩ := h.pW y hy
  have hh := h.pH (I 3 (20 + i) 2).toNat (by omega)
  have eG : gvT (I 108 0 i) (I 109 0 i) (I 110 0 i) 0 = gvS I (20 + i) 0 := by
    funext dy
    unfold gvT gvS
    rw [e1, e2, e3]
  have eA : ans (mH I (I 105 0 i).toNat) = aW I t (20 + i) := by
    rw [a1, ← hh.1]
    rfl
  have ef : mfaW I i y = faW I t i (t (5 + y)) := by
    unfold mfaW faW mfa
    rw [h.etr hi hy, eA, eG, b]
    exact faP_cg (fun f hf => (h.eF f hf).symm) (fun f hf => (h.eK f hf).symm) rfl
  unfold mtoW toW
  rw [ef, h.etr hi hy, eA, eG, (h.ow hi).2.2, w0, w2, s]
  have e5 : (if I 9 (t (5 + y)) 2 = -1 then 0 else I 9 (t (5 + y)) 2) = if 0 < I 9 (t (5 + y)) 2 then I 9 (t (5 + y)) 2 else 0 := by
    rcases wo.2 with q | q
    · rw [if_pos q, if_neg (by omega)]
    · rw [if_neg (by omega)]
      split <;> omega
  rw [e5]
theorem Rel.esh (h : Rel I t) {i y : Nat} (hi : (i : Int) < I 11 0 14) (hy : y < 4) (what : Int) : mshW I i y what = shW I t i (t (5 + y)) what := by
  obtain ⟨a, b, ⟨c1, c2, c3⟩, e, f, r, s⟩ := h.pO.2.2 i hi
  unfold mshW shW
  rw [h.eto hi hy, (h.ow hi).2.2, c1, s]
theorem Rel.esum (h : Rel I t) {y : Nat} (hy : y < 4) (what : Int) : msumW I y what = sumW I t (t (5 + y)) what := by
  have ho := h.pO
  have hb := ho.2.1
  unfold msumW sumW
  rw [ho.1]
  exact fo_cg _ 0 0 (fun i b _ hi => by rw [h.esh (by omega) hy])
theorem Rel.ebn (h : Rel I t) {i y : Nat} (hi : (i : Int) < I 11 0 14) (hy : y < 4) (bin right : Int) : mbnW I i y bin right = bnW I t i (t (5 + y)) bin right := by
  obtain ⟨⟨a1, a2, a3⟩, b, ⟨c1, c2, c3⟩, ⟨e1, e2, e3⟩, f, r, s⟩ := h.pO.2.2 i hi
  obtain ⟨w0, w1, w2, w3, wo⟩ := h.pW y hy
  have hh := h.pH (I 3 (20 + i) 2).toNat (by omega)
  have eA : ans (mH I (I 105 0 i).toNat) = aW I t (20 + i) := by
    rw [a1, ← hh.1]
    rfl
  unfold mbnW bnW msuB suB
  rw [h.eto hi hy, h.etr hi hy, (h.ow hi).2.2, c1, w1, eA, b]
  have es : ∀ p, suQ (aW I t (20 + i)) (gvT (I 108 0 i) (I 109 0 i) (I 110 0 i) (if I 9 (t (5 + y)) 1 = 0 then 0 else 1) (trW I t i (t (5 + y))).2) (I 3 (20 + i) 3) (trW I t i (t (5 + y))).1 (nM I) (I 49 0) (rv I (106 + i)) p = suQ (aW I t (20 + i)) (gvS I (20 + i) (if I 9 (t (5 + y)) 1 = 0 then 0 else 1) (trW I t i (t (5 + y))).2) (I 3 (20 + i) 3) (trW I t i (t (5 + y))).1 (I 22) (fun f => I 1 f 1) (rv I (106 + i)) p := fun p => by
    rw [suQ_cg (rv := rv I (106 + i)) (fun f hf => (h.eF f hf).symm) (fun f hf => (h.eK f hf).symm) rfl (h.ow hi).1.2]
    unfold gvT gvS
    rw [e1, e2, e3]
  rw [show suQ (aW I t (20 + i)) (gvT (I 108 0 i) (I 109 0 i) (I 110 0 i) (if I 9 (t (5 + y)) 1 = 0 then 0 else 1) (trW I t i (t (5 + y))).2) (I 3 (20 + i) 3) (trW I t i (t (5 + y))).1 (nM I) (I 49 0) (rv I (106 + i)) = _ from funext es]
theorem Rel.eall (h : Rel I t) {y : Nat} (hy : y < 4) (bin right : Int) : mallW I y bin right = allW I t (t (5 + y)) bin right := by
  have ho := h.pO
  have hb := ho.2.1
  unfold mallW allW
  rw [ho.1]
  exact fo_cg _ 0 0 (fun i b _ hi => by rw [h.ebn (by omega) hy])
theorem Rel.ems (h : Rel I t) {y : Nat} (hy : y < 4) (own : Int) : mmsW I y own = msW I t (t (5 + y)) own := by
  have ho := h.pO
  have hb := ho.2.1
  have hf := h.pF.1
  unfold mmsW msW
  rw [ho.1]
  exact fo_cg _ 0 0 (fun i b _ hi => by
    obtain ⟨_, e, ⟨c1, c2, c3⟩, _⟩ := ho.2.2 i (by omega)
    unfold mmsS msS
    rw [h.esh (by omega) hy, h.esh (by omega) hy, c1, e, (h.pF.2.2.1 (I 3 (20 + i) 4).toNat (by omega)).2.2.1])
end RELEQ
