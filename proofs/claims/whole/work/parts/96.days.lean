/-! days -/
theorem wa_in {A : Nat → (Nat → Int) → Int} {G : Int → Nat → Int} {ty : Nat → Int} (hA : ∀ g, 0 ≤ A 2 g ∧ A 2 g ≤ 100) (ht : R31 ty) : ∀ (n : Nat) (s : SS), R31 s.1 → R31 (waP (dayP A G ty) n s).1
  | 0, _, h => h
  | n + 1, s, h => wa_in hA ht n _ (pul_in (hA _) ht h)
theorem wa_s {α : Type} (f : α → α) (n : Nat) (a : α) : waP f (n + 1) a = f (waP f n a) := by
  rw [waP_add]
  rfl
theorem dyN_cg {k k' : Nat → Int} {l : Nat} (h : ∀ j, j < l → k j = k' j) : dyN k l = dyN k' l ∧ ddN k l = ddN k' l :=
  ⟨fo_cg _ _ _ (fun j b _ hj => by rw [h j (by omega)]), fo_cg _ _ _ (fun j b _ hj => by rw [h j (by omega)])⟩
theorem dyN_z {k : Nat → Int} {l : Nat} : ∀ n : Nat, (∀ j, j < n → k (l + j) = 0) → dyN k (l + n) = dyN k l + n ∧ ddN k (l + n) = ddN k l
  | 0, _ => ⟨by rw [Nat.add_zero]; show _ = dyN k l + ((0 : Nat) : Int); omega, rfl⟩
  | n + 1, h => by
    obtain ⟨a, b⟩ := dyN_z n (fun j hj => h j (by omega))
    have z := h n (by omega)
    rw [show l + (n + 1) = (l + n) + 1 by omega, dyN_s, ddN_s, if_pos z, if_pos z, a, b]
    exact ⟨by omega, rfl⟩
def sDy (r i c : Nat) : Bool := r == 13 || r == 27 || (r == 28 && decide (i < 20)) || (r == 3 && decide (i < 20) && c == 10)
theorem sMd_y {w : Nat} (hw : w < 20) {I J : H3} (F : Fr (sMd w) I J) : Fr sDy I J := F.mo (fun r i c k => by
  unfold sDy at k
  unfold sMd
  simp only [Bool.or_eq_false_iff, Bool.and_eq_false_iff, beq_eq_false_iff_ne, decide_eq_false_iff_not] at k ⊢
  omega)
section DAYC
variable {d : Nat} {I0 L : H3} {t : Nat → Nat} {N : Nat}
def wtC (I : H3) (t : Nat → Nat) (w N : Nat) : SS := waP (dayP (aW I t w) (gvD I w) (I 29 w)) N (c16 (I 28 w), I 3 w 10)
theorem l80 (hm : mnOk I0 t) {nm : Nat} (hn : I0 11 0 12 = (nm : Int)) (hN : N ≤ 60) (hnow : 0 ≤ I0 11 0 16 ∧ I0 11 0 16 + N ≤ 999) : ∀ (n k : Nat) (I : H3), k + n = nm → Fr sDy I0 I → (∀ w, w < k → (c16 (I 28 w), I 3 w 10) = wtC I0 t w N ∧ R31 (I 28 w)) → (∀ w, k ≤ w → I 28 w = I0 28 w ∧ I 3 w = I0 3 w) →
    ∃ J, Res (d + 4) 80 26 [vr 11 0, vi (N : Int), vi (k : Int)] [] (mk I L t) = some (vi (I0 11 0 16 + N), mk (up3 J 11 0 16 (I0 11 0 16 + N)) L t) ∧ Fr sDy I0 J ∧ (∀ w, w < nm → (c16 (J 28 w), J 3 w 10) = wtC I0 t w N ∧ R31 (J 28 w)) ∧ ∀ w, nm ≤ w → J 28 w = I0 28 w ∧ J 3 w = I0 3 w
  | 0, k, I, hk, F, h1, h2 => by
    have e : k = nm := by omega
    subst e
    have ew : w32 (I 11 0 16 + (N : Int)) = I0 11 0 16 + N := by rw [F 11 0 16 rfl, w32_s (by omega)]
    have r := P80_26_1 (d := d + 3) (x1 := (N : Int)) (x2 := (k : Int)) (I := I) (L := L) (t := t) (h1 := by rw [F 11 0 12 rfl, hn]; omega)
    rw [ew] at r
    exact ⟨I, r, F, h1, h2⟩
  | n + 1, k, I, hk, F, h1, h2 => by
    have nb := hm.1
    have k20 : k < 20 := by omega
    obtain ⟨m, m28, m29, _⟩ := hm.2 k (by omega)
    obtain ⟨o28, o3⟩ := h2 k (Nat.le_refl _)
    have o29 : I 29 = I0 29 := F.rg (fun _ _ => rfl)
    obtain ⟨mI, eA⟩ := mOk_fr F (by unfold sDy; simp) (fun i c => ⟨rfl, rfl, rfl, rfl⟩) m
    obtain ⟨J, c, FJ, vJ, rJ⟩ := s120 (d := d) (w := k) (I := I) (L := L) (t := t) (N := (N : Int)) mI (by rw [o29]; exact m29) (by rw [o28]; exact m28) (by omega)
    have eG : gvD I k = gvD I0 k := by
      funext dy
      unfold gvD
      rw [o3]
    rw [eA, eG, o29, o28, o3, Int.toNat_natCast] at vJ
    have Jo : ∀ w, w ≠ k → J 28 w = I 28 w ∧ J 3 w = I 3 w := fun w hw => ⟨FJ.ri (fun c => by
      unfold sMd
      simp only [Bool.or_eq_false_iff, Bool.and_eq_false_iff, beq_eq_false_iff_ne]
      omega), FJ.ri (fun c => by
      unfold sMd
      simp only [Bool.or_eq_false_iff, Bool.and_eq_false_iff, beq_eq_false_iff_ne]
      omega)⟩
    obtain ⟨K, r, rest⟩ := l80 hm hn hN hnow n (k + 1) J (by omega) (F.tr (sMd_y k20 FJ)) (fun w hw => by
      by_cases q : w = k
      · subst q
        exact ⟨vJ, rJ⟩
      · obtain ⟨a, b⟩ := Jo w q
        rw [a, b]
        exact h1 w (by omega)) (fun w hw => by
      obtain ⟨a, b⟩ := Jo w (by omega)
      rw [a, b]
      exact h2 w (by omega))
    refine ⟨K, Eq.trans (P80_26_0 (d := d + 3) (h1 := by rw [F 11 0 12 rfl, hn]; omega) (g1 := by omega) (c1 := by rw [Int.toNat_natCast]; exact c)) ?_, rest⟩
    rw [lem_w32k (k := k) (by omega)]
    exact r
end DAYC
section DAYM
variable {d : Nat} {I0 L : H3} {t : Nat → Nat} {N : Nat}
def wtM (I : H3) (w N : Nat) : SS := waP (dayP (mA I w) (mG I w) (c16 (ktM I w))) N (c16 (kpM I w), w32 (I 12 0 0 - I 86 0 w))
def sDn (r _ c : Nat) : Bool := r == 63 || r == 75 || r == 76 || r == 77 || r == 88 || (r == 12 && (c == 54 || c == 55))
def sDm (r _ c : Nat) : Bool := r == 63 || r == 75 || r == 76 || r == 77 || r == 88 || r == 90 || r == 91 || r == 92 || (r == 12 && (c == 0 || c == 54 || c == 55 || c == 72))
theorem sDn_m {I J : H3} (F : Fr sDn I J) : Fr sDm I J := F.mo (fun r i c k => by
  unfold sDm at k
  unfold sDn
  simp only [Bool.or_eq_false_iff, Bool.and_eq_false_iff, beq_eq_false_iff_ne, decide_eq_false_iff_not] at k ⊢
  omega)
/-- witnesses of the model that can be asked -/
def mdyOk (I : H3) (nm : Nat) : Prop := nm ≤ 20 ∧ (0 ≤ I 12 0 0 ∧ I 12 0 0 ≤ 999) ∧ ∀ w, w < nm → ((0 ≤ I 80 0 w ∧ I 80 0 w < 4) ∧ mhOk I (I 80 0 w).toNat ∧ okH (mH I (I 80 0 w).toNat)) ∧ R31 (kpM I w) ∧ R31 (ktM I w) ∧ 0 ≤ I 86 0 w ∧ I 86 0 w ≤ I 12 0 0
theorem mA_in {I : H3} {w k : Nat} (hk : k < 8) (g : Nat → Int) : rom 0 k ≤ mA I w k g ∧ mA I w k g ≤ rom 1 k := ans_in _ g hk
theorem wtM_in (hm : mdyOk I0 N) {w k : Nat} (hw : w < N) : R31 (wtM I0 w k).1 := wa_in (fun g => by
  have := mA_in (I := I0) (w := w) (k := 2) (by decide) g
  rw [r2_100.1, r2_100.2.1] at this
  exact this) (hm.2.2 w hw).2.2.1.d k _ (hm.2.2 w hw).2.1.d
theorem wtM_2 {nm : Nat} (hm : mdyOk I0 nm) {w k : Nat} (hw : w < nm) (hk : k ≤ 1000) : (wtM I0 w k).2 = I0 12 0 0 + k - I0 86 0 w := by
  have h := hm.2.2 w hw
  have h2 := hm.2.1
  have e : w32 (I0 12 0 0 - I0 86 0 w) = I0 12 0 0 - I0 86 0 w := w32_s (by omega)
  unfold wtM
  rw [waP_2 k _ (by show 0 ≤ w32 _; rw [e]; omega) (by show w32 _ + _ ≤ _; rw [e]; omega)]
  show w32 _ + _ = _
  rw [e]
  omega
theorem l200i {nm : Nat} (hm : mdyOk I0 nm) {x1 x2 : Int} {k : Nat} (hk : k ≤ 60) : ∀ (n j : Nat) (I : H3), j + n = nm → Fr sDm I0 I → I 12 0 2 = (nm : Int) → I 12 0 0 = I0 12 0 0 + k → (∀ w, w < nm → c16 (kpM I w) = (wtM I0 w (if w < j then k + 1 else k)).1) →
    ∃ J, Res (d + 4) 200 33 [vr 12 0, vi x1, vi x2, vi (j : Int)] [] (mk I L t) = Res (d + 4) 200 33 [vr 12 0, vi x1, vi x2, vi (nm : Int)] [] (mk J L t) ∧ Fr sDn I J ∧ ∀ w, w < nm → c16 (kpM J w) = (wtM I0 w (k + 1)).1
  | 0, j, I, hj, F, e2, e0, hv => by
    have e : j = nm := by omega
    subst e
    exact ⟨I, rfl, Fr.rfl', fun w hw => by
      have := hv w hw
      rw [if_pos hw] at this
      exact this⟩
  | n + 1, j, I, hj, F, e2, e0, hv => by
    have hjn : j < nm := by omega
    have h20 := hm.1
    have hb0 := hm.2.1
    obtain ⟨⟨b1, b2, b3⟩, b4, b5, b6⟩ := hm.2.2 j hjn
    obtain ⟨h, eh⟩ : ∃ h : Nat, I0 80 0 j = (h : Int) := ⟨(I0 80 0 j).toNat, by omega⟩
    have h4 : h < 4 := by omega
    have r80 : ∀ r, r = 80 ∨ r = 81 ∨ r = 83 ∨ r = 84 ∨ r = 85 ∨ r = 86 ∨ r = 87 ∨ r = 89 ∨ r = 55 ∨ r = 56 ∨ r = 57 → I r = I0 r := fun r hr => F.rg (fun _ c => by
      unfold sDm
      simp only [Bool.or_eq_false_iff, Bool.and_eq_false_iff, beq_eq_false_iff_ne]
      omega)
    rw [eh, Int.toNat_natCast] at b2 b3
    have emH : mH I h = mH I0 h := mH_cg (by rw [r80 55 (by omega)]) (by rw [r80 56 (by omega)]) (by rw [r80 57 (by omega)])
    have vj := hv j hjn
    rw [if_neg (Nat.lt_irrefl j)] at vj
    have rj : R31 (kpM I j) := R31.c (by rw [vj]; exact wtM_in hm hjn)
    obtain ⟨J1, c1, F1, a1⟩ := mtake (d := d + 2) (I := I) (L := L) (t := t) (w := j) (h := h) (by omega) (by rw [r80 80 (by omega), eh]) h4 (mhOk_cg (by rw [r80 56 (by omega)]) (by rw [r80 57 (by omega)]) b2) (by rw [emH]; exact b3) rj
    have ekt : ktM I j = ktM I0 j := by unfold ktM; rw [r80 89 (by omega)]
    rw [ekt] at a1
    obtain ⟨J2, c2, F2, a2⟩ := mday (d := d + 1) a1 (L := L) (t := t) b5.d
    have c3 := sp197 (d := d + 3) (I := J2) (L := L) (t := t) (w := j) (by omega)
    have emH1 : mH J1 h = mH I0 h := by
      rw [← emH]
      exact mH_fr F1 (fun _ => ⟨rfl, rfl, rfl⟩)
    have e76 := a2.2.2.2.1
    have edy : w32 (I 12 0 0 - I 86 0 j) = (wtM I0 j k).2 := by
      rw [wtM_2 hm hjn (by omega), r80 86 (by omega), e0, w32_s (by omega)]
    rw [emH1, edy, vj, r80 83 (by omega), r80 84 (by omega), r80 85 (by omega), r80 87 (by omega)] at e76
    have e76' : c16 (J2 76 0) = (wtM I0 j (k + 1)).1 := by
      rw [e76]
      unfold wtM
      rw [wa_s]
      unfold mA mG
      rw [eh, Int.toNat_natCast]
    have FC : Fr sDn I (sb J2 88 0 (16 * j) 16 (J2 76 0)) := ((F1.mo (fun r i c k => by
      unfold sDn at k
      unfold sTk
      simp only [Bool.or_eq_false_iff, Bool.and_eq_false_iff, beq_eq_false_iff_ne] at k ⊢
      omega)).tr (F2.mo (fun r i c k => by
      unfold sDn at k
      unfold sMy
      simp only [Bool.or_eq_false_iff, Bool.and_eq_false_iff, beq_eq_false_iff_ne] at k ⊢
      omega))).st (fun _ _ _ => rfl)
    obtain ⟨K, r, FK, vK⟩ := l200i hm hk (x1 := x1) (x2 := x2) n (j + 1) (sb J2 88 0 (16 * j) 16 (J2 76 0)) (by omega) (F.tr (sDn_m FC)) (by rw [FC 12 0 2 rfl]; exact e2) (by rw [FC 12 0 0 rfl]; exact e0) (fun w hw => by
      by_cases q : w = j
      · subst q
        rw [if_pos (by omega), ← e76']
        refine c16_cg (fun c hc => ?_)
        unfold kpM
        exact sb_in hc
      · have : c16 (kpM (sb J2 88 0 (16 * j) 16 (J2 76 0)) w) = c16 (kpM I w) := c16_cg (fun c hc => by
          unfold kpM
          rw [sb_out (by omega), F2 88 0 _ rfl, F1 88 0 _ rfl])
        rw [this, hv w hw]
        by_cases q2 : w < j
        · rw [if_pos q2, if_pos (by omega)]
        · rw [if_neg q2, if_neg (by omega)])
    refine ⟨K, Eq.trans (P200_33_0 (d := d + 3) (h1 := by rw [e2]; omega) (c1 := c1) (c2 := c2) (c3 := c3)) ?_, FC.tr FK, vK⟩
    rw [lem_w32k (k := j) (by omega)]
    exact r
theorem l200 {nm lg : Nat} (hm : mdyOk I0 nm) (e2 : I0 12 0 2 = (nm : Int)) (hN : N ≤ 60) (hnow : I0 12 0 0 + N ≤ 999) (hlg : I0 12 0 72 = (lg : Int)) (hl : lg + N ≤ 1900) : ∀ (n k : Nat) (I : H3) (u : MV), k + n = N → Fr sDm I0 I → I 12 0 0 = I0 12 0 0 + k → I 12 0 72 = ((lg + k : Nat) : Int) → (∀ c, c < lg → I 90 0 c = I0 90 0 c ∧ I 91 0 c = I0 91 0 c ∧ I 92 0 c = I0 92 0 c) → (∀ j, j < k → I 90 0 (lg + j) = 0) → (∀ w, w < nm → c16 (kpM I w) = (wtM I0 w k).1) →
    ∃ J, Res (d + 4) 200 26 [vr 12 0, vi (N : Int), vi (k : Int), u] [] (mk I L t) = some (vi (I0 12 0 0 + N), mk J L t) ∧ Fr sDm I0 J ∧ J 12 0 0 = I0 12 0 0 + N ∧ J 12 0 72 = ((lg + N : Nat) : Int) ∧ (∀ c, c < lg → J 90 0 c = I0 90 0 c ∧ J 91 0 c = I0 91 0 c ∧ J 92 0 c = I0 92 0 c) ∧ (∀ j, j < N → J 90 0 (lg + j) = 0) ∧ ∀ w, w < nm → c16 (kpM J w) = (wtM I0 w N).1
  | 0, k, I, u, hk, F, e0, e72, ho, hz, hv => by
    have e : k = N := by omega
    subst e
    have r := P200_26_1 (d := d + 3) (x1 := (k : Int)) (x2 := (k : Int)) (u3 := u) (I := I) (L := L) (t := t) (h1 := Int.le_refl _)
    rw [e0] at r
    exact ⟨I, r, F, e0, e72, ho, hz, hv⟩
  | n + 1, k, I, u, hk, F, e0, e72, ho, hz, hv => by
    have n0 := hm.2.1
    have r0 := P200_26_0 (d := d + 3) (x1 := (N : Int)) (x2 := (k : Int)) (u3 := u) (I := I) (L := L) (t := t) (h1 := by omega)
    obtain ⟨J1, r1, F1, v1⟩ := l200i (d := d) (L := L) (t := t) hm (x1 := (N : Int)) (x2 := (k : Int)) (k := k) (by omega) nm 0 I (by omega) F (by rw [F 12 0 2 rfl]; exact e2) e0 (fun w hw => by rw [if_neg (Nat.not_lt_zero w)]; exact hv w hw)
    have ew : w32 (J1 12 0 0 + 1) = I0 12 0 0 + ((k + 1 : Nat) : Int) := by
      rw [F1 12 0 0 rfl, e0, w32_s (by omega)]
      omega
    have e72' : up3 J1 12 0 0 (I0 12 0 0 + ((k + 1 : Nat) : Int)) 12 0 72 = ((lg + k : Nat) : Int) := by
      rw [up_s (by decide), F1 12 0 72 rfl, e72]
    have c1 := P195_0_0 (d := d + 3) (x1 := 0) (x2 := -1) (x3 := -1) (I := up3 J1 12 0 0 (I0 12 0 0 + ((k + 1 : Nat) : Int))) (L := L) (t := t) (g1 := by rw [e72']; omega)
    rw [e72', lem_w32k (k := lg + k) (by omega), Int.toNat_natCast] at c1
    have r2 := P200_33_1 (d := d + 3) (x1 := (N : Int)) (x2 := (k : Int)) (x3 := (nm : Int)) (I := J1) (L := L) (t := t) (h1 := by rw [F1 12 0 2 rfl, F 12 0 2 rfl, e2]; omega) (c1 := by rw [ew]; exact c1)
    rw [lem_w32k (k := k) (by omega)] at r2
    obtain ⟨B, hB⟩ : ∃ B : H3, B = up3 (up3 (up3 (up3 (up3 J1 12 0 0 (I0 12 0 0 + ((k + 1 : Nat) : Int))) 90 0 (lg + k) 0) 91 0 (lg + k) (-1)) 92 0 (lg + k) (-1)) 12 0 72 ((lg + k + 1 : Nat) : Int) := ⟨_, rfl⟩
    rw [← hB] at r2
    have FB : Fr sDm J1 B := by
      rw [hB]
      exact ((((Fr.rfl'.up rfl).up rfl).up rfl).up rfl).up rfl
    have b90 : ∀ c, B 90 0 c = if c = lg + k then 0 else J1 90 0 c := fun c => by
      rw [hB]
      by_cases q : c = lg + k
      · subst q
        simp [up3]
      · simp [up3, q]
    have b91 : ∀ c, c ≠ lg + k → B 91 0 c = J1 91 0 c ∧ B 92 0 c = J1 92 0 c := fun c q => by
      rw [hB]
      simp [up3, q]
    have b88 : B 88 = J1 88 := by
      rw [hB, up_r (show (88 : Nat) ≠ 12 by decide), up_r (show (88 : Nat) ≠ 92 by decide), up_r (show (88 : Nat) ≠ 91 by decide), up_r (show (88 : Nat) ≠ 90 by decide), up_r (show (88 : Nat) ≠ 12 by decide)]
    obtain ⟨K, r3, rest⟩ := l200 hm e2 hN hnow hlg hl n (k + 1) B (vi (nm : Int)) (by omega) (F.tr ((sDn_m F1).tr FB)) (by rw [hB]; simp [up3]) (by rw [hB, up_e]; rfl) (fun c hc => by
      rw [b90, if_neg (by omega), (b91 c (by omega)).1, (b91 c (by omega)).2, F1 90 0 c rfl, F1 91 0 c rfl, F1 92 0 c rfl]
      exact ho c hc) (fun j hj => by
      rw [b90]
      by_cases q : j = k
      · rw [if_pos (by omega)]
      · rw [if_neg (by omega), F1 90 0 _ rfl]
        exact hz j (by omega)) (fun w hw => by
      rw [← v1 w hw]
      unfold kpM
      rw [b88])
    exact ⟨K, Eq.trans r0 (Eq.trans r1 (Eq.trans r2 r3)), rest⟩
end DAYM
def sDd (r i c : Nat) : Bool := r == 13 || r == 27 || (r == 28 && decide (i < 20)) || (r == 3 && decide (i < 20) && c == 10) || (r == 11 && c == 16) || r == 63 || r == 75 || r == 76 || r == 77 || r == 88 || r == 90 || r == 91 || r == 92 || (r == 12 && (c == 0 || c == 54 || c == 55 || c == 72))
theorem rel_D {I K : H3} {t : Nat → Nat} (h : Rel I t) (F : Fr sDd I K) (pM : reM (I 11 0 10) (K 11 0 16) K) (pN : reN K) (pL : reL (I 11 0 10) (I 11 0 12) (I 11 0 13) (K 11 0 16) (I 11 0 11) K) (pU : reU (I 11 0 12) K) : Rel K t := by
  have hf := h.pF.1
  have b3 : ∀ w, 20 ≤ w → K 3 w = I 3 w := fun w hw => F.ri (fun c => by
    unfold sDd
    simp only [Bool.or_eq_false_iff, Bool.and_eq_false_iff, beq_eq_false_iff_ne, decide_eq_false_iff_not]
    omega)
  have big : ∀ r, 94 ≤ r → r ≤ 114 → K r = I r := fun r r1 r2 => F.rg (fun i c => by
    unfold sDd
    simp only [Bool.or_eq_false_iff, Bool.and_eq_false_iff, beq_eq_false_iff_ne, decide_eq_false_iff_not]
    omega)
  exact rel_mk (F 11 0 10 rfl) (F 11 0 11 rfl) (F 11 0 12 rfl) (F 11 0 13 rfl) rfl h.pP
    (reF_cg (fun f _ => ⟨F.ri (fun _ => rfl), F.ri (fun _ => rfl)⟩) (fun f _ => c16_cg (fun _ _ => F 48 0 _ rfl)) (fun f _ => ⟨F 49 0 f rfl, F 50 0 f rfl⟩) (F 11 0 10 rfl) (F 12 0 1 rfl) h.pF)
    (reT_cg (F.rg (fun _ _ => rfl)) (F.rg (fun _ _ => rfl)) h.pT)
    (reR_cg (Int.le_refl _) (fun r _ => ⟨F.ri (fun _ => rfl), F.ri (fun _ => rfl)⟩) (F.rg (fun _ _ => rfl)) (F.rg (fun _ _ => rfl)) h.pR)
    (reH_cg (F.rg (fun _ _ => rfl)) (F.rg (fun _ _ => rfl)) (F.rg (fun _ _ => rfl)) (F.rg (fun _ _ => rfl)) (F.rg (fun _ _ => rfl)) (F.rg (fun _ _ => rfl)) (F.rg (fun _ _ => rfl)) h.pH)
    (reS_cg (F.rg (fun _ _ => rfl)) (F.rg (fun _ _ => rfl)) (F.rg (fun _ _ => rfl)) (F.rg (fun _ _ => rfl)) (F.rg (fun _ _ => rfl)) (F.rg (fun _ _ => rfl)) (F.rg (fun _ _ => rfl)) (F 12 0 33 rfl) h.pS)
    (reW_cg (F.rg (fun _ _ => rfl)) (F.rg (fun _ _ => rfl)) (F.rg (fun _ _ => rfl)) (F.rg (fun _ _ => rfl)) (F.rg (fun _ _ => rfl)) h.pW)
    (reB_cg (F.rg (fun _ _ => rfl)) (F.rg (fun _ _ => rfl)) (F.rg (fun _ _ => rfl)) (F 12 0 36 rfl) (F 12 0 43 rfl) (F 12 0 50 rfl) h.pB)
    pM
    (reV_cg (Int.le_refl _) (Int.le_refl _) (F.rg (fun _ _ => rfl)) (fun i _ _ => ⟨F.ri (fun _ => rfl), F.ri (fun _ => rfl)⟩) (fun r r1 r2 => big r r1 (by omega)) (F 11 0 13 rfl) (F 12 0 3 rfl) h.pV)
    (reO_cg (Int.le_refl _) (fun i hi _ => b3 i hi) (F.rg (fun _ _ => rfl)) (fun i hi => ⟨F.ri (fun _ => rfl), F.ri (fun _ => rfl)⟩) (fun r r1 r2 => big r (by omega) r2) (F 11 0 14 rfl) (F 12 0 4 rfl) h.pO)
    pN pL
    (reC_cg (fun f _ => F 1 f 2 rfl) (F 11 0 11 rfl) h.pC) pU
theorem both_days (x : Int) : Both 80 200 [vi x] := fun d I L t h => by
  have N := h.pN
  have nb := N.2
  have n0 := N.1
  have M := h.pM
  have mb := M.2.1
  by_cases a : 1 ≤ x ∧ x ≤ 60
  · have e1 : w32 (I 11 0 16 + x) = I 11 0 16 + x := w32_s (by omega)
    have e2 : w32 (999 - x) = 999 - x := w32_s (by omega)
    by_cases b : I 11 0 16 + x ≤ 999
    · obtain ⟨n, rfl⟩ : ∃ n : Nat, x = (n : Int) := ⟨x.toNat, by omega⟩
      obtain ⟨nm, en⟩ : ∃ nm : Nat, I 11 0 12 = (nm : Int) := ⟨(I 11 0 12).toNat, by omega⟩
      have n60 : n ≤ 60 := by omega
      have nm20 : nm ≤ 20 := by omega
      obtain ⟨J, c0, FJ, vJ, oJ⟩ := l80 (d := d + 46) (L := L) (t := t) (N := n) h.mn en n60 (by omega) nm 0 I (by omega) Fr.rfl' (fun w hw => absurd hw (Nat.not_lt_zero w)) (fun w _ => ⟨rfl, rfl⟩)
      have cc := Eq.trans (P80_0_2 (d := d + 49) (I := I) (L := L) (t := t) (h1 := a) (h2 := by rw [e1]; exact b)) c0
      -- the model, on what the class left
      have FJ' : Fr (fun r i c => sDy r i c || (r == 11 && c == 16)) I (up3 J 11 0 16 (I 11 0 16 + n)) := (FJ.mo (fun r i c k => by
        simp only [Bool.or_eq_false_iff] at k
        exact k.1)).up rfl
      obtain ⟨A, hA⟩ : ∃ A : H3, A = up3 J 11 0 16 (I 11 0 16 + n) := ⟨_, rfl⟩
      rw [← hA] at cc FJ'
      have am : ∀ r, r = 12 ∨ 30 ≤ r → A r = I r := fun r hr => FJ'.rg (fun i c => by
        unfold sDy
        simp only [Bool.or_eq_false_iff, Bool.and_eq_false_iff, beq_eq_false_iff_ne, decide_eq_false_iff_not]
        omega)
      have emA : ∀ k, mH A k = mH I k := fun k => mH_cg (by rw [am 55 (by omega)]) (by rw [am 56 (by omega)]) (by rw [am 57 (by omega)])
      have mm := h.mm
      have md : mdyOk A nm := by
        refine ⟨nm20, by rw [am 12 (by omega), n0]; exact nb, fun w hw => ?_⟩
        have m := mm.2 w (by rw [M.1, en]; omega)
        have r := M.2.2 w (by omega)
        unfold kpM ktM
        rw [am 80 (by omega), am 86 (by omega), am 12 (by omega), am 88 (by omega), am 89 (by omega), emA, n0]
        refine ⟨⟨m.1.1, mhOk_cg (by rw [am 56 (by omega)]) (by rw [am 57 (by omega)]) m.1.2.1, m.1.2.2⟩, m.2.2.1, m.2.2.2.1, ?_⟩
        have := r.2.2.2.2.2.1
        omega
      obtain ⟨l1, l2, l3, l4, l5, l6⟩ := h.pL
      obtain ⟨lg, elg⟩ : ∃ lg : Nat, I 12 0 72 = (lg : Int) := ⟨(I 12 0 72).toNat, by omega⟩
      rw [elg, Int.toNat_natCast] at l2 l3
      have hds := h.ds.1
      have hall := dN_all (I 90 0) lg
      have hlg : lg + n ≤ 1900 := by omega
      obtain ⟨K, c1, FK, k0, k72, ko, kz, kv⟩ := l200 (d := d + 46) (L := L) (t := t) (N := n) md (by rw [am 12 (by omega), M.1, en]) n60 (by rw [am 12 (by omega), n0]; omega) (by rw [am 12 (by omega)]; exact elg) hlg n 0 A vx (by omega) Fr.rfl' (by omega) (by rw [am 12 (by omega)]; exact elg) (fun c _ => ⟨rfl, rfl, rfl⟩) (fun j hj => absurd hj (Nat.not_lt_zero j)) (fun w _ => rfl)
      have cm := Eq.trans (P200_0_2 (d := d + 49) (I := A) (L := L) (t := t) (h1 := a) (h2 := by rw [am 12 (by omega), n0, e2]; omega)) c1
      rw [am 12 (by omega), n0] at cm k0
      have G : Fr sDd I K := (FJ'.mo (fun r i c k => by
        unfold sDd at k
        unfold sDy
        simp only [Bool.or_eq_false_iff, Bool.and_eq_false_iff, beq_eq_false_iff_ne, decide_eq_false_iff_not] at k ⊢
        omega)).tr (FK.mo (fun r i c k => by
        unfold sDd at k
        unfold sDm
        simp only [Bool.or_eq_false_iff, Bool.and_eq_false_iff, beq_eq_false_iff_ne, decide_eq_false_iff_not] at k ⊢
        omega))
      have kA : ∀ r, r < 12 ∨ r = 28 ∨ r = 29 → K r = A r := fun r hr => FK.rg (fun _ c => by
        unfold sDm
        simp only [Bool.or_eq_false_iff, Bool.and_eq_false_iff, beq_eq_false_iff_ne]
        omega)
      have k16 : K 11 0 16 = I 11 0 16 + n := by rw [kA 11 (by omega), hA, up_e]
      have A3 : A 3 = J 3 := by rw [hA, up_r (show (3 : Nat) ≠ 11 by decide)]
      have A28 : A 28 = J 28 := by rw [hA, up_r (show (28 : Nat) ≠ 11 by decide)]
      have g90 : ∀ c, c < lg → K 90 0 c = I 90 0 c := fun c hc => by rw [(ko c hc).1, am 90 (by omega)]
      have gz := dyN_z (k := K 90 0) (l := lg) n kz
      have gc : ∀ l, l ≤ lg → dyN (K 90 0) l = dyN (I 90 0) l ∧ ddN (K 90 0) l = ddN (I 90 0) l := fun l hl => dyN_cg (fun j hj => g90 j (by omega))
      have gkeep : ∀ r, r = 46 ∨ r = 47 ∨ r = 50 ∨ r = 93 ∨ r = 94 ∨ r = 86 → K r = I r := fun r hr => G.rg (fun _ c => by
        unfold sDd
        simp only [Bool.or_eq_false_iff, Bool.and_eq_false_iff, beq_eq_false_iff_ne]
        omega)
      have U := h.pU
      refine ⟨_, _, L, _, L, t, cc, cm, rel_D h G ⟨by rw [G 12 0 2 rfl, G 11 0 12 rfl]; exact M.1, by rw [G 11 0 12 rfl]; exact mb, fun w hw => ?_⟩ ⟨by rw [k0, k16], by rw [k16]; omega⟩ ?_ ?_⟩
      · rw [G 11 0 12 rfl, en] at hw
        have hw' : w < nm := by omega
        have hwI : (w : Int) < I 11 0 12 := by omega
        obtain ⟨m1, m2, m3, m4, m5, m6, m7, ⟨m8, m8'⟩, m9, m9'⟩ := M.2.2 w hwI
        obtain ⟨v, v31⟩ := vJ w hw'
        have v' := kv w hw'
        -- both are the same
        have same : wtM A w n = wtC I t w n := by
          unfold wtM wtC
          have eA : mA A w = aW I t w := by
            rw [← h.eA hwI]
            unfold mA
            rw [am 80 (by omega), emA]
          have eG : mG A w = gvD I w := by
            have : mG A w = mG I w := by
              unfold mG
              rw [am 83 (by omega), am 84 (by omega), am 85 (by omega), am 87 (by omega)]
            rw [this, h.eG hwI]
            rfl
          have eT : c16 (ktM A w) = c16 (I 29 w) := by
            rw [← m9]
            unfold ktM
            rw [am 89 (by omega)]
          have eK : c16 (kpM A w) = c16 (I 28 w) := by
            rw [← m8]
            unfold kpM
            rw [am 88 (by omega)]
          have eD : w32 (A 12 0 0 - A 86 0 w) = I 3 w 10 := by
            rw [am 12 (by omega), am 86 (by omega)]
            exact h.eD hwI
          rw [eA, eG, eT, eK, eD, dayP_c]
        have q1 : c16 (J 28 w) = (wtC I t w n).1 := congrArg Prod.fst v
        have q2 : J 3 w 10 = (wtC I t w n).2 := congrArg Prod.snd v
        have q3 : (wtC I t w n).2 = I 3 w 10 + n := by
          unfold wtC
          exact waP_2 n _ (by show 0 ≤ I 3 w 10; omega) (by show I 3 w 10 + _ ≤ _; omega)
        have j3 : ∀ c, c ≠ 10 → J 3 w c = I 3 w c := fun c hc => FJ 3 w c (by
          unfold sDy
          simp only [Bool.or_eq_false_iff, Bool.and_eq_false_iff, beq_eq_false_iff_ne, decide_eq_false_iff_not]
          omega)
        have k8 : ∀ r, 80 ≤ r → r ≤ 89 → r ≠ 88 → K r = I r := fun r r1 r2 r3 => G.rg (fun _ c => by
          unfold sDd
          simp only [Bool.or_eq_false_iff, Bool.and_eq_false_iff, beq_eq_false_iff_ne]
          omega)
        have kk : c16 (kpM K w) = c16 (J 28 w) := by rw [v', same, q1]
        have kt : ktM K w = ktM I w := by
          unfold ktM
          rw [k8 89 (by decide) (by decide) (by decide)]
        unfold rmi
        rw [kk, kt, k8 80 (by decide) (by decide) (by decide), k8 81 (by decide) (by decide) (by decide), k8 82 (by decide) (by decide) (by decide), k8 83 (by decide) (by decide) (by decide), k8 84 (by decide) (by decide) (by decide), k8 85 (by decide) (by decide) (by decide), k8 86 (by decide) (by decide) (by decide), k8 87 (by decide) (by decide) (by decide), kA 3 (by omega), kA 28 (by omega), A3, A28, j3 2 (by decide), j3 3 (by decide), j3 4 (by decide), j3 5 (by decide), j3 6 (by decide), j3 7 (by decide), j3 8 (by decide), j3 9 (by decide), q2, q3, k16, G.rg (r := 29) (fun _ _ => rfl)]
        exact ⟨m1, m2, m3, m4, m5, ⟨m6.1, m6.2.1, by omega⟩, by omega, ⟨rfl, v31⟩, m9, m9'⟩
      · unfold reL
        rw [k72, Int.toNat_natCast, gz.1, gz.2, (gc lg (Nat.le_refl _)).1, (gc lg (Nat.le_refl _)).2, k16, G 11 0 15 rfl, gkeep 93 (by omega), gkeep 94 (by omega), gkeep 86 (by omega)]
        refine ⟨by omega, by omega, l3, fun l hl => ?_, fun w hw => ?_, fun i hi => ?_⟩
        · unfold rli
          by_cases q : l < lg
          · rw [(gc l (by omega)).1, (gc l (by omega)).2, (ko l q).1, (ko l q).2.1, (ko l q).2.2, am 90 (by omega), am 91 (by omega), am 92 (by omega), gkeep 46 (by omega), gkeep 47 (by omega), gkeep 50 (by omega), gkeep 94 (by omega)]
            exact l4 l (by omega)
          · left
            have := kz (l - lg) (by omega)
            rw [show lg + (l - lg) = l by omega] at this
            exact this
        · obtain ⟨a1, a2, a3⟩ := l5 w hw
          refine ⟨by omega, by rw [(gc _ (by omega)).1]; exact a2, fun l hl => ?_⟩
          rw [g90 l (by omega), (ko l (by omega)).2.1, am 91 (by omega)]
          exact a3 l hl
        · obtain ⟨l, b1, b2, b3, b4⟩ := l6 i hi
          refine ⟨l, b1, by omega, ?_, ?_⟩
          · rw [g90 l (by omega)]
            exact b3
          · rw [(ko l (by omega)).2.2, am 92 (by omega)]
            exact b4
      · unfold reU
        rw [k72]
        refine ⟨fun w w1 w2 => ?_, fun l hl h0 => ?_, fun w hw => by rw [G 60 0 w rfl]; exact U.2.2 w hw⟩
        · have old := U.1 w w1 w2
          rw [kA 3 (by omega), A3, G.rg (r := 87) (fun _ _ => rfl), FJ 3 w 8 (by
            unfold sDy
            simp only [Bool.or_eq_false_iff, Bool.and_eq_false_iff, beq_eq_false_iff_ne, decide_eq_false_iff_not]
            omega)]
          exact old
        · by_cases q : l < lg
          · rw [(ko l q).2.1, am 91 (by omega)]
            refine U.2.1 l (by omega) ?_
            rw [← g90 l q]
            exact h0
          · have := kz (l - lg) (by omega)
            rw [show lg + (l - lg) = l by omega] at this
            exact absurd this h0
    · exact ⟨-1, I, L, I, L, t, P80_0_1 (d := d + 49) (h1 := a) (h2 := by rw [e1]; omega), P200_0_1 (d := d + 49) (h1 := a) (h2 := by rw [n0, e2]; omega), h⟩
  · exact ⟨-1, I, L, I, L, t, P80_0_0 (d := d + 49) (h1 := a), P200_0_0 (d := d + 49) (h1 := a), h⟩
