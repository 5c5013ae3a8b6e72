/-! the class: the bench's mind -/
def sT (r i _ : Nat) : Bool := r == 13 || r == 14 || r == 15 || r == 16 || r == 17 || r == 18 || r == 27 || (r == 3 && i == 60) || (r == 28 && i == 60) || (r == 29 && i == 60)
theorem sX_T {I J : H3} (h : Fr sX I J) : Fr sT I J := h.mo (fun r i c k => by
  simp only [sT, Bool.or_eq_false_iff] at k
  simp only [sX, Bool.or_eq_false_iff]
  exact k.1.1.1)
theorem sMd_T {I J : H3} (h : Fr (sMd 60) I J) : Fr sT I J := h.mo (fun r i c k => by
  simp only [sT, Bool.or_eq_false_iff] at k
  simp only [sMd, Bool.or_eq_false_iff]
  refine ⟨⟨⟨k.1.1.1.1.1.1.1.1.1, k.1.1.1.2⟩, k.1.2⟩, ?_⟩
  have := k.1.1.2
  simp only [Bool.and_eq_false_iff] at this ⊢
  exact Or.inl this)
theorem sSe_T {I J : H3} (h : Fr (sSe 60) I J) : Fr sT I J := h.mo (fun r i c k => by
  simp only [sT, Bool.or_eq_false_iff] at k
  simp only [sSe, Bool.or_eq_false_iff]
  refine ⟨⟨⟨⟨k.1.1.1.1.1.1.1.1.1, k.1.1.1.2⟩, k.1.2⟩, k.2⟩, ?_⟩
  have := k.1.1.2
  simp only [Bool.and_eq_false_iff] at this ⊢
  exact Or.inl this)
theorem sCm_T {I J : H3} (h : Fr sCm I J) : Fr sT I J := h.mo (fun r i c k => by
  simp only [sT, Bool.or_eq_false_iff] at k
  simp only [sCm, Bool.or_eq_false_iff]
  exact ⟨⟨k.1.1.1.1.1.1.1.1.1, k.1.1.1.1.1.1.2⟩, k.1.1.1.2⟩)
/-- what a mind may ask after dy days, told so often -/
def gvS (I : H3) (s : Nat) (told dy : Int) : Nat → Int := gvB (I 3 s 5) (I 3 s 6) (I 3 s 7) dy told
/-- the bench's mind is that of s, with this memory, type, days -/
def At60 (I J : H3) (s : Nat) (told : Int) (m ty : Nat → Int) (dy : Int) : Prop :=
  Fr sT I J ∧ (J 3 60 2 = I 3 s 2 ∧ J 3 60 3 = I 3 s 3 ∧ J 3 60 4 = I 3 s 4 ∧ J 3 60 5 = I 3 s 5 ∧ J 3 60 6 = I 3 s 6 ∧ J 3 60 7 = I 3 s 7 ∧ J 3 60 8 = told ∧ J 3 60 10 = dy) ∧ c16 (J 28 60) = m ∧ c16 (J 29 60) = ty ∧ R31 (J 28 60)
theorem At60.ok {I J : H3} {t : Nat → Nat} {s : Nat} {told : Int} {m ty : Nat → Int} {dy : Int} (h : At60 I J s told m ty dy) (hm : mOk I t s) : mOk J t 60 ∧ aW J t 60 = aW I t s ∧ gvD J 60 = gvS I s told ∧ gvW J 60 = gvS I s told dy := by
  obtain ⟨hF, ⟨h2, h3, h4, h5, h6, h7, h8, h10⟩, _⟩ := h
  have e23 : J 23 = I 23 := hF.rg (fun _ _ => rfl)
  have e24 : J 24 = I 24 := hF.rg (fun _ _ => rfl)
  have e25 : J 25 = I 25 := hF.rg (fun _ _ => rfl)
  have e26 : J 26 = I 26 := hF.rg (fun _ _ => rfl)
  refine ⟨?_, ?_, ?_, ?_⟩
  · unfold mOk
    rw [h2, hC_cg e23 e24 e25 e26]
    exact ⟨hm.1, hOk_cg e25 e26 hm.2.1, hm.2.2⟩
  · unfold aW
    rw [h2, hC_cg e23 e24 e25 e26]
  · unfold gvD gvS
    rw [h5, h6, h7, h8]
  · unfold gvW gvS
    rw [h5, h6, h7, h8, h10]
/-- kinds of faces, types, rows in bounds -/
def kOk (I : H3) : Prop := ∀ f, f < 120 → 0 ≤ I 1 f 1 ∧ I 1 f 1 < 6
def tyOk (I : H3) : Prop := ∀ k, k < 6 → R31 (I 115 k)
def rsOk (I : H3) : Prop := ∀ r, r < 6 → rwOk I r
section T60
variable {d s : Nat} {I L J : H3} {t : Nat → Nat} {told dy : Int} {m ty : Nat → Int}
theorem fr_fc (k : Fr sT I J) (h : fcOk I) : fcOk J := by
  unfold fcOk
  rw [k.rg (r := 22) (fun _ _ => rfl)]
  exact h
theorem fr_rw (k : Fr sT I J) {r : Nat} (h : rwOk I r) : rwOk J r ∧ rv J r = rv I r := by
  unfold rwOk rv
  rw [k.rg (r := 4) (fun _ _ => rfl), k.rg (r := 30) (fun _ _ => rfl)]
  exact ⟨h, rfl⟩
/-- n days for it -/
theorem wait60 (h : At60 I J s told m ty dy) (hm : mOk I t s) (hty : R31 ty) {N : Int} (hN : N < 100000) :
    ∃ J', Cal (d + 3) 120 [vr 11 0, vr 3 60, vi N] (mk J L t) = some (vx, mk J' L t) ∧ At60 I J' s told (waP (dayP (aW I t s) (gvS I s told) ty) N.toNat (m, dy)).1 ty (waP (dayP (aW I t s) (gvS I s told) ty) N.toNat (m, dy)).2 := by
  have ⟨o1, o2, o3, o4⟩ := h.ok hm
  obtain ⟨hF, ⟨h2, h3, h4, h5, h6, h7, h8, h10⟩, hmm, htt, h31⟩ := h
  obtain ⟨J', c, f, e, r31⟩ := s120 (d := d) (L := L) (N := N) o1 (R31.c (by rw [htt]; exact hty)) h31 hN
  rw [o2, o3, hmm, h10] at e
  have ed : dayP (aW I t s) (gvS I s told) (J 29 60) = dayP (aW I t s) (gvS I s told) ty := by rw [← dayP_c, htt]
  rw [ed] at e
  refine ⟨J', c, hF.tr (sMd_T f), ⟨?_, ?_, ?_, ?_, ?_, ?_, ?_, ?_⟩, ?_, ?_, r31⟩
  · rw [f 3 60 2 rfl, h2]
  · rw [f 3 60 3 rfl, h3]
  · rw [f 3 60 4 rfl, h4]
  · rw [f 3 60 5 rfl, h5]
  · rw [f 3 60 6 rfl, h6]
  · rw [f 3 60 7 rfl, h7]
  · rw [f 3 60 8 rfl, h8]
  · rw [← e]
  · rw [← e]
  · rw [f.ri (r := 29) (i := 60) (fun _ => rfl), htt]
/-- a pull with a row of numbers, once the pull is asked for -/
theorem pull60 (h : At60 I J s told m ty dy) (hm : mOk I t s) {r1 i1 : Nat} {o : Nat → Int} (ho : R31 o) (ha : alen 0 r1 i1 = 16) (hr : r1 ≠ 28) (hs : sAsk r1 i1 0 = false) (hld : ∀ (I' : H3) c, c < 16 → I' r1 i1 c = o c → ldI (mk I' L t) r1 i1 c = o c) (hv : ∀ c, c < 16 → J r1 i1 c = o c) :
    ∃ J1 J', Cal (d + 2) 114 [vr 11 0, vr 3 60, vi 3] (mk J L t) = some (vi (aW I t s 3 (gvS I s told dy)), mk J1 L t) ∧ Cal (d + 2) 23 [vr 3 60, vr r1 i1, vi (aW I t s 3 (gvS I s told dy))] (mk J1 L t) = some (vx, mk J' L t) ∧ At60 I J' s told (pulP (aW I t s 3 (gvS I s told dy)) o m) ty dy := by
  have ⟨o1, o2, o3, o4⟩ := h.ok hm
  obtain ⟨hF, ⟨h2, h3, h4, h5, h6, h7, h8, h10⟩, hmm, htt, h31⟩ := h
  obtain ⟨J1, c1, f1⟩ := s114 (d := d) (L := L) (k := 3) (by decide) o1
  rw [o2, o4] at c1
  have e28 : J1 28 = J 28 := f1.rg (fun _ _ => rfl)
  have hv1 : ∀ c, c < 16 → J1 r1 i1 c = o c := fun c hc => (f1 r1 i1 c hs).trans (hv c hc)
  have c2 := s23 (d := d + 2) (w := 60) (I := J1) (L := L) (t := t) (r1 := r1) (i1 := i1) (o := o) (b := aW I t s 3 (gvS I s told dy)) (by rw [e28]; exact h31) ha (fun n f c hc => hld _ c hc (by rw [sr_r hr]; exact hv1 c hc))
  have F1 : Fr sT I J1 := hF.tr (sX_T (sAsk_X f1))
  refine ⟨J1, _, c1, c2, F1.wr (fun c _ => rfl), ⟨?_, ?_, ?_, ?_, ?_, ?_, ?_, ?_⟩, ?_, ?_, ?_⟩
  · rw [sr_r (by decide), f1 3 60 2 rfl, h2]
  · rw [sr_r (by decide), f1 3 60 3 rfl, h3]
  · rw [sr_r (by decide), f1 3 60 4 rfl, h4]
  · rw [sr_r (by decide), f1 3 60 5 rfl, h5]
  · rw [sr_r (by decide), f1 3 60 6 rfl, h6]
  · rw [sr_r (by decide), f1 3 60 7 rfl, h7]
  · rw [sr_r (by decide), f1 3 60 8 rfl, h8]
  · rw [sr_r (by decide), f1 3 60 10 rfl, h10]
  · rw [sr_c16, c16_pul, e28, ← hmm, pul_c2]
  · rw [sr_r (by decide), f1.ri (r := 29) (i := 60) (fun _ => rfl), htt]
  · apply R31.c
    rw [sr_c16, c16_pul, e28]
    exact pul_in aW_3 ho h31
/-- its distances -/
theorem fW60 (h : At60 I J s told m ty dy) (hm : mOk I t s) : fW J t 60 = faP (aW I t s) (gvS I s told dy) (I 3 s 3) m (I 22) (fun f => I 1 f 1) := by
  have ⟨o1, o2, o3, o4⟩ := h.ok hm
  obtain ⟨hF, ⟨h2, h3, h4, h5, h6, h7, h8, h10⟩, hmm, htt, h31⟩ := h
  unfold fW
  rw [o2, o4, h3, hF.rg (r := 22) (fun _ _ => rfl), hF.rg (r := 1) (fun _ _ => rfl)]
  exact faP_cg (fun _ _ => rfl) (fun _ _ => rfl) (by rw [hmm, ← hmm, c16_c])
/-- the odds, out of plain data -/
def odQ (A : Nat → (Nat → Int) → Int) (G : Nat → Int) (fa rv : Int → Int) (each : Bool) (led push : Int) : Nat → Int :=
  odP each (allP (wtP fa rv (A 4 G) led push) (A 5 G)) (A 5 G) (wtP fa rv (A 4 G) led push)
theorem odds60 (h : At60 I J s told m ty dy) (hm : mOk I t s) (hF0 : fcOk I) {r : Nat} (hr : rwOk I r) {kind led push : Int} (hp : 0 ≤ push ∧ push ≤ 99) :
    ∃ J', Cal (d + 4) 127 [vr 11 0, vr 3 60, vr 4 r, vi kind, vi led, vi push] (mk J L t) = some (vx, mk J' L t) ∧ At60 I J' s told m ty dy ∧ Fr sX J J' ∧
      ∀ j, j < 10 → J' 15 0 j = odQ (aW I t s) (gvS I s told dy) (faP (aW I t s) (gvS I s told dy) (I 3 s 3) m (I 22) (fun f => I 1 f 1)) (rv I r) (decide (kind = 1)) led push j := by
  have ⟨o1, o2, o3, o4⟩ := h.ok hm
  have e := fW60 h hm
  obtain ⟨hF, ⟨h2, h3, h4, h5, h6, h7, h8, h10⟩, hmm, htt, h31⟩ := h
  have ⟨hr', er⟩ := fr_rw hF hr
  obtain ⟨J', c, f, ho⟩ := s127 (d := d) (L := L) (kind := kind) (led := led) (push := push) o1 h31 (fr_fc hF hF0) hr' hp
  refine ⟨J', c, ⟨hF.tr (sX_T f), ⟨?_, ?_, ?_, ?_, ?_, ?_, ?_, ?_⟩, ?_, ?_, ?_⟩, f, fun j hj => ?_⟩
  · rw [f 3 60 2 rfl, h2]
  · rw [f 3 60 3 rfl, h3]
  · rw [f 3 60 4 rfl, h4]
  · rw [f 3 60 5 rfl, h5]
  · rw [f 3 60 6 rfl, h6]
  · rw [f 3 60 7 rfl, h7]
  · rw [f 3 60 8 rfl, h8]
  · rw [f 3 60 10 rfl, h10]
  · rw [f.ri (r := 28) (i := 60) (fun _ => rfl), hmm]
  · rw [f.ri (r := 29) (i := 60) (fun _ => rfl), htt]
  · rw [f.ri (r := 28) (i := 60) (fun _ => rfl)]
    exact h31
  · rw [ho j hj]
    unfold odW wtW nbW odQ
    rw [e, o2, o4, er]
/-- how sure, out of plain data -/
def suQ (A : Nat → (Nat → Int) → Int) (G : Nat → Int) (k : Int) (m : Nat → Int) (F : Nat → Nat → Int) (K : Nat → Int) (rv : Int → Int) (p : Int) : Int :=
  if rv p = -1 then -1 else suP A G k m (F (rv p).toNat) (K (rv p).toNat) (gapP (faP A G k m F K) rv p (faP A G k m F K (rv p))) (faP A G k m F K (rv p))
theorem suQ_cg {A : Nat → (Nat → Int) → Int} {G : Nat → Int} {k : Int} {m m' : Nat → Int} {F F' : Nat → Nat → Int} {K K' : Nat → Int} {rv : Int → Int} {p : Int} (hF : Feq F F') (hK : Keq K K') (hm : c16 m = c16 m') (hr : rvB rv) : suQ A G k m F K rv p = suQ A G k m' F' K' rv p := by
  unfold suQ
  split
  · rfl
  · next h =>
    have hb := (hr p).resolve_left h
    rw [faP_cg hF hK hm, hK _ (by omega), suP_cg (hF _ (by omega)) hm]
theorem sure60 (h : At60 I J s told m ty dy) (hm : mOk I t s) (hF0 : fcOk I) {r : Nat} (hr : rwOk I r) {p : Int} :
    ∃ J', Cal (d + 5) 116 [vr 11 0, vr 3 60, vr 4 r, vi p] (mk J L t) = some (vi (suQ (aW I t s) (gvS I s told dy) (I 3 s 3) m (I 22) (fun f => I 1 f 1) (rv I r) p), mk J' L t) ∧ Fr sAsk J J' ∧ At60 I J' s told m ty dy := by
  have ⟨o1, o2, o3, o4⟩ := h.ok hm
  have e := fW60 h hm
  obtain ⟨hF, ⟨h2, h3, h4, h5, h6, h7, h8, h10⟩, hmm, htt, h31⟩ := h
  have ⟨hr', er⟩ := fr_rw hF hr
  obtain ⟨J', c, f⟩ := s116 (d := d) (L := L) (p := p) o1 h31 (fr_fc hF hF0) hr'
  refine ⟨J', c.trans ?_, f, hF.tr (sX_T (sAsk_X f)), ⟨?_, ?_, ?_, ?_, ?_, ?_, ?_, ?_⟩, ?_, ?_, ?_⟩
  · have e2 : suW J t 60 r p = suQ (aW J t 60) (gvW J 60) (J 3 60 3) (J 28 60) (J 22) (fun f => J 1 f 1) (rv J r) p := rfl
    rw [e2, o2, o4, h3, er, hF.rg (r := 22) (fun _ _ => rfl), hF.rg (r := 1) (fun _ _ => rfl), suQ_cg (m' := m) (rv := rv I r) (fun _ _ => rfl) (fun _ _ => rfl) (by rw [hmm, ← hmm, c16_c]) hr.2]
  · rw [f 3 60 2 rfl, h2]
  · rw [f 3 60 3 rfl, h3]
  · rw [f 3 60 4 rfl, h4]
  · rw [f 3 60 5 rfl, h5]
  · rw [f 3 60 6 rfl, h6]
  · rw [f 3 60 7 rfl, h7]
  · rw [f 3 60 8 rfl, h8]
  · rw [f 3 60 10 rfl, h10]
  · rw [f.ri (r := 28) (i := 60) (fun _ => rfl), hmm]
  · rw [f.ri (r := 29) (i := 60) (fun _ => rfl), htt]
  · rw [f.ri (r := 28) (i := 60) (fun _ => rfl)]
    exact h31
/-- shown to it -/
theorem shown60 (h : At60 I J s told m ty dy) (hm : mOk I t s) (hF0 : fcOk I) {i : Nat} (hr : rwOk I (6 + i)) :
    ∃ J', Cal (d + 3) 121 [vr 11 0, vr 3 60, vr 6 i] (mk J L t) = some (vx, mk J' L t) ∧ At60 I J' s told (shwP (I 22) (rv I (6 + i)) (aW I t s 3 (gvS I s told dy)) (I 6 i 6) m) ty dy := by
  have ⟨o1, o2, o3, o4⟩ := h.ok hm
  obtain ⟨hF, ⟨h2, h3, h4, h5, h6, h7, h8, h10⟩, hmm, htt, h31⟩ := h
  have ⟨hr', er⟩ := fr_rw hF hr
  obtain ⟨J', c, f, r31, e⟩ := s121 (d := d) (L := L) o1 h31 (fr_fc hF hF0) hr'
  rw [o2, o4, er, hmm, hF.rg (r := 22) (fun _ _ => rfl), hF.rg (r := 6) (fun _ _ => rfl)] at e
  refine ⟨J', c, hF.tr (sMd_T (sMm_Md f)), ⟨?_, ?_, ?_, ?_, ?_, ?_, ?_, ?_⟩, e, ?_, r31⟩
  · rw [f 3 60 2 rfl, h2]
  · rw [f 3 60 3 rfl, h3]
  · rw [f 3 60 4 rfl, h4]
  · rw [f 3 60 5 rfl, h5]
  · rw [f 3 60 6 rfl, h6]
  · rw [f 3 60 7 rfl, h7]
  · rw [f 3 60 8 rfl, h8]
  · rw [f 3 60 10 rfl, h10]
  · rw [f.ri (r := 29) (i := 60) (fun _ => rfl), htt]
/-- it puts a face together -/
theorem comp60 (h : At60 I J s told m ty dy) (hm : mOk I t s) (hF0 : fcOk I) {r : Nat} (hr : rwOk I r) (hh : hasF (rv I r)) :
    ∃ J', Cal (d + 3) 122 [vr 11 0, vr 3 60, vr 4 r] (mk J L t) = some (vx, mk J' L t) ∧ At60 I J' s told m ty dy ∧ c16 (J' 16 0) = cmP (I 22) (fun p => nbP (I 22) (rv I r) m (2 * p) (aW I t s 7 (gvS I s told dy))) := by
  have ⟨o1, o2, o3, o4⟩ := h.ok hm
  obtain ⟨hF, ⟨h2, h3, h4, h5, h6, h7, h8, h10⟩, hmm, htt, h31⟩ := h
  have ⟨hr', er⟩ := fr_rw hF hr
  have e22 : J 22 = I 22 := hF.rg (r := 22) (fun _ _ => rfl)
  obtain ⟨J', c, f, e⟩ := s122 (d := d) (L := L) o1 (fr_fc hF hF0) hr' h31 (by rw [er]; exact hh)
  refine ⟨J', c, ⟨hF.tr (sCm_T f), ⟨?_, ?_, ?_, ?_, ?_, ?_, ?_, ?_⟩, ?_, ?_, ?_⟩, ?_⟩
  · rw [f 3 60 2 rfl, h2]
  · rw [f 3 60 3 rfl, h3]
  · rw [f 3 60 4 rfl, h4]
  · rw [f 3 60 5 rfl, h5]
  · rw [f 3 60 6 rfl, h6]
  · rw [f 3 60 7 rfl, h7]
  · rw [f 3 60 8 rfl, h8]
  · rw [f 3 60 10 rfl, h10]
  · rw [f.ri (r := 28) (i := 60) (fun _ => rfl), hmm]
  · rw [f.ri (r := 29) (i := 60) (fun _ => rfl), htt]
  · rw [f.ri (r := 28) (i := 60) (fun _ => rfl)]
    exact h31
  · rw [e, e22, er]
    unfold npW
    rw [o2, o4, e22]
    exact cmP_cg (fun _ _ => rfl) (fun p hp => ⟨nbP_cg (fun _ _ => rfl) hr.2 (by rw [hmm, ← hmm, c16_c]) (by omega), nbP_in hr.2 hh⟩)
/-- the start: the sight of s -/
theorem start60 (hm : mOk I t s) (hF0 : fcOk I) (hs : snOk I s) (told : Int) :
    ∃ I2, Fr sT I I2 ∧ I2 = up3 (up3 (up3 (up3 (up3 (up3 (up3 I 3 60 2 (I 3 s 2)) 3 60 3 (I 3 s 3)) 3 60 4 (I 3 s 4)) 3 60 5 (I 3 s 5)) 3 60 6 (I 3 s 6)) 3 60 7 (I 3 s 7)) 3 60 8 told ∧ mOk I2 t 60 ∧ aW I2 t 60 = aW I t s ∧ gvD I2 60 = gvS I s told ∧ fcOk I2 ∧ snOk I2 60 ∧ I2 3 60 4 = I 3 s 4 ∧ I2 22 = I 22 ∧
      (∀ J, Fr (sSe 60) I2 J → c16 (J 28 60) = seeP (aW I t s) (gvS I s told) (I 22 (I 3 s 4).toNat) → J 3 60 10 = 0 → ∀ ty, c16 (J 29 60) = ty → At60 I J s told (seeP (aW I t s) (gvS I s told) (I 22 (I 3 s 4).toNat)) ty 0) := by
  refine ⟨_, ?_, rfl, ?_⟩
  · exact ((((((Fr.rfl'.up rfl).up rfl).up rfl).up rfl).up rfl).up rfl).up rfl
  · have F : Fr sT I (up3 (up3 (up3 (up3 (up3 (up3 (up3 I 3 60 2 (I 3 s 2)) 3 60 3 (I 3 s 3)) 3 60 4 (I 3 s 4)) 3 60 5 (I 3 s 5)) 3 60 6 (I 3 s 6)) 3 60 7 (I 3 s 7)) 3 60 8 told) := ((((((Fr.rfl'.up rfl).up rfl).up rfl).up rfl).up rfl).up rfl).up rfl
    have e23 := F.rg (r := 23) (fun _ _ => rfl)
    have e24 := F.rg (r := 24) (fun _ _ => rfl)
    have e25 := F.rg (r := 25) (fun _ _ => rfl)
    have e26 := F.rg (r := 26) (fun _ _ => rfl)
    refine ⟨?_, ?_, ?_, fr_fc F hF0, ?_, ?_, ?_, ?_⟩
    · refine ⟨hm.1, ?_⟩
      rw [hC_cg e23 e24 e25 e26]
      exact ⟨hOk_cg e25 e26 hm.2.1, hm.2.2⟩
    · unfold aW
      rw [hC_cg e23 e24 e25 e26]
      rfl
    · rfl
    · exact hs
    · rfl
    · exact F.rg (r := 22) (fun _ _ => rfl)
    · intro J f h28 h10 ty h29
      refine ⟨F.tr (sSe_T f), ⟨f 3 60 2 rfl, f 3 60 3 rfl, f 3 60 4 rfl, f 3 60 5 rfl, f 3 60 6 rfl, f 3 60 7 rfl, f 3 60 8 rfl, h10⟩, h28, h29, ?_⟩
      apply R31.c
      rw [h28]
      exact seeP_in
theorem copy60 : Cal (d + 1) 22 [vr 3 60, vr 3 s] (mk I L t) = some (vx, mk (up3 (up3 (up3 (up3 (up3 (up3 I 3 60 2 (I 3 s 2)) 3 60 3 (I 3 s 3)) 3 60 4 (I 3 s 4)) 3 60 5 (I 3 s 5)) 3 60 6 (I 3 s 6)) 3 60 7 (I 3 s 7)) L t) := P22_0_0 (c1 := P21_0_0)
end T60
/-! a world by a way -/
def trM (A : Nat → (Nat → Int) → Int) (Gd : Int → Nat → Int) (F : Nat → Nat → Int) (seen : Nat) (ty : Nat → Int) (dr : Bool) (rvd : Int → Int) (waits : Nat) : (Nat → Int) × Int :=
  waP (dayP A Gd ty) waits (if dr then pulP (A 3 (Gd 0)) (cmP F (fun p => nbP F rvd (seeP A Gd (F seen)) (2 * p) (A 7 (Gd 0)))) (seeP A Gd (F seen)) else seeP A Gd (F seen), 0)
section TRY
variable {d i y : Nat} {I L : H3} {t : Nat → Nat}
/-- a world in bounds -/
def wdOk (I : H3) (t : Nat → Nat) (i : Nat) : Prop := mOk I t (20 + i) ∧ snOk I (20 + i) ∧ rwOk I (106 + i) ∧ 0 ≤ I 10 i 2 ∧ I 10 i 2 ≤ 60
/-- a way in bounds -/
def wyOk (I : H3) (y : Nat) : Prop := (I 9 y 3 = -1 ∨ (0 ≤ I 9 y 3 ∧ I 9 y 3 < 6)) ∧ (I 9 y 2 = -1 ∨ (0 ≤ I 9 y 2 ∧ I 9 y 2 ≤ 99))
/-- whether a face is put together on the way -/
def drW (I : H3) (y : Nat) : Bool := decide (I 9 y 3 ≠ -1) && decide (0 < cntP (rv I (I 9 y 3).toNat))
def trW (I : H3) (t : Nat → Nat) (i y : Nat) : (Nat → Int) × Int := trM (aW I t (20 + i)) (gvS I (20 + i) 0) (I 22) (I 3 (20 + i) 4).toNat (c16 (I 115 (I 1 (I 3 (20 + i) 4).toNat 1).toNat)) (drW I y) (rv I (I 9 y 3).toNat) (I 10 i 2).toNat
def faW (I : H3) (t : Nat → Nat) (i y : Nat) : Int → Int := faP (aW I t (20 + i)) (gvS I (20 + i) 0 (trW I t i y).2) (I 3 (20 + i) 3) (trW I t i y).1 (I 22) (fun f => I 1 f 1)
/-- the odds of a world by a way -/
def toW (I : H3) (t : Nat → Nat) (i y : Nat) : Nat → Int := odQ (aW I t (20 + i)) (gvS I (20 + i) 0 (trW I t i y).2) (faW I t i y) (rv I (106 + i)) (decide (¬ I 9 y 0 = 0)) (if I 9 y 2 = -1 then -1 else I 10 i 3) (if 0 < I 9 y 2 then I 9 y 2 else 0)
theorem sp133 (hi : i < 40) (hw : wdOk I t i) (hy : wyOk I y) (hF : fcOk I) (hK : kOk I) (hT : tyOk I) (hR : rsOk I) :
    ∃ J, Cal (d + 5) 133 [vr 11 0, vr 10 i, vr 9 y] (mk I L t) = some (vx, mk J L t) ∧ At60 I J (20 + i) 0 (trW I t i y).1 (c16 (I 115 (I 1 (I 3 (20 + i) 4).toNat 1).toNat)) (trW I t i y).2 ∧ ∀ j, j < 10 → J 15 0 j = toW I t i y j := by
  obtain ⟨hm, hs, hr, hn0, hn1⟩ := hw
  obtain ⟨I2, F2, e2, m2, a2, g2, fc2, sn2, e24, e222, fin⟩ := start60 (t := t) hm hF hs 0
  have hk := hK (I 3 (20 + i) 4).toNat (by have := hs.1; have := hs.2; omega)
  have e01 : I2 1 = I 1 := F2.rg (fun _ _ => rfl)
  obtain ⟨J3, c3, f3, m3, t3, d3⟩ := s119a (d := d + 1) (k := (I2 1 (I2 3 60 4).toNat 1).toNat) (L := L) m2 fc2 sn2
  have e115 : I2 115 = I 115 := F2.rg (fun _ _ => rfl)
  rw [a2, g2, e222, e24] at m3
  rw [e115, e01, e24] at t3
  have A3 := fin J3 f3 m3 d3 _ t3
  have hty : R31 (c16 (I 115 (I 1 (I 3 (20 + i) 4).toNat 1).toNat)) := (hT _ (by omega)).d
  have c2 : Cal (d + 4) 118 [vr 11 0, vr 3 60] (mk I2 L t) = some (vr 115 (I2 1 (I2 3 60 4).toNat 1).toNat, mk I2 L t) := P118_0_0 (g1 := sn2) (g2 := by rw [e01, e24]; exact hk)
  have c2' : Cal (d + 4) 118 [vr 11 0, vr 3 60] (mk (up3 (up3 (up3 (up3 (up3 (up3 (up3 I 3 60 2 (I 3 (20 + i) 2)) 3 60 3 (I 3 (20 + i) 3)) 3 60 4 (I 3 (20 + i) 4)) 3 60 5 (I 3 (20 + i) 5)) 3 60 6 (I 3 (20 + i) 6)) 3 60 7 (I 3 (20 + i) 7)) 3 60 8 0) L t) = some (vr 115 (I2 1 (I2 3 60 4).toNat 1).toNat, mk I2 L t) := by rw [← e2]; exact c2
  have e9 : ∀ J, Fr sT I J → J 9 = I 9 := fun J k => k.rg (fun _ _ => rfl)
  have e10 : ∀ J, Fr sT I J → J 10 = I 10 := fun J k => k.rg (fun _ _ => rfl)
  -- up to the days
  have mid : ∃ J4, Cal (d + 5) 133 [vr 11 0, vr 10 i, vr 9 y] (mk I L t) = Res (d + 5) 133 85 [vr 11 0, vr 10 i, vr 9 y, vr 3 60, vx] [] (mk J4 L t) ∧ At60 I J4 (20 + i) 0 (if drW I y then pulP (aW I t (20 + i) 3 (gvS I (20 + i) 0 0)) (cmP (I 22) (fun p => nbP (I 22) (rv I (I 9 y 3).toNat) (seeP (aW I t (20 + i)) (gvS I (20 + i) 0) (I 22 (I 3 (20 + i) 4).toNat)) (2 * p) (aW I t (20 + i) 7 (gvS I (20 + i) 0 0)))) (seeP (aW I t (20 + i)) (gvS I (20 + i) 0) (I 22 (I 3 (20 + i) 4).toNat)) else seeP (aW I t (20 + i)) (gvS I (20 + i) 0) (I 22 (I 3 (20 + i) 4).toNat)) (c16 (I 115 (I 1 (I 3 (20 + i) 4).toNat 1).toNat)) 0 := by
    have F3 := A3.1
    by_cases h1 : I 9 y 3 = -1
    · have hd : drW I y = false := by
        unfold drW
        rw [decide_eq_false (fun k => k h1)]
        rfl
      rw [hd]
      exact ⟨J3, P133_0_2 (c1 := copy60) (c2 := c2') (c3 := c3) (h1 := by rw [e9 _ F3]; exact h1), A3⟩
    · have h6 := hy.1.resolve_left h1
      have hrd := hR (I 9 y 3).toNat (by omega)
      have ⟨hrd3, er3⟩ := fr_rw F3 hrd
      have c4 : Cal (d + 4) 27 [vr 4 (I 9 y 3).toNat] (mk J3 L t) = some (vi (cntP (rv J3 (I 9 y 3).toNat)), mk J3 L t) := sp27 hrd3
      rw [er3] at c4
      by_cases h2 : 0 < cntP (rv I (I 9 y 3).toNat)
      · have hd : drW I y = true := by
          unfold drW
          rw [decide_eq_true (show I 9 y 3 ≠ -1 from h1), decide_eq_true h2]
          rfl
        rw [hd]
        have hh := cntP_pos.mp h2
        obtain ⟨J5, c5, A5, e5⟩ := comp60 (d := d + 1) (L := L) A3 hm hF hrd hh
        obtain ⟨J6, J7, c6, c7, A7⟩ := pull60 (d := d + 2) (L := L) (r1 := 16) (i1 := 0) (o := c16 (J5 16 0)) A5 hm (by rw [e5]; exact cmP_in hF (fun p _ => nbP_in hrd.2 hh)) rfl (by decide) rfl (fun I' c _ h => h) (fun c hc => (c16_lt hc).symm)
        rw [e5] at A7
        refine ⟨J7, P133_0_0 (c1 := copy60) (c2 := c2') (c3 := c3) (h1 := by rw [e9 _ F3]; exact h1) (g1 := by rw [e9 _ F3]; exact h6) (c4 := by rw [e9 _ F3]; exact c4) (h2 := h2) (g2 := by rw [e9 _ F3]; exact h6) (c5 := by rw [e9 _ F3]; exact c5) (c6 := c6) (c7 := c7), A7⟩
      · have hd : drW I y = false := by
          unfold drW
          rw [decide_eq_false h2, Bool.and_false]
        rw [hd]
        exact ⟨J3, P133_0_1 (c1 := copy60) (c2 := c2') (c3 := c3) (h1 := by rw [e9 _ F3]; exact h1) (g1 := by rw [e9 _ F3]; exact h6) (c4 := by rw [e9 _ F3]; exact c4) (h2 := by omega), A3⟩
  obtain ⟨J4, cm, A4⟩ := mid
  have F4 := A4.1
  obtain ⟨J5, c5, A5⟩ := wait60 (d := d + 1) (L := L) (N := I 10 i 2) A4 hm hty (by omega)
  have F5 := A5.1
  have ep : 0 ≤ (if 0 < I 9 y 2 then I 9 y 2 else 0) ∧ (if 0 < I 9 y 2 then I 9 y 2 else 0) ≤ 99 := by
    split
    · rcases hy.2 with h | h <;> omega
    · decide
  by_cases h2 : I 9 y 2 = -1
  · by_cases h0 : I 9 y 0 = 0
    · obtain ⟨J6, c6, A6, _, o6⟩ := odds60 (d := d) (L := L) (kind := 0) (led := -1) A5 hm hF hr ep
      refine ⟨J6, cm.trans (P133_85_1 (c1 := by rw [e10 _ F4]; exact c5) (h1 := by rw [e9 _ F5]; exact h2) (h2 := by rw [e9 _ F5]; exact h0) (c2 := by rw [e9 _ F5]; exact c6)), A6, fun j hj => ?_⟩
      rw [o6 j hj]
      unfold toW
      rw [if_pos h2, decide_eq_false (p := ¬ I 9 y 0 = 0) (fun k => k h0)]
      rfl
    · obtain ⟨J6, c6, A6, _, o6⟩ := odds60 (d := d) (L := L) (kind := 1) (led := -1) A5 hm hF hr ep
      refine ⟨J6, cm.trans (P133_85_0 (c1 := by rw [e10 _ F4]; exact c5) (h1 := by rw [e9 _ F5]; exact h2) (h2 := by rw [e9 _ F5]; exact h0) (c2 := by rw [e9 _ F5]; exact c6)), A6, fun j hj => ?_⟩
      rw [o6 j hj]
      unfold toW
      rw [if_pos h2, decide_eq_true (p := ¬ I 9 y 0 = 0) h0]
      rfl
  · by_cases h0 : I 9 y 0 = 0
    · obtain ⟨J6, c6, A6, _, o6⟩ := odds60 (d := d) (L := L) (kind := 0) (led := I 10 i 3) A5 hm hF hr ep
      refine ⟨J6, cm.trans (P133_85_3 (c1 := by rw [e10 _ F4]; exact c5) (h1 := by rw [e9 _ F5]; exact h2) (h2 := by rw [e9 _ F5]; exact h0) (c2 := by rw [e9 _ F5, e10 _ F5]; exact c6)), A6, fun j hj => ?_⟩
      rw [o6 j hj]
      unfold toW
      rw [if_neg h2, decide_eq_false (p := ¬ I 9 y 0 = 0) (fun k => k h0)]
      rfl
    · obtain ⟨J6, c6, A6, _, o6⟩ := odds60 (d := d) (L := L) (kind := 1) (led := I 10 i 3) A5 hm hF hr ep
      refine ⟨J6, cm.trans (P133_85_2 (c1 := by rw [e10 _ F4]; exact c5) (h1 := by rw [e9 _ F5]; exact h2) (h2 := by rw [e9 _ F5]; exact h0) (c2 := by rw [e9 _ F5, e10 _ F5]; exact c6)), A6, fun j hj => ?_⟩
      rw [o6 j hj]
      unfold toW
      rw [if_neg h2, decide_eq_true (p := ¬ I 9 y 0 = 0) h0]
      rfl
end TRY
