/-! one step of the small machine is a step of the machine: arrays -/
theorem alen_sh {e r i : Nat} (h : 0 < alen e r i) : sh r i = .inr (e, alen e r i) := by
  unfold alen at h ⊢
  split at h
  · omega
  · next e' n hsh =>
    split at h
    · next he => subst he; simp [hsh]
    · omega
theorem ety_obj {k : Nat} : ety (10 + k) = .object (cst k) := by
  unfold ety
  rw [if_neg (by omega), if_neg (by omega), if_neg (by omega), if_neg (by omega), show 10 + k - 10 = k by omega]
theorem alen_sz {e r i : Nat} {j : Int} (h0 : 0 ≤ j) (h1 : j < alen e r i) : j.toNat < sz (r, i) := by
  unfold sz
  unfold alen at h1
  show j.toNat < match sh r i with | .inl c => cN c | .inr (_, n) => n
  cases hsh : sh r i with
  | inl c =>
    rw [hsh] at h1
    have h1 : j < ((0 : Nat) : Int) := h1
    omega
  | inr q =>
    rw [hsh] at h1
    obtain ⟨e', n⟩ := q
    show j.toNat < n
    dsimp only at h1
    split at h1 <;> omega
theorem ety_ref {e : Nat} (h : 9 ≤ e) : (ety e).isReference = true := by
  unfold ety
  rw [if_neg (by omega), if_neg (by omega), if_neg (by omega)]
  split <;> rfl
theorem vld_rom {G : GG} {k i : Nat} (hv : vld G k (rROM, i)) : i < 3 := by
  rcases hv with ⟨jj, _, hjj⟩ | hv | hv | hv
  · have h1 := isS_nm jj
    rw [hjj] at h1
    exact absurd h1 (by show ¬ (isS rROM = false); decide)
  · exact absurd hv.1 (by show ¬ (rROM = rSTR); decide)
  · exact hv.2
  · have h1 := congrArg Prod.fst hv
    exact absurd h1 (by show ¬ (rROM = rSCR); decide)
theorem vld_scr {G : GG} {k i : Nat} (hv : vld G k (rSCR, i)) : i = gL G := by
  rcases hv with ⟨jj, _, hjj⟩ | hv | hv | hv
  · have h1 := isS_nm jj
    rw [hjj] at h1
    exact absurd h1 (by show ¬ (isS rSCR = false); decide)
  · exact absurd hv.1 (by show ¬ (rSCR = rSTR); decide)
  · exact absurd hv.1 (by show ¬ (rSCR = rROM); decide)
  · exact congrArg Prod.snd hv
section S3S
variable {p : Program} {l : Launch} {e : Env} {R : Room} {s : State} {m : MethodId} {args : Array Value} {below : List Frame} {meth : Method} {c : Code} {H : Heap} {locs : List Loc} {cells slots : Nat} {Q : State → Prop}
variable {G : GG} {y d pc q q' : Nat} {lsr : Array Slot} {ls ls' st st' : List MV} {h h' : MS}
theorem arr_cell {ek r i : Nat} (hR : Rp G h H) (hv : vld G h.2.2.2 (r, i)) (hs : isS r = false) (ha : 0 < alen ek r i) : H[adr G (r, i)]? = some (arrV (gA G ek) (alen ek r i) (fun k => tv G (rdk h r i k (ekk ek)))) := by
  have := hR.1.cell hv hs
  unfold cell1 at this
  rw [show sh (r, i).1 (r, i).2 = .inr (ek, alen ek r i) from alen_sh ha] at this
  exact this
theorem arr_go {ek r i k : Nat} {v u1 u2 : MV} {rest : List MV} (D : Dy G s y lsr ls (u1 :: u2 :: vr r i :: rest) h H locs) (hs : isS r = false) (ha : 0 < alen ek r i) (w : WrT h h' r i k) (hsk : slotOk G h.2.2.2 h' r i k) (hrd : rdk h' r i k (ekk ek) = v) (K : Nx p l e R s m args below meth c cells slots Q G y h q ls rest h') :
    ∀ H' : Heap, H'[adr G (r, i)]? = some ((arrV (gA G ek) (alen ek r i) (fun k => tv G (rdk h r i k (ekk ek)))).setSlot k (tv G v)) → H'.size = H.size → (∀ q : Nat, q ≠ adr G (r, i) → H'[q]? = H[q]?) → W p l e R s m args below meth c H' (locs ++ [⟨adr G (r, i), k⟩]) cells slots Q (F0 m q lsr (rest.map (tv G))) := by
  intro H' e1 e2 e3
  have hv : vld G h.2.2.2 (r, i) := D.2.2.2 (vr r i) (List.mem_cons_of_mem _ (List.mem_cons_of_mem _ List.mem_cons_self))
  have hA : gB G ≤ adr G (r, i) := by rw [adr_dyn hs]; exact Nat.le_add_right _ _
  have hR : Rp G h' H' := by
    refine D.1.wr hv hs w hsk e2 e3 ?_
    unfold cell1
    rw [show sh (r, i).1 (r, i).2 = .inr (ek, alen ek r i) from alen_sh ha]
    show H'[adr G (r, i)]? = some (arrV (gA G ek) (alen ek r i) (fun k => tv G (rdk h' r i k (ekk ek))))
    rw [e1, arrV_store]
    congr 2
    funext t
    unfold updV
    by_cases et : t = k
    · subst et
      rw [if_pos rfl, hrd]
    · rw [if_neg et, w.rdk (fun z => et (by cases z; rfl))]
  have := K lsr H' (locs ++ [⟨adr G (r, i), k⟩]) ⟨hR, D.2.1.put e2 e3 hA, by rw [w.1]; exact D.2.2.1, fun u hu => by rw [w.1]; exact D.2.2.2 u (List.mem_cons_of_mem _ (List.mem_cons_of_mem _ (List.mem_cons_of_mem _ hu)))⟩
  rw [w.1, Nat.sub_self, Nat.add_zero, Nat.sub_self, Nat.add_zero] at this
  exact this
theorem hin_of {j : Int} {n : Nat} {cA : ClassId} {f : Nat → Value} (hj : w32 j = j) (h0 : 0 ≤ j) (h1 : j < n) : ¬ (Int32.ofInt j < 0 ∨ (arrV cA n f).slots.size ≤ (Int32.ofInt j).toNatClampNeg) := by
  rw [arrV_size]
  exact cn_in hj h0 h1
theorem hv_of {j : Int} {n : Nat} {cA : ClassId} {f : Nat → Value} (hj : w32 j = j) (h0 : 0 ≤ j) (h1 : j < n) : (arrV cA n f).slots[(Int32.ofInt j).toNatClampNeg]? = some (f j.toNat) := by
  rw [cn_nat hj, arrV_read _ _ (by omega)]
theorem s_iald (C0 : Cx G p R s m args meth c y d) (D : Dy G s y lsr ls st h H locs) (hd : decode (cod y) pc = .ok (.iaload, 1)) (hn : aldX 0 (pc + 1) ls st h = some (q', ls', st', h')) (K : Nx p l e R s m args below meth c cells slots Q G y h q' ls' st' h') : W p l e R s m args below meth c H locs cells slots Q (F0 m pc lsr (st.map (tv G))) := by
  obtain ⟨hx, hb, hml, hown, hts, hin, hK, hfr, hlo, hO⟩ := C0
  unfold aldX at hn
  split at hn
  · next j r i rest =>
    split at hn
    · next hg =>
      obtain ⟨h0, h1⟩ := hg
      obtain ⟨rfl, rfl, rfl, rfl⟩ := inj4 hn
      rw [if_neg (by decide)] at K
      have hj : w32 j = j := okc D
      have hv : vld G h.2.2.2 (r, i) := D.2.2.2 (vr r i) (List.mem_cons_of_mem _ List.mem_cons_self)
      have hr : ∀ w ∈ rest, okv G h.2.2.2 w := fun w hw => D.2.2.2 w (List.mem_cons_of_mem _ (List.mem_cons_of_mem _ hw))
      by_cases h2 : r = rROM
      · subst h2
        have hi : i < 3 := vld_rom hv
        have hld : ldI h rROM i j.toNat = rom i j.toNat := by unfold ldI; rw [if_pos rfl]
        have hok : okv G h.2.2.2 (vi (rom i j.toNat)) := by
          have h8 : j.toNat < 8 := by
            have : alen 0 rROM i = 8 := rfl
            omega
          have hall : ∀ a, a < 3 → ∀ b, b < 8 → w32 (rom a b) = rom a b := by decide +kernel
          exact hall i hi _ h8
        rw [hld] at K
        have kgo := K.go (D.stk (okp hok hr))
        refine va_ti hx hb (hO.2.1 i hi).1 D.2.1 (i := Int32.ofInt j) (v := .int (Int32.ofInt (rom i j.toNat))) ?_ ?_ hd kgo
        · exact cn_in hj h0 (by have : alen 0 rROM i = 8 := rfl
                                omega)
        · show Value.int (Int32.ofInt (rom i (Int32.ofInt j).toNatClampNeg)) = _
          rw [cn_nat hj]
      · have hld : ldI h r i j.toNat = h.1 r i j.toNat := by unfold ldI; rw [if_neg h2]
        rw [hld] at K
        have kgo := K.go (D.stk (okp (v := vi (h.1 r i j.toNat)) (D.1.1.2.2.2 r i j.toNat).1 hr))
        by_cases h3 : r = rSCR
        · subst h3
          have hi : i = gL G := vld_scr hv
          subst hi
          have hal : alen 0 rSCR (gL G) = gL G := rfl
          refine va_sld hx hb hO.2.2.2.2.1.1 (by have := hO.2.2.2.2.1.2; have := hO.2.2.2.2.2; omega) (by have := hO.2.2.2.2.1.2; omega) D.2.1 (i := Int32.ofInt j) (cn_in hj h0 (by omega)) hd ?_
          rw [cn_nat hj]
          have hs := D.1.2 j.toNat (by omega)
          have : Int32.ofInt (h.1 rSCR (gL G) j.toNat) = gX G j.toNat := by rw [hs, Int32.ofInt_toInt]
          rw [← this]
          exact kgo
        · have hs : isS r = false := by
            by_cases h4 : r = rSTR
            · subst h4
              have : alen 0 rSTR i = 0 := rfl
              omega
            · simp [isS, h2, h3, h4]
          have hc := arr_cell D.1 hv hs (ek := 0) (by omega)
          exact W.iald hx hb hc ((hK.2.1 0 (Or.inl rfl)).1 _ _) (fun q => by cases q) (hin_of hj h0 h1) (hv_of hj h0 h1) rfl rfl hd kgo
    · cases hn
  · cases hn
theorem isS_al {ek r i : Nat} (h1 : ek = 1 ∨ ek = 2 ∨ 9 ≤ ek) (h : 0 < alen ek r i) : isS r = false := by
  have hsh := alen_sh h
  unfold sh at hsh
  split at hsh
  · have h6 := congrArg Prod.fst (Sum.inr.inj hsh)
    dsimp only at h6
    omega
  · next h3 =>
    by_cases h2 : r = rROM
    · subst h2
      have h5 : (Sum.inr (0, 8) : Nat ⊕ (Nat × Nat)) = Sum.inr (ek, alen ek rROM i) := hsh
      have h6 : 0 = ek := congrArg Prod.fst (Sum.inr.inj h5)
      omega
    · by_cases h4 : r = rSTR
      · subst h4
        have h5 : (Sum.inr (7, 0) : Nat ⊕ (Nat × Nat)) = Sum.inr (ek, alen ek rSTR i) := hsh
        have h6 : 7 = ek := congrArg Prod.fst (Sum.inr.inj h5)
        omega
      · simp [isS, h2, h3, h4]
theorem ekk_ref {ek : Nat} (h : 9 ≤ ek) : ekk ek = 3 := by
  unfold ekk
  rw [if_neg (by omega), if_pos h]
theorem s_lald (C0 : Cx G p R s m args meth c y d) (D : Dy G s y lsr ls st h H locs) (hd : decode (cod y) pc = .ok (.laload, 1)) (hn : aldX 1 (pc + 1) ls st h = some (q', ls', st', h')) (K : Nx p l e R s m args below meth c cells slots Q G y h q' ls' st' h') : W p l e R s m args below meth c H locs cells slots Q (F0 m pc lsr (st.map (tv G))) := by
  obtain ⟨hx, hb, hml, hown, hts, hin, hK, hfr, hlo, hO⟩ := C0
  unfold aldX at hn
  split at hn
  · next j r i rest =>
    split at hn
    · next hg =>
      obtain ⟨h0, h1⟩ := hg
      obtain ⟨rfl, rfl, rfl, rfl⟩ := inj4 hn
      rw [if_pos rfl] at K
      have hj : w32 j = j := okc D
      have hv : vld G h.2.2.2 (r, i) := D.2.2.2 (vr r i) (List.mem_cons_of_mem _ List.mem_cons_self)
      have hr : ∀ w ∈ rest, okv G h.2.2.2 w := fun w hw => D.2.2.2 w (List.mem_cons_of_mem _ (List.mem_cons_of_mem _ hw))
      have kgo := K.go (D.stk (okp (v := vl (h.2.1 r i j.toNat)) (D.1.1.2.2.2 r i j.toNat).2.1 hr))
      have hc := arr_cell D.1 hv (isS_al (ek := 1) (r := r) (i := i) (Or.inl rfl) (by omega)) (ek := 1) (by omega)
      exact W.lald hx hb hc ((hK.2.1 1 (Or.inr (Or.inl rfl))).1 _ _) (fun q => by cases q) (hin_of hj h0 h1) (hv_of hj h0 h1) rfl rfl hd kgo
    · cases hn
  · cases hn
theorem s_zald (C0 : Cx G p R s m args meth c y d) (D : Dy G s y lsr ls st h H locs) (hd : decode (cod y) pc = .ok (.baload, 1)) (hn : aldX 2 (pc + 1) ls st h = some (q', ls', st', h')) (K : Nx p l e R s m args below meth c cells slots Q G y h q' ls' st' h') : W p l e R s m args below meth c H locs cells slots Q (F0 m pc lsr (st.map (tv G))) := by
  obtain ⟨hx, hb, hml, hown, hts, hin, hK, hfr, hlo, hO⟩ := C0
  unfold aldX at hn
  split at hn
  · next j r i rest =>
    split at hn
    · next hg =>
      obtain ⟨h0, h1⟩ := hg
      obtain ⟨rfl, rfl, rfl, rfl⟩ := inj4 hn
      have hs := isS_al (ek := 2) (r := r) (i := i) (Or.inr (Or.inl rfl)) (by omega)
      rw [if_neg (by decide)] at K
      have hld : ldI h r i j.toNat = h.1 r i j.toNat := by unfold ldI; rw [if_neg (isS_f hs).2.1]
      rw [hld] at K
      have hj : w32 j = j := okc D
      have hv : vld G h.2.2.2 (r, i) := D.2.2.2 (vr r i) (List.mem_cons_of_mem _ List.mem_cons_self)
      have hr : ∀ w ∈ rest, okv G h.2.2.2 w := fun w hw => D.2.2.2 w (List.mem_cons_of_mem _ (List.mem_cons_of_mem _ hw))
      have kgo := K.go (D.stk (okp (v := vi (h.1 r i j.toNat)) (D.1.1.2.2.2 r i j.toNat).1 hr))
      have hc := arr_cell D.1 hv hs (ek := 2) (by omega)
      exact W.zald hx hb hc ((hK.2.1 2 (Or.inr (Or.inr (Or.inl rfl)))).1 _ _) (fun q => by cases q) (hin_of hj h0 h1) (hv_of hj h0 h1) rfl rfl hd kgo
    · cases hn
  · cases hn
theorem s_aald (C0 : Cx G p R s m args meth c y d) (D : Dy G s y lsr ls st h H locs) (hd : decode (cod y) pc = .ok (.aaload, 1)) (hn : aaldX (pc + 1) ls st h = some (q', ls', st', h')) (K : Nx p l e R s m args below meth c cells slots Q G y h q' ls' st' h') : W p l e R s m args below meth c H locs cells slots Q (F0 m pc lsr (st.map (tv G))) := by
  obtain ⟨hx, hb, hml, hown, hts, hin, hK, hfr, hlo, hO⟩ := C0
  unfold aaldX at hn
  split at hn
  · next j r i rest =>
    split at hn
    · next hg =>
      obtain ⟨h9, h23, h0, h1⟩ := hg
      obtain ⟨rfl, rfl, rfl, rfl⟩ := inj4 hn
      have hj : w32 j = j := okc D
      have hv : vld G h.2.2.2 (r, i) := D.2.2.2 (vr r i) (List.mem_cons_of_mem _ List.mem_cons_self)
      have hr : ∀ w ∈ rest, okv G h.2.2.2 w := fun w hw => D.2.2.2 w (List.mem_cons_of_mem _ (List.mem_cons_of_mem _ hw))
      have hrd : ∀ k, rdk h r i k (ekk (aek r i)) = va (h.2.2.1 r i k) := by
        intro k
        rw [ekk_ref h9]
        rfl
      have hok : okv G h.2.2.2 (va (h.2.2.1 r i j.toNat)) := by
        rw [← hrd]
        exact okv_rdk D.1.1 hv (isS_al (ek := aek r i) (r := r) (i := i) (Or.inr (Or.inr h9)) (by omega)) (alen_sz h0 h1) _
      have kgo := K.go (D.stk (okp hok hr))
      have hc := arr_cell D.1 hv (isS_al (ek := aek r i) (r := r) (i := i) (Or.inr (Or.inr h9)) (by omega)) (ek := aek r i) (by omega)
      refine W.aald hx hb hc ((hK.2.1 (aek r i) (Or.inr (Or.inr (Or.inr ⟨h9, h23, eO_aek h9 h23⟩)))).1 _ _) (ety_ref h9) (fun q => by cases q) (hin_of hj h0 h1) (hv_of hj h0 h1) rfl rfl hd ?_
      rw [hrd]
      exact kgo
    · cases hn
  · cases hn
theorem s_iast (C0 : Cx G p R s m args meth c y d) {x : Int} {rest0 : List MV} (D : Dy G s y lsr ls (.inl x :: rest0) h H locs) (hd : decode (cod y) pc = .ok (.iastore, 1)) (hn : astX 0 (pc + 1) ls (.inl x :: rest0) h = some (q', ls', st', h')) (K : Nx p l e R s m args below meth c cells slots Q G y h q' ls' st' h') : W p l e R s m args below meth c H locs cells slots Q (F0 m pc lsr ((.inl x :: rest0).map (tv G))) := by
  obtain ⟨hx, hb, hml, hown, hts, hin, hK, hfr, hlo, hO⟩ := C0
  unfold astX at hn
  split at hn
  · next x' j r i rest he =>
    cases he
    split at hn
    · next hg =>
      obtain ⟨-, h0, h1, hs⟩ := hg
      obtain ⟨rfl, rfl, rfl, rfl⟩ := inj4 hn
      have hj : w32 j = j := D.2.2.2 (.inl j) (List.mem_cons_of_mem _ List.mem_cons_self)
      have hv : vld G h.2.2.2 (r, i) := D.2.2.2 (vr r i) (List.mem_cons_of_mem _ (List.mem_cons_of_mem _ List.mem_cons_self))
      have old := D.1.1.2.2.2 r i j.toNat
      have go := arr_go (ek := 0) D hs (by omega) (WrT.i h r i j.toNat x) ⟨by show w32 (up3 h.1 r i j.toNat x r i j.toNat) = up3 h.1 r i j.toNat x r i j.toNat; rw [up3_self]; exact okc D, old.2⟩ (v := vi x) (by show vi (up3 h.1 r i j.toNat x r i j.toNat) = _; rw [up3_self]) K
      rw [← cn_nat hj] at go
      exact W.iast hx hb (arr_cell D.1 hv hs (ek := 0) (by omega)) ((hK.2.1 0 (Or.inl rfl)).1 _ _) (fun q => by cases q) (hin_of hj h0 h1) rfl rfl hd go
    · cases hn
  · next he => cases he
  · next he => cases he
  · cases hn
theorem s_zast (C0 : Cx G p R s m args meth c y d) {x : Int} {rest0 : List MV} (D : Dy G s y lsr ls (.inl x :: rest0) h H locs) (hd : decode (cod y) pc = .ok (.bastore, 1)) (hn : astX 2 (pc + 1) ls (.inl x :: rest0) h = some (q', ls', st', h')) (K : Nx p l e R s m args below meth c cells slots Q G y h q' ls' st' h') : W p l e R s m args below meth c H locs cells slots Q (F0 m pc lsr ((.inl x :: rest0).map (tv G))) := by
  obtain ⟨hx, hb, hml, hown, hts, hin, hK, hfr, hlo, hO⟩ := C0
  unfold astX at hn
  split at hn
  · next x' j r i rest he =>
    cases he
    split at hn
    · next hg =>
      obtain ⟨hx1, h0, h1, hs⟩ := hg
      obtain ⟨rfl, rfl, rfl, rfl⟩ := inj4 hn
      have hx2 : x = 0 ∨ x = 1 := by
        rcases hx1 with z | z
        · omega
        · exact z.2
      have hj : w32 j = j := D.2.2.2 (.inl j) (List.mem_cons_of_mem _ List.mem_cons_self)
      have hv : vld G h.2.2.2 (r, i) := D.2.2.2 (vr r i) (List.mem_cons_of_mem _ (List.mem_cons_of_mem _ List.mem_cons_self))
      have old := D.1.1.2.2.2 r i j.toNat
      have go := arr_go (ek := 2) D hs (by omega) (WrT.i h r i j.toNat x) ⟨by show w32 (up3 h.1 r i j.toNat x r i j.toNat) = up3 h.1 r i j.toNat x r i j.toNat; rw [up3_self]; exact okc D, old.2⟩ (v := vi x) (by show vi (up3 h.1 r i j.toNat x r i j.toNat) = _; rw [up3_self]) K
      rw [← cn_nat hj] at go
      refine W.zast hx hb (arr_cell D.1 hv hs (ek := 2) (by omega)) ((hK.2.1 2 (Or.inr (Or.inr (Or.inl rfl)))).1 _ _) (fun q => by cases q) (hin_of hj h0 h1) rfl rfl hd ?_
      rw [(nar01 hx2).1]
      exact go
    · cases hn
  · next he => cases he
  · next he => cases he
  · cases hn
theorem s_last (C0 : Cx G p R s m args meth c y d) {x : Int} {rest0 : List MV} (D : Dy G s y lsr ls (vl x :: rest0) h H locs) (hd : decode (cod y) pc = .ok (.lastore, 1)) (hn : astX 1 (pc + 1) ls (vl x :: rest0) h = some (q', ls', st', h')) (K : Nx p l e R s m args below meth c cells slots Q G y h q' ls' st' h') : W p l e R s m args below meth c H locs cells slots Q (F0 m pc lsr ((vl x :: rest0).map (tv G))) := by
  obtain ⟨hx, hb, hml, hown, hts, hin, hK, hfr, hlo, hO⟩ := C0
  unfold astX at hn
  split at hn
  · next he => cases he
  · next x' j r i rest he =>
    cases he
    split at hn
    · next hg =>
      obtain ⟨-, h0, h1, hs⟩ := hg
      obtain ⟨rfl, rfl, rfl, rfl⟩ := inj4 hn
      have hj : w32 j = j := D.2.2.2 (.inl j) (List.mem_cons_of_mem _ List.mem_cons_self)
      have hv : vld G h.2.2.2 (r, i) := D.2.2.2 (vr r i) (List.mem_cons_of_mem _ (List.mem_cons_of_mem _ List.mem_cons_self))
      have old := D.1.1.2.2.2 r i j.toNat
      have go := arr_go (ek := 1) D hs (by omega) (WrT.l h r i j.toNat x) ⟨old.1, by show w64 (up3 h.2.1 r i j.toNat x r i j.toNat) = up3 h.2.1 r i j.toNat x r i j.toNat; rw [up3_self]; exact okc D, old.2.2⟩ (v := vl x) (by show vl (up3 h.2.1 r i j.toNat x r i j.toNat) = _; rw [up3_self]) K
      rw [← cn_nat hj] at go
      exact W.last hx hb (arr_cell D.1 hv hs (ek := 1) (by omega)) ((hK.2.1 1 (Or.inr (Or.inl rfl))).1 _ _) (fun q => by cases q) (hin_of hj h0 h1) rfl rfl hd go
    · cases hn
  · next he => cases he
  · cases hn
theorem s_aast (C0 : Cx G p R s m args meth c y d) {o : MR} {rest0 : List MV} (D : Dy G s y lsr ls (va (some o) :: rest0) h H locs) (hd : decode (cod y) pc = .ok (.aastore, 1)) (hn : astX 10 (pc + 1) ls (va (some o) :: rest0) h = some (q', ls', st', h')) (K : Nx p l e R s m args below meth c cells slots Q G y h q' ls' st' h') : W p l e R s m args below meth c H locs cells slots Q (F0 m pc lsr ((va (some o) :: rest0).map (tv G))) := by
  obtain ⟨hx, hb, hml, hown, hts, hin, hK, hfr, hlo, hO⟩ := C0
  unfold astX at hn
  split at hn
  · next he => cases he
  · next he => cases he
  · next r' i' j r i rest he =>
    cases he
    split at hn
    · next hg =>
      obtain ⟨-, h10, h23, hsh, h0, h1, hs, hs'⟩ := hg
      obtain ⟨rfl, rfl, rfl, rfl⟩ := inj4 hn
      have hj : w32 j = j := D.2.2.2 (.inl j) (List.mem_cons_of_mem _ List.mem_cons_self)
      have hv : vld G h.2.2.2 (r, i) := D.2.2.2 (vr r i) (List.mem_cons_of_mem _ (List.mem_cons_of_mem _ List.mem_cons_self))
      have hv' : vld G h.2.2.2 (r', i') := okc D
      have old := D.1.1.2.2.2 r i j.toNat
      have heo := eO_aek (r := r) (i := i) (by omega) h23
      generalize hek : aek r i = ek at *
      have hrd : ∀ (hh : MS) k, rdk hh r i k (ekk ek) = va (hh.2.2.1 r i k) := by
        intro hh k
        rw [ekk_ref (by omega)]
        rfl
      have go := arr_go (ek := ek) D hs (by omega) (WrT.p h r i j.toNat (some (r', i'))) ⟨old.1, old.2.1, fun qq _ _ _ hq => by
        have hq' : up3 h.2.2.1 r i j.toNat (some (r', i')) r i j.toNat = some qq := hq
        rw [up3_self] at hq'
        cases hq'
        exact hv'⟩ (v := vr r' i') (by rw [hrd]; show va (up3 h.2.2.1 r i j.toNat (some (r', i')) r i j.toNat) = _; rw [up3_self]) K
      rw [← cn_nat hj] at go
      have hc := arr_cell D.1 hv hs (ek := ek) (by omega)
      have hco := D.1.1.cell hv' hs'
      unfold cell1 at hco
      rw [hsh] at hco
      obtain ⟨cellV, g1, g2, g3, -⟩ := hco
      have hcl := hK.1 (ek - 10) (by omega)
      have hra := (hK.2.1 ek (Or.inr (Or.inr (Or.inr ⟨by omega, h23, heo⟩)))).2
      rw [show ek = 10 + (ek - 10) by omega, ety_obj, show 10 + (ek - 10) = ek by omega] at hra
      obtain ⟨kA, comp, k1, k2, k3, -⟩ := hra
      have hcomp : comp = gC G (ek - 10) := Option.some.inj (k3.symm.trans hcl.2.1)
      subst hcomp
      obtain ⟨kC, hkC, -⟩ := hcl.2.2
      have hi2 := hin_of (cA := gA G ek) (f := fun k => tv G (rdk h r i k (ekk ek))) hj h0 h1
      exact W.aast hx hb hc (fun q h => by cases h) (fun h => by cases h) k1 k2 rfl hkC ⟨fun z => hi2 (Or.inl z), Nat.not_le.mp fun z => hi2 (Or.inr z)⟩ g1 (fun q h => by rw [g3] at h; cases h) (by rw [g2]; exact hkC) (by rw [g2]; exact va_assign hcl.2) rfl rfl hd go
    · cases hn
  · cases hn
theorem s_alen (C0 : Cx G p R s m args meth c y d) {r i : Nat} {rest : List MV} (D : Dy G s y lsr ls (vr r i :: rest) h H locs) (hd : decode (cod y) pc = .ok (.arraylength, 1)) (hn : (if aek r i = 0 ∧ isS r = false ∧ 0 < alen 0 r i then nk (pc + 1) ls (vi (alen 0 r i) :: rest) h else if r = rSCR then nk (pc + 1) ls (vi i :: rest) h else none) = some (q', ls', st', h')) (hL : gL G ≤ 5120) (h5 : alen 0 r i ≤ 5120) (K : Nx p l e R s m args below meth c cells slots Q G y h q' ls' st' h') : W p l e R s m args below meth c H locs cells slots Q (F0 m pc lsr ((vr r i :: rest).map (tv G))) := by
  obtain ⟨hx, hb, hml, hown, hts, hin, hK, hfr, hlo, hO⟩ := C0
  have hv : vld G h.2.2.2 (r, i) := okc D
  split at hn
  · next hg =>
    obtain ⟨-, hs, ha⟩ := hg
    obtain ⟨rfl, rfl, rfl, rfl⟩ := inj4 hn
    have hcan : w32 (alen 0 r i : Int) = (alen 0 r i : Int) := w32_id (by omega) (by omega)
    have kgo := K.go (D.stk (okp (v := vi (alen 0 r i)) hcan (okt D)))
    refine W.alen hx hb (arr_cell D.1 hv hs ha) ((hK.2.1 0 (Or.inl rfl)).1 _ _) (n := Int32.ofInt (alen 0 r i)) ?_ rfl rfl hd kgo
    rw [arrV_size]
    rfl
  · split at hn
    · next h3 =>
      subst h3
      obtain ⟨rfl, rfl, rfl, rfl⟩ := inj4 hn
      have hi : i = gL G := vld_scr hv
      subst hi
      have hcan : w32 (gL G : Int) = (gL G : Int) := w32_id (by omega) (by omega)
      have kgo := K.go (D.stk (okp (v := vi (gL G)) hcan (okt D)))
      exact va_slen (b := gS G) hx hb hO.2.2.2.2.1.1 (by have := hO.2.2.2.2.1.2; have := hO.2.2.2.2.2; omega) (by have := hO.2.2.2.2.1.2; omega) D.2.1 hd kgo
    · cases hn
end S3S
