/-! one step of the small machine is a step of the machine: fields and arrays -/
theorem sh_inl {r i ci : Nat} (h : sh r i = .inl ci) : isS r = false := by
  unfold sh at h
  split at h
  · cases h
  · next h1 =>
    by_cases h2 : r = rROM
    · subst h2
      cases h
    · by_cases h3 : r = rSTR
      · subst h3
        cases h
      · simp [isS, h1, h2, h3]
theorem up3_self {α : Type} (f : Nat → Nat → Nat → α) (r i s : Nat) (v : α) : up3 f r i s v r i s = v := by simp [up3]
theorem up3_ne {α : Type} (f : Nat → Nat → Nat → α) {r i s a b c : Nat} (v : α) (h : (a, b, c) ≠ (r, i, s)) : up3 f r i s v a b c = f a b c := by
  unfold up3
  rw [if_neg]
  rintro ⟨rfl, rfl, rfl⟩
  exact h rfl
/-- h' is h but for one slot -/
def WrT (h h' : MS) (r i s : Nat) : Prop := h'.2.2.2 = h.2.2.2 ∧ ∀ a b t, (a, b, t) ≠ (r, i, s) → h'.1 a b t = h.1 a b t ∧ h'.2.1 a b t = h.2.1 a b t ∧ h'.2.2.1 a b t = h.2.2.1 a b t
theorem WrT.rdk {h h' : MS} {r i s : Nat} (w : WrT h h' r i s) {a b t : Nat} (hn : (a, b, t) ≠ (r, i, s)) (k : Nat) : rdk h' a b t k = rdk h a b t k := by
  obtain ⟨e1, e2, e3⟩ := w.2 a b t hn
  unfold Jvm.Pilot.@@N@@.rdk
  rw [e1, e2, e3]
theorem WrT.i (h : MS) (r i s : Nat) (x : Int) : WrT h (up3 h.1 r i s x, h.2) r i s := ⟨rfl, fun _ _ _ hn => ⟨up3_ne _ _ hn, rfl, rfl⟩⟩
theorem WrT.l (h : MS) (r i s : Nat) (x : Int) : WrT h (h.1, up3 h.2.1 r i s x, h.2.2) r i s := ⟨rfl, fun _ _ _ hn => ⟨rfl, up3_ne _ _ hn, rfl⟩⟩
theorem WrT.p (h : MS) (r i s : Nat) (x : Option MR) : WrT h (h.1, h.2.1, up3 h.2.2.1 r i s x, h.2.2.2) r i s := ⟨rfl, fun _ _ _ hn => ⟨rfl, rfl, up3_ne _ _ hn⟩⟩
def slotOk (G : GG) (k : Nat) (h : MS) (r i s : Nat) : Prop := w32 (h.1 r i s) = h.1 r i s ∧ w64 (h.2.1 r i s) = h.2.1 r i s ∧ ∀ q, vld G k (r, i) → isS r = false → s < sz (r, i) → h.2.2.1 r i s = some q → vld G k q
theorem Rp.wr {G : GG} {h h' : MS} {H H' : Heap} (R : Rp G h H) {r i s : Nat} (hv : vld G h.2.2.2 (r, i)) (hs : isS r = false) (w : WrT h h' r i s) (hc : slotOk G h.2.2.2 h' r i s) (hz : H'.size = H.size) (ho : ∀ q : Nat, q ≠ adr G (r, i) → H'[q]? = H[q]?) (hn : cell1 G h' (r, i) (adr G (r, i)) H') : Rp G h' H' := by
  refine ⟨R.1.write hv hs w.1 (fun a b t hne => w.2 a b t (fun z => hne (by cases z; rfl))) (fun t => ?_) hz ho hn, fun j hj => ?_⟩
  · by_cases e : t = s
    · subst e
      exact hc
    · obtain ⟨e1, e2, e3⟩ := w.2 r i t (fun z => e (by cases z; rfl))
      show w32 (h'.1 r i t) = h'.1 r i t ∧ _ ∧ _
      rw [e1, e2, e3]
      exact R.1.2.2.2 r i t
  · rw [(w.2 rSCR (gL G) j (fun z => (isS_f hs).2.2 (by cases z; rfl))).1]
    exact R.2 j hj
section S2S
variable {p : Program} {l : Launch} {e : Env} {R : Room} {s : State} {m : MethodId} {args : Array Value} {below : List Frame} {meth : Method} {c : Code} {H : Heap} {locs : List Loc} {cells slots : Nat} {Q : State → Prop}
variable {G : GG} {y d pc q q' : Nat} {lsr : Array Slot} {ls ls' st st' : List MV} {h h' : MS}
theorem s_get (C0 : Cx G p R s m args meth c y d) (D : Dy G s y lsr ls st h H locs) {ix : Nat} (hd : decode (cod y) pc = .ok (.getfield ix, 3)) (hn : getX (own y) ix (pc + 3) ls st h = some (q', ls', st', h')) (K : Nx p l e R s m args below meth c cells slots Q G y h q' ls' st' h') : W p l e R s m args below meth c H locs cells slots Q (F0 m pc lsr (st.map (tv G))) := by
  obtain ⟨hx, hb, hml, hown, hts, hin, hK, hfr, hlo, hO⟩ := C0
  unfold getX at hn
  split at hn
  · next ci sk ne ps r i rest hf =>
    split at hn
    · next hsh =>
      obtain ⟨rfl, rfl, rfl, rfl⟩ := inj4 hn
      have hw := byo fld_all hf
      simp only [fldW, Bool.and_eq_true, decide_eq_true_eq] at hw
      obtain ⟨⟨hc, hk⟩, ha⟩ := hw
      have hv : vld G h.2.2.2 (r, i) := okc D
      have hcell := D.1.1.cell hv (sh_inl hsh)
      unfold cell1 at hcell
      rw [hsh] at hcell
      obtain ⟨cell, q1, q2, q3, q4⟩ := hcell
      obtain ⟨hS, hfc, kC, hkC, hkind⟩ := hK.1 ci hc
      obtain ⟨cf, kf, fi, f, hi, hsl⟩ := hS sk hk
      have hst := (u_facts hfc hkC (u_lays hts (lays_in hc) hk) hi).1
      rw [of_decide_eq_true (rg2 cT1_all hc hk)] at hi
      have kgo := K.go (D.stk (okp (okv_rdk D.1.1 hv (sh_inl hsh) (show sk < sz (r, i) by unfold sz; rw [show sh (r, i).1 (r, i).2 = .inl ci from hsh]; exact hk) (ftk ci sk)) (okt D)))
      by_cases hne : ne = 0
      · rw [if_pos hne] at ha
        exact W.getf hx hb hown (hts _ (tt_in (tb_in (at_in ha)) rfl)) hi hst q1 (by rw [q3]; exact fun h => by cases h) (by rw [hsl]; exact q4 sk hk) rfl rfl hd kgo
      · rw [if_neg hne] at ha
        exact va_Wgetf hx hb hown (va_Nw.use rfl (hK.2.2.1 _ (at_in ha) rfl)) hi hst q1 (by rw [q3]; exact fun h => by cases h) (by rw [hsl]; exact q4 sk hk) rfl rfl hd kgo
    · cases hn
  · cases hn
theorem s_put0 (C0 : Cx G p R s m args meth c y d) {ix ci sk ne ps r i : Nat} {v : MV} {rest : List MV} (D : Dy G s y lsr ls (v :: vr r i :: rest) h H locs) (hd : decode (cod y) pc = .ok (.putfield ix, 3)) (hf : fldR (own y) ix = some (ci, sk, ne, ps)) (hsh : sh r i = .inl ci)
    (hfin : fin ci sk = true → knd y = 2 ∧ own y = ci ∧ ne = 0) (hnar : narrow (cty ci sk) (tv G v) = tv G v) (hfit : fits (cty ci sk) (tv G v) = true) (w : WrT h h' r i sk) (hsk : slotOk G h.2.2.2 h' r i sk) (hrd : rdk h' r i sk (ftk ci sk) = v) (K : Nx p l e R s m args below meth c cells slots Q G y h (pc + 3) ls rest h') : W p l e R s m args below meth c H locs cells slots Q (F0 m pc lsr ((v :: vr r i :: rest).map (tv G))) := by
  obtain ⟨hx, hb, hml, hown, hts, hin, hK, hfr, hlo, hO⟩ := C0
  have hw := byo fld_all hf
  simp only [fldW, Bool.and_eq_true, decide_eq_true_eq] at hw
  obtain ⟨⟨hc, hk⟩, ha⟩ := hw
  have hv : vld G h.2.2.2 (r, i) := D.2.2.2 (vr r i) (List.mem_cons_of_mem _ List.mem_cons_self)
  have hs0 := sh_inl hsh
  have hcell := D.1.1.cell hv hs0
  unfold cell1 at hcell
  rw [hsh] at hcell
  obtain ⟨cell, q1, q2, q3, q4⟩ := hcell
  obtain ⟨hS, hfc, kC, hkC, hkind⟩ := hK.1 ci hc
  obtain ⟨cf, kf, fi, f, hi, hsl⟩ := hS sk hk
  have hap := va_apart (own := onm (own y)) hts (lays_in hc) (cty ci) (cty_ok ci hc) (cnm_ok ci hc) hK.va (mcl_at ci hc)
  have hst := (u_facts hfc hkC (u_lays hts (lays_in hc) hk) hi).1
  have hT1 := of_decide_eq_true (rg2 cT1_all hc hk)
  have hff := rg2 fin_all hc hk
  have hA : gB G ≤ adr G (r, i) := by rw [adr_dyn hs0]; exact Nat.le_add_right _ _
  have go : ∀ H' : Heap, H'[adr G (r, i)]? = some (cell.setSlot f.slot (tv G v)) → H'.size = H.size → (∀ q : Nat, q ≠ adr G (r, i) → H'[q]? = H[q]?) → W p l e R s m args below meth c H' (locs ++ [⟨adr G (r, i), f.slot⟩]) cells slots Q (F0 m (pc + 3) lsr (rest.map (tv G))) := by
    intro H' e1 e2 e3
    have hR : Rp G h' H' := by
      refine D.1.wr hv hs0 w hsk e2 e3 ?_
      unfold cell1
      rw [hsh]
      rw [hsl] at e1
      refine ⟨_, e1, q2, q3, fun k hk2 => ?_⟩
      rw [t_set q4 hap hk (tv G v) k hk2]
      show some (updV _ sk (tv G v) k) = some (tv G (rdk h' r i k (ftk ci k)))
      unfold updV
      by_cases ek : k = sk
      · subst ek
        rw [if_pos rfl, hrd]
      · rw [if_neg ek, w.rdk (fun z => ek (by cases z; rfl))]
    have := K lsr H' (locs ++ [⟨adr G (r, i), f.slot⟩]) ⟨hR, D.2.1.put e2 e3 hA, by rw [w.1]; exact D.2.2.1, fun u hu => by rw [w.1]; exact D.2.2.2 u (List.mem_cons_of_mem _ (List.mem_cons_of_mem _ hu))⟩
    rw [w.1, Nat.sub_self, Nat.add_zero, Nat.sub_self, Nat.add_zero] at this
    exact this
  have hlt : f.slot < cell.slots.size := by rw [hsl]; exact k2_hasslot (q4 sk hk)
  by_cases hfn : fin ci sk = true
  · obtain ⟨g1, g2, g3⟩ := hfin hfn
    rw [if_pos g3] at ha
    have hlay := hts _ (lays_in hc _ (u_in_lay hk))
    unfold u_lay at hlay
    rw [if_pos (by rw [← hfn]; exact (beq_iff_eq.mp hff).symm)] at hlay
    have hcf : m.cls = cf := by
      obtain ⟨_, _, c', _, _, _, -, -, hf', -, -, -, hown2, -⟩ := Cond.laysFinal_spec hlay
      have e1 : c' = cf := by have := hi.symm.trans hf'; simp at this; exact this.1.symm
      rw [hT1] at hown2
      have hcs : onm (own y) = cst ci := by rw [g2]; exact lt13 (P := fun c => onm c = cst c) rfl rfl rfl rfl rfl rfl rfl rfl rfl rfl rfl rfl rfl ci hc
      rw [hcs] at hown
      rw [← e1]; exact Option.some.inj (hown.symm.trans hown2)
    have h6 := u_fits hfc hkC hkind (Or.inr hlay) hi (cty_ok ci hc sk hk) hnar hfit
    rw [hT1] at hi
    exact W.putFinK hx hb hown (hts _ (tt_in (tb_in (at_in ha)) rfl)) hi hst hcf (hin g1) (by rw [q2]; exact h6) q1 q3 hlt rfl rfl hd go
  · have hlay := hts _ (lays_in hc _ (u_in_lay hk))
    unfold u_lay at hlay
    rw [if_neg (by rw [← beq_iff_eq.mp hff]; exact hfn)] at hlay
    have h6 := u_store hfc hkC hkind hlay hi (cty_ok ci hc sk hk) hnar hfit
    rw [hT1] at hi
    by_cases hne : ne = 0
    · rw [if_pos hne] at ha
      exact W.putK hx hb (f := f) ⟨hown, hts _ (tt_in (tb_in (at_in ha)) rfl), ⟨_, _, _, hi⟩, hst⟩ (by rw [q2]; exact h6) q1 q3 hlt rfl rfl hd go
    · rw [if_neg hne] at ha
      exact va_WputK hx hb (f := f) hown (va_Nw.use rfl (hK.2.2.1 _ (at_in ha) rfl)) hi hst (by rw [q2]; exact h6) q1 q3 hlt rfl rfl hd go
theorem nar01 {x : Int} (h : x = 0 ∨ x = 1) : narrow .boolean (.int (Int32.ofInt x)) = .int (Int32.ofInt x) ∧ fits .boolean (.int (Int32.ofInt x)) = true := by
  rcases h with rfl | rfl <;> exact ⟨by decide +kernel, by decide +kernel⟩
theorem nar_ref {ty : FieldType} (h : (match ty with | .object _ => true | .array _ => true | _ => false) = true) (o : Option MR) : narrow ty (tv G (va o)) = tv G (va o) ∧ fits ty (tv G (va o)) = true := by
  match ty, h, o with
  | .object _, _, none => exact ⟨rfl, rfl⟩
  | .object _, _, some _ => exact ⟨rfl, rfl⟩
  | .array _, _, none => exact ⟨rfl, rfl⟩
  | .array _, _, some _ => exact ⟨rfl, rfl⟩
theorem s_put (C0 : Cx G p R s m args meth c y d) (D : Dy G s y lsr ls st h H locs) {ix : Nat} (hd : decode (cod y) pc = .ok (.putfield ix, 3)) (hn : putX (own y) ix (pc + 3) (knd y) ls st h = some (q', ls', st', h')) (K : Nx p l e R s m args below meth c cells slots Q G y h q' ls' st' h') : W p l e R s m args below meth c H locs cells slots Q (F0 m pc lsr (st.map (tv G))) := by
  unfold putX at hn
  split at hn
  · next ci sk ne ps v r i rest hf =>
    split at hn
    · next hg =>
      obtain ⟨hsh, -, hfin⟩ := hg
      have hw := byo fld_all hf
      simp only [fldW, Bool.and_eq_true, decide_eq_true_eq] at hw
      obtain ⟨⟨hc, hk⟩, -⟩ := hw
      have hft := of_decide_eq_true (rg2 ftk_all hc hk)
      have old := D.1.1.2.2.2 r i sk
      split at hn
      · next x =>
        split at hn
        · next hx =>
          obtain ⟨rfl, rfl, rfl, rfl⟩ := inj4 hn
          have hnf : narrow (cty ci sk) (tv G (.inl x)) = tv G (.inl x) ∧ fits (cty ci sk) (tv G (.inl x)) = true := by
            rcases hx with hx | ⟨hx, hx1⟩
            · rcases hft with ⟨_, e⟩ | ⟨e, _⟩ | ⟨e, _⟩
              · rw [e]; exact ⟨rfl, rfl⟩
              · omega
              · omega
            · rcases hft with ⟨e, _⟩ | ⟨_, e⟩ | ⟨e, _⟩
              · omega
              · rw [e]; exact nar01 hx1
              · omega
          refine s_put0 C0 D hd hf hsh hfin hnf.1 hnf.2 (WrT.i h r i sk x) ⟨?_, old.2⟩ ?_ K
          · show w32 (up3 h.1 r i sk x r i sk) = up3 h.1 r i sk x r i sk
            rw [up3_self]
            exact okc D
          · unfold rdk
            rw [if_pos (by omega)]
            show vi (up3 h.1 r i sk x r i sk) = _
            rw [up3_self]
        · cases hn
      · next x =>
        split at hn
        · next hx =>
          exfalso
          rcases hft with ⟨e, _⟩ | ⟨e, _⟩ | ⟨e, _⟩ <;> omega
        · cases hn
      · next o =>
        split at hn
        · next hx =>
          obtain ⟨rfl, rfl, rfl, rfl⟩ := inj4 hn
          have hnf : narrow (cty ci sk) (tv G (va o)) = tv G (va o) ∧ fits (cty ci sk) (tv G (va o)) = true := by
            rcases hft with ⟨e, _⟩ | ⟨e, _⟩ | ⟨_, e⟩
            · omega
            · omega
            · exact nar_ref e o
          refine s_put0 C0 D hd hf hsh hfin hnf.1 hnf.2 (WrT.p h r i sk o) ⟨old.1, old.2.1, ?_⟩ ?_ K
          · intro qq _ _ _ hq
            have hq' : up3 h.2.2.1 r i sk o r i sk = some qq := hq
            rw [up3_self] at hq'
            subst hq'
            exact okc D
          · unfold rdk
            rw [if_neg (by omega), if_neg (by omega)]
            show va (up3 h.2.2.1 r i sk o r i sk) = _
            rw [up3_self]
        · cases hn
      · cases hn
    · cases hn
  · cases hn
end S2S
