/-! a run of the small machine is a run of the machine -/
theorem nxt_mono {y d pc q q' : Nat} {i : Instr} {ls ls' st st' : List MV} {h h' : MS} (hn : nxt y d pc i q ls st h = some (q', ls', st', h')) : h.2.2.2 ≤ h'.2.2.2 := by
  cases i <;> simp only [nxt, ldX, stX, bin, binN, binL, binLN, jmp1, jmp2, getX, putX, aldX, aaldX, astX, newX, cpyX, slnX, schX, mthX] at hn <;> (repeat' split at hn) <;>
    first
      | (cases hn; done)
      | (obtain ⟨-, -, -, e⟩ := inj4 hn; subst e; exact Nat.le_refl _)
      | (obtain ⟨-, -, -, e⟩ := inj4 hn; subst e; exact Nat.le_add_right _ _)
theorem rtn_h {y : Nat} {i : Instr} {st : List MV} {h : MS} {r : MV × MS} (hr : rtn y i st h = some r) : r.2 = h := by
  unfold rtn at hr
  repeat' split at hr
  all_goals first
    | (cases hr; done)
    | (cases hr; rfl)
theorem run_k : ∀ (n d y pc : Nat) (ls st : List MV) (h : MS) (r : MV × MS), run n d y pc ls st h = some r → h.2.2.2 ≤ r.2.2.2.2
  | 0, _, _, _, _, _, _, _, hr => by cases hr
  | n + 1, d, y, pc, ls, st, h, r, hr => by
    unfold run at hr
    split at hr
    · cases hr
    · split at hr
      · split at hr
        · next q ls' st' h' hn => exact Nat.le_trans (nxt_mono hn) (run_k n _ _ _ _ _ _ _ hr)
        · split at hr
          · split at hr
            · cases hr
            · split at hr
              · split at hr
                · cases hr
                · next v h1 hc => exact Nat.le_trans (run_k n _ _ _ _ _ _ _ hc) (run_k n _ _ _ _ _ _ _ hr)
              · cases hr
          · rw [rtn_h hr]; exact Nat.le_refl _
      · cases hr
-- what the tables say of a method
theorem wsy_tt {z : Nat} (hz : z < 250) : ∀ w ∈ wsy z, w ∈ TT := fun w hw => by
  rcases List.mem_cons.mp hw with rfl | hw
  · exact tt_at (code_ok z hz) rfl
  · exact hw
theorem rg250 {f : Nat → Bool} (h : (List.range 250).all f = true) {z : Nat} (hz : z < 250) : f z = true := List.all_eq_true.mp h z (List.mem_range.mpr hz)
theorem sel_tt {z : Nat} (hz : z < 250) (hk : knd z = 1) : Cond.selects (ymn z).cls (ymn z) (ymn z) ∈ TT := by
  have h := rg250 mZ3_all hz
  unfold mZ3 at h
  rw [hk] at h
  have h2 : selOk (mwW z).2.2.2 (ymn z) = true := by simpa using h
  unfold selOk at h2
  split at h2
  · exact tt_at (of_decide_eq_true h2) rfl
  · split at h2
    · next q hq =>
      have e := of_decide_eq_true h2
      refine tt_in (List.mem_append_left _ (List.mem_map.mpr ⟨q, List.mem_of_getElem? hq, ?_⟩)) rfl
      rw [← e]
    · cases h2
theorem ist_tt {z : Nat} (hz : z < 250) : (if knd z = 0 then Cond.static (ymn z) else Cond.instanceMethod (ymn z)) ∈ TT := by
  have h := of_decide_eq_true (rg250 mZ1_all hz)
  refine tt_at h ?_
  split <;> rfl
theorem ini_tt {z : Nat} (hz : z < 250) : Cond.initialized (ymn z).cls ∈ TT := tt_at (of_decide_eq_true (rg250 mZ2_all hz)) rfl
theorem own_math : (List.range 250).all (fun z => decide (z = 245) || !(decide (z < 246) || decide (z = 249)) || onm (own z) != "java/lang/Math") = true := by decide +kernel
theorem floor_plain : plainFor (ymn 245) = true := by decide +kernel
theorem m4 {z : Nat} (hz : z < 250) : (ymn z).cls = onm (own z) ∧ (knd z = 2 → (ymn z).name = "<init>") ∧ ((z < 246 ∨ z = 249) → plainFor (ymn z) = true) := by
  have h := rg250 mZ4_all hz
  simp only [mZ4, Bool.and_eq_true, decide_eq_true_eq, Bool.or_eq_true, bne_iff_ne, ne_eq, beq_iff_eq] at h
  refine ⟨h.1.1, fun hk => h.1.2.resolve_left (fun z => z hk), fun hq => ?_⟩
  rcases h.2 with hm | hm
  · exact plainFor_of_name hm
  · have h2 := rg250 own_math hz
    simp only [Bool.or_eq_true, decide_eq_true_eq, bne_iff_ne, ne_eq, Bool.not_eq_true', Bool.or_eq_false_iff, decide_eq_false_iff_not] at h2
    rcases h2 with (h2 | h2) | h2
    · subst h2; exact floor_plain
    · exact absurd hq (fun q => q.elim h2.1 h2.2)
    · exact absurd hm h2
theorem m5 {z : Nat} (hz : z < 250) : (ymn z).cls ≠ "java/lang/invoke/MethodHandle" ∧ (ymn z).cls ≠ "java/lang/invoke/VarHandle" := by
  have h := rg250 mZ5_all hz
  simp only [mZ5, Bool.and_eq_true, decide_eq_true_eq] at h
  exact h
theorem m6 {z : Nat} (hz : z < 250) : (parseMethodDescriptor (ymn z).desc).map (fun d => d.parameters.length) = some (nar z) ∧ mxl z ≤ 40 ∧ nar z + (if knd z = 0 then 0 else 1) ≤ mxl z ∧ (knd z = 0 ∨ (own z < 13 ∧ onm (own z) = cst (own z))) := by
  have h := rg250 mZ6_all hz
  simp only [mZ6, Bool.and_eq_true, decide_eq_true_eq, Bool.or_eq_true, beq_iff_eq] at h
  refine ⟨h.1.1.1.1.1.1, h.1.1.1.1.1.2, h.1.1.1.1.2, ?_⟩
  rcases h.1.1.2 with a | a
  · exact Or.inl a
  · rcases h.2 with b | b
    · exact Or.inl b
    · exact Or.inr ⟨a, b⟩
theorem cllGo_spec {z ne kn z' : Nat} {st as rest : List MV} (h : cllGo z ne kn st = some (z', as, rest)) :
    z' = z ∧ z < 250 ∧ (z < 246 ∨ z = 249) ∧ ne ≤ 1 ∧ knd z = kn ∧ (kn = 2 → rty z = none) ∧ nar z + nRc kn ≤ st.length ∧ ((st.drop (nar z + nRc kn)).map cw).sum ≤ 8 ∧ as = (st.take (nar z + nRc kn)).reverse ∧ rest = st.drop (nar z + nRc kn) := by
  unfold cllGo at h
  split at h
  · next hg =>
    obtain ⟨g1, g2, g3, g4, g5, g6, g7, g8⟩ := hg
    have h' := Option.some.inj h
    have e1 := congrArg Prod.fst h'
    have e2 := congrArg (fun q => q.2.1) h'
    have e3 := congrArg (fun q => q.2.2) h'
    exact ⟨e1.symm, g1, g2, g3, g4, g5, g6, g8, e2.symm, e3.symm⟩
  · cases h
theorem cllM_spec {y ix kn z : Nat} {st as rest : List MV} (h : cllM y ix kn st = some (z, as, rest)) : ∃ ne ps, mthR (own y) ix = some (z, ne, ps) ∧
    z < 250 ∧ (z < 246 ∨ z = 249) ∧ ne ≤ 1 ∧ knd z = kn ∧ (kn = 2 → rty z = none) ∧ nar z + nRc kn ≤ st.length ∧ ((st.drop (nar z + nRc kn)).map cw).sum ≤ 8 ∧ as = (st.take (nar z + nRc kn)).reverse ∧ rest = st.drop (nar z + nRc kn) := by
  unfold cllM at h
  split at h
  · next z' ne ps hm =>
    obtain ⟨e, r⟩ := cllGo_spec h
    subst e
    exact ⟨ne, ps, hm, r⟩
  · cases h
theorem mth_link {o ix z ne ps : Nat} (h : mthR o ix = some (z, ne, ps)) (hz : z < 250) : (ne = 0 → Cond.methodLink (onm o) ix (ymn z) ∈ TT) ∧ (ne ≠ 0 → Cond.methodLinkNest (onm o) ix (ymn z) "FaceRows" ∈ tables_1) := by
  have hw := byo link_all h
  unfold mthW at hw
  rw [if_neg (by show ¬ z = 900; omega), if_neg (by show ¬ z = 901; omega), if_neg (by show ¬ z = 902; omega), if_neg (by show ¬ z = 903; omega), if_neg (by show ¬ z = 904; omega), if_neg (by show ¬ z = 905; omega), if_neg (by show ¬ z = 906; omega)] at hw
  have h2 := of_decide_eq_true (Bool.and_eq_true _ _ ▸ hw).2
  refine ⟨fun e => ?_, fun e => ?_⟩
  · rw [if_pos (by exact e)] at h2
    exact tt_at h2 rfl
  · rw [if_neg (by exact e)] at h2
    exact at_in h2
-- calls
def rvO (G : GG) (z : Nat) (v : MV) : Option Value := match rty z with
  | none => none
  | some _ => some (tv G v)
def QcM (G : GG) (z : Nat) (r : MV × MS) : Array Value → State → Outcome → State → Prop := fun _ st o t => o = .returned (rvO G z r.1) ∧ (Rp G r.2 t.heap ∧ (rty z ≠ none → okv G r.2.2.2.2 r.1)) ∧ va_F (fun q => gB G ≤ q) st t
def PcM (G : GG) (as : List MV) (h : MS) : Array Value → State → Prop := va_Pc (as.map (tv G)) (fun U => KK G U ∧ Old G U U.heap ∧ Rp G h U.heap)
theorem PcM.blind {G : GG} {as : List MV} {h : MS} : FrameBlind (PcM G as h) := fun a U g mk h => ⟨h.1, KK.same (s := U) (U := U.calling g mk a) rfl h.2.1, Old.moved (U := U.calling g mk a) (Vm.Alike.refl U.vm) h.2.2.1, h.2.2.2⟩
def rmd (d k n : Nat) : Room := { frames := d, cells := k, slots := n, locals := 64 * d }
section MAS
variable {p : Program} {l : Launch} {e : Env} {R : Room} {s : State} {m : MethodId} {args : Array Value} {below : List Frame} {meth : Method} {c : Code} {H : Heap} {locs : List Loc} {cells slots : Nat} {Q : State → Prop}
variable {G : GG} {y d pc q q' : Nat} {lsr : Array Slot} {ls ls' st st' : List MV} {h h' : MS}
theorem call_go {z mc ms : Nat} {r : MV × MS} {a : Array Value} {st0 rest : List Value} (hr : va_Run p l e R s m args below meth c H locs cells slots mc ms (F0 m pc lsr st0) rest (QcM G z r a) (fun q => gB G ≤ q)) (hS : va_S (fun q => gB G ≤ q) s.heap H locs)
    (kk : ∀ (H1 : Heap) (locs1 : List Loc), Rp G r.2 H1 → (rty z ≠ none → okv G r.2.2.2.2 r.1) → va_S (fun q => gB G ≤ q) s.heap H1 locs1 → W p l e R s m args below meth c H1 locs1 (cells + mc) (slots + ms) Q (F0 m (pc + 3) lsr ((rvO G z r.1).toList ++ rest))) : W p l e R s m args below meth c H locs cells slots Q (F0 m pc lsr st0) := by
  intro T hT X
  obtain ⟨v, st₀, t, T', L, h0, X', hL, e1, e2, ⟨hv, ⟨hb, hok⟩, hz, hk⟩, st⟩ := hr T hT X
  have hv2 : v = rvO G z r.1 := Outcome.returned.inj hv
  subst hv2
  rw [h0] at hz hk
  obtain ⟨t2, a1, b1⟩ := kk T'.heap (locs ++ L) (by rw [e1]; exact hb) hok
    ⟨Nat.le_trans hS.1 (by rw [e1]; exact hz), fun q h1 h2 => by rw [e1, hk q (Nat.lt_of_lt_of_le h1 hS.1) h2]; exact hS.2.1 q h1 h2, fun q hq => by
      rcases List.mem_append.mp hq with h | h
      · exact hS.2.2 q h
      · exact hL q h⟩ T' rfl X'
  exact ⟨t2, st t2 a1, b1⟩
theorem s_call {z : Nat} {as rest : List MV} {r : MV × MS} {i : Instr} (C0 : Cx G p R s m args meth c y (d + 1)) (D : Dy G s y lsr ls st h H locs) (hd : decode (cod y) pc = .ok (i, 3)) (hc : cll y i st = some (z, as, rest)) (hrc : rcv z as = true)
    (hM : Met l (ymn z) (wsy z) (rmd d (r.2.2.2.2 - h.2.2.2) (sl r.2.2.2.2 - sl h.2.2.2)) (PcM G as h) (QcM G z r) (r.2.2.2.2 - h.2.2.2) (sl r.2.2.2.2 - sl h.2.2.2) (fun q => gB G ≤ q)) (hmono : h.2.2.2 ≤ r.2.2.2.2) (hcs : cells + (r.2.2.2.2 - h.2.2.2) ≤ R.cells) (hss : slots + (sl r.2.2.2.2 - sl h.2.2.2) ≤ R.slots)
    (K : Nx p l e R s m args below meth c cells slots Q G y h (pc + 3) ls (psh z r.1 rest) r.2) : W p l e R s m args below meth c H locs cells slots Q (F0 m pc lsr (st.map (tv G))) := by
  obtain ⟨hx, hb, hml, hown, hts, hin, hK, hfr, hlo, hO⟩ := id C0
  have hOH : Old G s H := hO.kept D.2.1.1 D.2.1.2.1
  have key : ∀ kn : Nat, z < 250 → knd z = kn → nar z + nRc kn ≤ st.length → ((st.drop (nar z + nRc kn)).map cw).sum ≤ 8 → as = (st.take (nar z + nRc kn)).reverse → rest = st.drop (nar z + nRc kn) →
      (((rest.map (tv G)).map fun v => v.category).sum ≤ 8 ∧ as.length = nar z + nRc kn ∧ st = as.reverse ++ rest) ∧ (∀ H1 locs1, Rp G r.2 H1 → (rty z ≠ none → okv G r.2.2.2.2 r.1) → va_S (fun q => gB G ≤ q) s.heap H1 locs1 → W p l e R s m args below meth c H1 locs1 (cells + (r.2.2.2.2 - h.2.2.2)) (slots + (sl r.2.2.2.2 - sl h.2.2.2)) Q (F0 m (pc + 3) lsr ((rvO G z r.1).toList ++ rest.map (tv G)))) := by
    intro kn hz hkn hle hsum ha hre
    have hrest : ∀ w ∈ rest, okv G h.2.2.2 w := fun w hw => D.2.2.2 w (by rw [hre] at hw; exact List.mem_of_mem_drop hw)
    refine ⟨⟨by rw [cw_sum rest hrest, hre]; exact hsum, by rw [ha, List.length_reverse, List.length_take]; omega, by rw [ha, hre, List.reverse_reverse, List.take_append_drop]⟩, fun H1 locs1 hR hok hS1 => ?_⟩
    have hst : ∀ w ∈ psh z r.1 rest, okv G r.2.2.2.2 w := by
      intro w hw
      unfold psh at hw
      split at hw
      · exact (hrest w hw).mono hmono
      · next ty hty =>
        rcases List.mem_cons.mp hw with rfl | hw
        · exact hok (by rw [hty]; exact fun z => by cases z)
        · exact (hrest w hw).mono hmono
    have := K lsr H1 locs1 ⟨hR, hS1, D.2.2.1.mono hmono, hst⟩
    have e1 : (psh z r.1 rest).map (tv G) = (rvO G z r.1).toList ++ rest.map (tv G) := by
      cases hty : rty z <;> simp [psh, rvO, hty]
    rw [e1] at this
    exact this
  have okas : ∀ kn : Nat, as = (st.take (nar z + nRc kn)).reverse → ∀ v ∈ as, okv G h.2.2.2 v := fun kn ha v hv => by
    rw [ha] at hv
    exact D.2.2.2 v (List.mem_of_mem_take (List.mem_reverse.mp hv))
  have hU : ∀ U : State, U.heap = H → s.WarmedH U.vm → PcM G as h (as.map (tv G)).toArray U := fun U hU hW => ⟨rfl, hK.warm hW, by rw [hU]; exact hOH.moved hW.alike, by rw [hU]; exact D.1⟩
  have room : ∀ hz : z < 250, (rmd d (r.2.2.2.2 - h.2.2.2) (sl r.2.2.2.2 - sl h.2.2.2)).frames + 1 ≤ R.frames ∧ 8 + (mxl z + 11) + (rmd d (r.2.2.2.2 - h.2.2.2) (sl r.2.2.2.2 - sl h.2.2.2)).locals ≤ R.locals := fun hz => ⟨hfr, by
    have := (m6 hz).2.1
    show 8 + (mxl z + 11) + 64 * d ≤ R.locals
    omega⟩
  have hsz : lsr.size = mxl y := D.2.2.1.2.1
  have recv : z < 250 → knd z ≠ 0 → ∀ o as', as = o :: as' → okv G h.2.2.2 o → ∃ b, tv G o = .ref b ∧ ∃ cell : Cell, H[b]? = some cell ∧ cell.vm.isStatics = false ∧ s.vm.findClass (ymn z).cls = some cell.cls := by
    intro hz hk o as' ha hok
    unfold rcv at hrc
    rw [if_neg hk, ha] at hrc
    match o, hrc, hok with
    | .inr (.inr (.inl (some (r, i)))), hrc, hok =>
      have hsh : sh r i = .inl (own z) := of_decide_eq_true hrc
      have hcell := D.1.1.cell hok (sh_inl hsh)
      unfold cell1 at hcell
      rw [hsh] at hcell
      obtain ⟨cell, q1, q2, q3, -⟩ := hcell
      have h13 := (m6 hz).2.2.2.resolve_left hk
      refine ⟨_, rfl, cell, q1, by rw [q3]; rfl, ?_⟩
      rw [(m4 hz).1, h13.2, q2]
      exact (hK.1 _ h13.1).2.1
  have S : CallFix p m c (cod y) (mxl y) s args TT (onm (own y)) := ⟨hx, hb, hml, hown, hts⟩
  have hdd : z < 250 → (ymn z).cls ≠ "java/lang/invoke/MethodHandle" ∧ (ymn z).cls ≠ "java/lang/invoke/VarHandle" ∧ (parseMethodDescriptor (ymn z).desc).map (fun d => d.parameters.length) = some (nar z) := fun hz => ⟨(m5 hz).1, (m5 hz).2, (m6 hz).1⟩
  have hG : z < 250 → GoodIn TT (wsy z) := fun hz => gi (wsy_tt hz) (fun w hw => hw)
  have hini : z < 250 → (Cond.initialized (ymn z).cls).before args s = true := fun hz => hts _ (ini_tt hz)
  have CB : ∀ ix ps, mthR (own y) ix = some (z, 0, ps) → z < 250 → CallB R s args (onm (own y)) ix (ymn z) (cod z) (mxl z) (rty z) (wsy z) (rmd d (r.2.2.2.2 - h.2.2.2) (sl r.2.2.2.2 - sl h.2.2.2)) (r.2.2.2.2 - h.2.2.2) (sl r.2.2.2.2 - sl h.2.2.2) (nar z) := fun ix ps hm hz =>
    callB_of (nar z) hts (hG hz) rfl rfl rfl (hini hz) (hts _ ((mth_link hm hz).1 rfl)) (hdd hz) (room hz)
  have CN : ∀ ix ne ps, mthR (own y) ix = some (z, ne, ps) → ne ≠ 0 → z < 250 → va_CN R s args (onm (own y)) ix (ymn z) "FaceRows" (cod z) (mxl z) (rty z) (wsy z) (rmd d (r.2.2.2.2 - h.2.2.2) (sl r.2.2.2.2 - sl h.2.2.2)) (r.2.2.2.2 - h.2.2.2) (sl r.2.2.2.2 - sl h.2.2.2) (nar z) := fun ix ne ps hm hne hz =>
    va_cnB (nar z) hts (hG hz) rfl rfl rfl (hK.2.2.1 _ ((mth_link hm hz).2 hne) rfl) (hini hz) (hdd hz) (room hz)
  have hist : z < 250 → (if knd z = 0 then Cond.static (ymn z) else Cond.instanceMethod (ymn z)).before args s = true := fun hz => hts _ (ist_tt hz)
  unfold cll at hc
  split at hc
  · next ix =>
    obtain ⟨ne, ps, hm, hz, -, hne, hkn, -, hle, hsum, ha, hre⟩ := cllM_spec hc
    obtain ⟨⟨k1, k2, k3⟩, k4⟩ := key 0 hz hkn hle hsum ha hre
    have hstt := hist hz
    rw [if_pos hkn] at hstt
    have hlen : (as.map (tv G)).length = nar z := by rw [List.length_map, k2]; rfl
    have hstk : (F0 m pc lsr (st.map (tv G))).stack = (as.map (tv G)).reverse ++ rest.map (tv G) := by
      show st.map (tv G) = _
      rw [← List.map_reverse, ← List.map_append, ← k3]
    by_cases hne0 : ne = 0
    · subst hne0
      exact call_go (va_runS S hM ⟨CB ix ps hm hz, hstt⟩ ⟨PcM.blind, hU⟩ rfl hlen hsz hstk (by show 2 * 0 + _ ≤ 8; omega) hd ⟨hcs, hss⟩) D.2.1 k4
    · exact call_go (va_runSN S hM ⟨CN ix ne ps hm hne0 hz, hstt, trivial⟩ ⟨PcM.blind, hU⟩ rfl hlen hsz hstk (by show 2 * 0 + _ ≤ 8; omega) hd ⟨hcs, hss⟩) D.2.1 k4
  · next ix =>
    obtain ⟨ne, ps, hm, hz, -, hne, hkn, -, hle, hsum, ha, hre⟩ := cllM_spec hc
    obtain ⟨⟨k1, k2, k3⟩, k4⟩ := key 1 hz hkn hle hsum ha hre
    have hins := hist hz
    have hk0 : knd z ≠ 0 := by rw [hkn]; exact Nat.one_ne_zero
    rw [if_neg hk0] at hins
    cases as with
    | nil => exact absurd k2 (by show ¬ 0 = nar z + 1; omega)
    | cons o as' =>
      obtain ⟨b, hbv, hcell⟩ := recv hz hk0 o as' rfl (okas 1 ha o List.mem_cons_self)
      have hlen : (as'.map (tv G)).length = nar z := by rw [List.length_map]; exact Nat.succ.inj k2
      have hstk : (F0 m pc lsr (st.map (tv G))).stack = (as'.map (tv G)).reverse ++ .ref b :: rest.map (tv G) := by
        show st.map (tv G) = _
        rw [k3, List.map_append, List.map_reverse, List.map_cons, List.reverse_cons, hbv, List.append_assoc]
        rfl
      have hU2 : ∀ U : State, U.heap = H → s.WarmedH U.vm → PcM G (o :: as') h (Value.ref b :: as'.map (tv G)).toArray U := fun U h1 h2 => by
        have := hU U h1 h2
        rw [List.map_cons, hbv] at this
        exact this
      by_cases hne0 : ne = 0
      · subst hne0
        exact call_go (va_runV S hM ⟨CB ix ps hm hz, hins, hts _ (sel_tt hz hkn)⟩ ⟨PcM.blind, hcell, hU2⟩ rfl hlen hsz hstk (by show 2 * 0 + _ ≤ 8; omega) hd ⟨hcs, hss⟩) D.2.1 k4
      · exact call_go (va_runVN S hM ⟨CN ix ne ps hm hne0 hz, hins, hts _ (sel_tt hz hkn)⟩ ⟨PcM.blind, hcell, hU2⟩ rfl hlen hsz hstk (by show 2 * 0 + _ ≤ 8; omega) hd ⟨hcs, hss⟩) D.2.1 k4
  · next ix =>
    obtain ⟨ne, ps, hm, hz, -, hne, hkn, hrt, hle, hsum, ha, hre⟩ := cllM_spec hc
    obtain ⟨⟨k1, k2, k3⟩, k4⟩ := key 2 hz hkn hle hsum ha hre
    have hins := hist hz
    have hk0 : knd z ≠ 0 := by rw [hkn]; exact Nat.succ_ne_zero 1
    rw [if_neg hk0] at hins
    have hrt := hrt rfl
    cases as with
    | nil => exact absurd k2 (by show ¬ 0 = nar z + 1; omega)
    | cons o as' =>
      obtain ⟨b, hbv, hcell⟩ := recv hz hk0 o as' rfl (okas 2 ha o List.mem_cons_self)
      have hlen : (as'.map (tv G)).length = nar z := by rw [List.length_map]; exact Nat.succ.inj k2
      have hstk : (F0 m pc lsr (st.map (tv G))).stack = (as'.map (tv G)).reverse ++ .ref b :: rest.map (tv G) := by
        show st.map (tv G) = _
        rw [k3, List.map_append, List.map_reverse, List.map_cons, List.reverse_cons, hbv, List.append_assoc]
        rfl
      have hU2 : ∀ U : State, U.heap = H → s.WarmedH U.vm → PcM G (o :: as') h (Value.ref b :: as'.map (tv G)).toArray U := fun U h1 h2 => by
        have := hU U h1 h2
        rw [List.map_cons, hbv] at this
        exact this
      by_cases hne0 : ne = 0
      · subst hne0
        have cb := CB ix ps hm hz
        rw [hrt] at cb
        exact call_go (va_runI S hM ⟨cb, (m4 hz).2.1 hkn, hins⟩ ⟨PcM.blind, hU2⟩ rfl hlen hsz hstk (by show 2 * 0 + _ ≤ 8; omega) hd ⟨hcs, hss⟩) D.2.1 k4
      · have cb := CN ix ne ps hm hne0 hz
        rw [hrt] at cb
        exact call_go (va_runIN S hM ⟨cb, (m4 hz).2.1 hkn, hins⟩ ⟨PcM.blind, hU2⟩ rfl hlen hsz hstk (by show 2 * 0 + _ ≤ 8; omega) hd ⟨hcs, hss⟩) D.2.1 k4
  · cases hc
end MAS
