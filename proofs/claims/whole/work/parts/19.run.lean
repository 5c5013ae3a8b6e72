/-! runs -/
def KR (p : Program) (l : Launch) (e : Env) (R : Room) (s : State) (m : MethodId) (args : Array Value) (below : List Frame) (meth : Method) (c : Code) (C S : Nat) (Q : State → Prop) (G : GG) (y : Nat) (r : MV × MS) : Prop :=
  ∀ (pc len : Nat) (i : Instr) (lsr : Array Slot) (st : List MV) (H : Heap) (locs : List Loc), decode (cod y) pc = .ok (i, len) → len = lnI i len → rtn y i st r.2 = some r → Rp G r.2 H → va_S (fun q => gB G ≤ q) s.heap H locs → (∀ v ∈ st, okv G r.2.2.2.2 v) → W p l e R s m args below meth c H locs C S Q (F0 m pc lsr (st.map (tv G)))
theorem cll_len {y z : Nat} {i : Instr} {st as rest : List MV} (h : cll y i st = some (z, as, rest)) : z < 250 ∧ (z < 246 ∨ z = 249) ∧ as.all c1 = true ∧ as.length ≤ mxl z ∧ (∀ v ∈ as, v ∈ st) ∧ ∀ len, len = lnI i len → len = 3 := by
  have key : ∀ ix kn, cllM y ix kn st = some (z, as, rest) → z < 250 ∧ (z < 246 ∨ z = 249) ∧ as.all c1 = true ∧ as.length ≤ mxl z ∧ (∀ v ∈ as, v ∈ st) := by
    intro ix kn hc
    obtain ⟨ne, ps, hm, hz, hzz, hne, hkn, -, hle, hsum, ha, hre⟩ := cllM_spec hc
    refine ⟨hz, hzz, ?_, ?_, fun v hv => ?_⟩
    · unfold cllM at hc
      rw [hm] at hc
      dsimp only at hc
      unfold cllGo at hc
      split at hc
      · next hg =>
        rw [ha, List.all_reverse]
        exact hg.2.2.2.2.2.2.1
      · cases hc
    · have := (m6 hz).2.2.1
      rw [hkn] at this
      rw [ha, List.length_reverse, List.length_take]
      unfold nRc
      omega
    · rw [ha] at hv
      exact List.mem_of_mem_take (List.mem_reverse.mp hv)
  unfold cll at h
  split at h
  · obtain ⟨a, b, c, d, e⟩ := key _ _ h; exact ⟨a, b, c, d, e, fun len hl => hl⟩
  · obtain ⟨a, b, c, d, e⟩ := key _ _ h; exact ⟨a, b, c, d, e, fun len hl => hl⟩
  · obtain ⟨a, b, c, d, e⟩ := key _ _ h; exact ⟨a, b, c, d, e, fun len hl => hl⟩
  · cases h
/-- what holds of every run of at most n steps -/
def Sim (G : GG) (n : Nat) : Prop := ∀ (d y pc : Nat) (ls st : List MV) (h : MS) (r : MV × MS), run n d y pc ls st h = some r →
  ∀ {p : Program} {l : Launch} {e : Env} {R : Room} {s : State} {m : MethodId} {args : Array Value} {below : List Frame} {meth : Method} {c : Code} {H : Heap} {locs : List Loc} {cells slots : Nat} {Q : State → Prop} {lsr : Array Slot},
    Cx G p R s m args meth c y d → Dy G s y lsr ls st h H locs → cells + (r.2.2.2.2 - h.2.2.2) ≤ R.cells → slots + (sl r.2.2.2.2 - sl h.2.2.2) ≤ R.slots →
    KR p l e R s m args below meth c (cells + (r.2.2.2.2 - h.2.2.2)) (slots + (sl r.2.2.2.2 - sl h.2.2.2)) Q G y r → W p l e R s m args below meth c H locs cells slots Q (F0 m pc lsr (st.map (tv G)))
theorem met_of {G : GG} {n : Nat} (ih : Sim G n) (l : Launch) {d z : Nat} {as : List MV} {h : MS} {r : MV × MS} (hz : z < 250) (hzz : z < 246 ∨ z = 249) (hc : as.all c1 = true) (hl : as.length ≤ mxl z) (ok : ∀ v ∈ as, okv G h.2.2.2 v) (hr : run n d z 0 (ini z as) [] h = some r) :
    Met l (ymn z) (wsy z) (rmd d (r.2.2.2.2 - h.2.2.2) (sl r.2.2.2.2 - sl h.2.2.2)) (PcM G as h) (QcM G z r) (r.2.2.2.2 - h.2.2.2) (sl r.2.2.2.2 - sl h.2.2.2) (fun q => gB G ≤ q) := by
  refine va_MetF ((m4 hz).2.2 hzz) rfl ?_
  intro p e s m args below meth c s₁ B hml hP
  obtain ⟨rfl, hK, hO, hR⟩ := hP
  have hcx : Cx G p (rmd d (r.2.2.2.2 - h.2.2.2) (sl r.2.2.2.2 - sl h.2.2.2)) s m (as.map (tv G)).toArray meth c z d := by
    refine ⟨B.exec, B.bytes, hml, ?_, fun w hw => atoms_spec B.pre w (List.mem_cons_of_mem _ hw), fun hk => ?_, hK, Nat.le_refl _, Nat.le_refl _, hO⟩
    · rw [← (m4 hz).1]; exact findClass_of_methodNamed B.named
    · rw [← (m4 hz).2.1 hk]; exact (name_of_methodNamed B.named B.method).1
  rw [lg_entry_eq]
  have hS0 : va_S (fun q => gB G ≤ q) s.heap s.heap [] := ⟨Nat.le_refl _, fun _ _ _ => rfl, fun l hl => by cases hl⟩
  have D : Dy G s z ((lg_sl (as.map (tv G)) ++ List.replicate (mxl z - (lg_sl (as.map (tv G))).length) Slot.unset).toArray) (ini z as) [] h s.heap [] := ⟨hR, hS0, LV.entry hc hl ok, fun v hv => by cases hv⟩
  have e1 : (0 + (r.2.2.2.2 - h.2.2.2)) = r.2.2.2.2 - h.2.2.2 := Nat.zero_add _
  have e2 : (0 + (sl r.2.2.2.2 - sl h.2.2.2)) = sl r.2.2.2.2 - sl h.2.2.2 := Nat.zero_add _
  refine ih _ _ _ _ [] _ _ hr hcx D (by rw [e1]; exact Nat.le_refl _) (by rw [e2]; exact Nat.le_refl _) ?_
  rw [e1, e2]
  intro pc len i lsr st H locs hd hln hrt hRp hS hst
  have hq : ∀ (v : Option Value), v = rvO G z r.1 → (rty z ≠ none → okv G r.2.2.2.2 r.1) → ∀ t : State, t.heap = H → s.WarmedH t.vm → QcM G z r (as.map (tv G)).toArray s (.returned v) t := fun v hv hok t ht hW => ⟨by rw [hv], ⟨by rw [ht]; exact hRp, hok⟩, hS.F ht⟩
  unfold rtn at hrt
  split at hrt
  · split at hrt
    · next x =>
      split at hrt
      · next hn =>
        have hl1 : len = 1 := hln
        subst hl1
        have hv1 : vi x = r.1 := congrArg Prod.fst (Option.some.inj hrt)
        have hok : okv G r.2.2.2.2 r.1 := hv1 ▸ hst _ List.mem_cons_self
        unfold nrK at hn
        split at hn
        · next hty =>
          exact W.zret B.exec B.bytes (ty := .int) (B.returns.trans hty) rfl (hq _ (by unfold rvO; rw [hty, ← hv1]; rfl) (fun _ => hok)) hS.2.2 hd B.notSynchronized
        · next hty =>
          have hx : x = 0 ∨ x = 1 := by simpa using hn
          exact W.zret B.exec B.bytes (ty := .boolean) (B.returns.trans hty) (nar01 hx).1 (hq _ (by unfold rvO; rw [hty, ← hv1]; rfl) (fun _ => hok)) hS.2.2 hd B.notSynchronized
        · cases hn
      · cases hrt
    · cases hrt
  · split at hrt
    · next x =>
      split at hrt
      · next hty =>
        have hl1 : len = 1 := hln
        subst hl1
        have hv1 : vl x = r.1 := congrArg Prod.fst (Option.some.inj hrt)
        have hok : okv G r.2.2.2.2 r.1 := hv1 ▸ hst _ List.mem_cons_self
        exact W.lret B.exec B.bytes (B.returns.trans hty) (hq _ (by unfold rvO; rw [hty, ← hv1]; rfl) (fun _ => hok)) hS.2.2 hd B.notSynchronized
      · cases hrt
    · cases hrt
  · split at hrt
    · next x =>
      have hl1 : len = 1 := hln
      subst hl1
      split at hrt
      · next o hty =>
        have hv1 : va (some x) = r.1 := congrArg Prod.fst (Option.some.inj hrt)
        have hok : okv G r.2.2.2.2 r.1 := hv1 ▸ hst _ List.mem_cons_self
        exact W.aret B.exec B.bytes (B.returns.trans hty) (Or.inl ⟨_, rfl⟩) (Or.inr ⟨_, rfl⟩) (hq _ (by unfold rvO; rw [hty, ← hv1]; rfl) (fun _ => hok)) hS.2.2 hd B.notSynchronized
      · next o hty =>
        have hv1 : va (some x) = r.1 := congrArg Prod.fst (Option.some.inj hrt)
        have hok : okv G r.2.2.2.2 r.1 := hv1 ▸ hst _ List.mem_cons_self
        exact W.aret B.exec B.bytes (B.returns.trans hty) (Or.inr ⟨_, rfl⟩) (Or.inr ⟨_, rfl⟩) (hq _ (by unfold rvO; rw [hty, ← hv1]; rfl) (fun _ => hok)) hS.2.2 hd B.notSynchronized
      · cases hrt
    · cases hrt
  · split at hrt
    · split at hrt
      · next hty =>
        have hl1 : len = 1 := hln
        subst hl1
        exact W.vret B.exec B.bytes (B.returns.trans hty) (hq _ (by unfold rvO; rw [hty]) (fun h => absurd hty h)) hS.2.2 hd B.notSynchronized
      · cases hrt
    · cases hrt
  · cases hrt
theorem run_sim {G : GG} (hL : gL G ≤ 5120) : ∀ n, Sim G n
  | 0 => fun _ _ _ _ _ _ _ hr => by cases hr
  | n + 1 => by
    have ih : Sim G n := run_sim hL n
    intro d y pc ls st h r hr p l e R s m args below meth c H locs cells slots Q lsr C0 D hcs hss K
    have hk := run_k _ _ _ _ _ _ _ _ hr
    unfold run at hr
    split at hr
    · cases hr
    · next i len hd =>
      split at hr
      · next hl =>
        split at hr
        · next q ls' st' h' hn =>
          have k1 := nxt_mono hn
          have k2 := run_k _ _ _ _ _ _ _ _ hr
          have k3 := sl_mono k1
          have k4 := sl_mono k2
          refine step_sim C0 D hd hl hn (by omega) (by omega) hL fun lsr' H' locs' D' => ?_
          have e1 : cells + (h'.2.2.2 - h.2.2.2) + (r.2.2.2.2 - h'.2.2.2) = cells + (r.2.2.2.2 - h.2.2.2) := by omega
          have e2 : slots + (sl h'.2.2.2 - sl h.2.2.2) + (sl r.2.2.2.2 - sl h'.2.2.2) = slots + (sl r.2.2.2.2 - sl h.2.2.2) := by omega
          exact ih _ _ _ _ _ _ _ hr C0 D' (by rw [e1]; exact hcs) (by rw [e2]; exact hss) (by rw [e1, e2]; exact K)
        · split at hr
          · next z as rest hc =>
            split at hr
            · cases hr
            · next d' =>
              split at hr
              · next hrc =>
                split at hr
                · cases hr
                · next v h1 hrun =>
                  have k1 := run_k _ _ _ _ _ _ _ _ hrun
                  have k2 := run_k _ _ _ _ _ _ _ _ hr
                  have k1 : h.2.2.2 ≤ h1.2.2.2 := k1
                  have k3 := sl_mono k1
                  have k4 := sl_mono k2
                  obtain ⟨hz, hzz, hall, hlen, hmem, hl3⟩ := cll_len hc
                  have hl3 := hl3 len hl
                  subst hl3
                  have hM := met_of ih l hz hzz hall hlen (fun v hv => D.2.2.2 v (hmem v hv)) hrun
                  refine s_call (r := (v, h1)) C0 D hd hc hrc hM k1 (show cells + (h1.2.2.2 - h.2.2.2) ≤ R.cells by omega) (show slots + (sl h1.2.2.2 - sl h.2.2.2) ≤ R.slots by omega) fun lsr' H' locs' D' => ?_
                  have e1 : cells + (h1.2.2.2 - h.2.2.2) + (r.2.2.2.2 - h1.2.2.2) = cells + (r.2.2.2.2 - h.2.2.2) := by omega
                  have e2 : slots + (sl h1.2.2.2 - sl h.2.2.2) + (sl r.2.2.2.2 - sl h1.2.2.2) = slots + (sl r.2.2.2.2 - sl h.2.2.2) := by omega
                  exact ih _ _ _ _ _ _ _ hr C0 D' (by rw [e1]; exact hcs) (by rw [e2]; exact hss) (by rw [e1, e2]; exact K)
              · cases hr
          · have hh := rtn_h hr
            rw [← hh] at D
            have e1 : cells + (r.2.2.2.2 - h.2.2.2) = cells := by rw [hh]; omega
            have e2 : slots + (sl r.2.2.2.2 - sl h.2.2.2) = slots := by rw [hh]; omega
            rw [e1, e2] at K
            exact K pc len i lsr st H locs hd hl (by rw [hh]; exact hr) D.1 D.2.1 D.2.2.2
      · cases hr
