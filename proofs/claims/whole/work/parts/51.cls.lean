/-! the class: what is asked of a head, how far -/
section FILL
theorem cc_249 : cod 249 = cJ7_fill_53178 := rfl
theorem D249_0 : decode (cod 249) 0 = .ok (.iconst 0, 1) := by rw [cc_249]; decide +kernel
theorem D249_1 : decode (cod 249) 1 = .ok (.istore_n 2, 1) := by rw [cc_249]; decide +kernel
theorem D249_2 : decode (cod 249) 2 = .ok (.aload_n 0, 1) := by rw [cc_249]; decide +kernel
theorem D249_3 : decode (cod 249) 3 = .ok (.arraylength, 1) := by rw [cc_249]; decide +kernel
theorem D249_4 : decode (cod 249) 4 = .ok (.istore_n 3, 1) := by rw [cc_249]; decide +kernel
theorem D249_5 : decode (cod 249) 5 = .ok (.iload_n 2, 1) := by rw [cc_249]; decide +kernel
theorem D249_6 : decode (cod 249) 6 = .ok (.iload_n 3, 1) := by rw [cc_249]; decide +kernel
theorem D249_7 : decode (cod 249) 7 = .ok (.if_icmp .ge 13, 3) := by rw [cc_249]; decide +kernel
theorem D249_10 : decode (cod 249) 10 = .ok (.aload_n 0, 1) := by rw [cc_249]; decide +kernel
theorem D249_11 : decode (cod 249) 11 = .ok (.iload_n 2, 1) := by rw [cc_249]; decide +kernel
theorem D249_12 : decode (cod 249) 12 = .ok (.iload_n 1, 1) := by rw [cc_249]; decide +kernel
theorem D249_13 : decode (cod 249) 13 = .ok (.iastore, 1) := by rw [cc_249]; decide +kernel
theorem D249_14 : decode (cod 249) 14 = .ok (.iinc 2 1, 3) := by rw [cc_249]; decide +kernel
theorem D249_17 : decode (cod 249) 17 = .ok (.goto (-12), 3) := by rw [cc_249]; decide +kernel
theorem D249_20 : decode (cod 249) 20 = .ok (.return_, 1) := by rw [cc_249]; decide +kernel
variable {d r i n : Nat} {I L : Nat → Nat → Nat → Int} {t : Nat → Nat} {x : Int}
theorem b249_0 (ha : aek r i = 0) (hS : isS r = false) (hn : alen 0 r i = n) (hp : 0 < n) : Res d 249 0 [vr r i, vi x, vx, vx] [] (mk I L t) = Res d 249 5 [vr r i, vi x, vi 0, vi n] [] (mk I L t) :=
  Eq.trans (e_iconst (x := 0) D249_0 rfl rfl) <| Eq.trans (e_istore_n (ls1 := [vr r i, vi x, vi 0, vx]) D249_1 rfl (show 2 < 4 by decide) rfl) <| Eq.trans (e_aload_n D249_2 rfl rfl) <| Eq.trans (e_alen (n := n) D249_3 rfl ha hS hn hp) <| e_istore_n (ls1 := [vr r i, vi x, vi 0, vi n]) D249_4 rfl (show 3 < 4 by decide) rfl
theorem l249 (hS : isS r = false) (hn : (alen 0 r i : Int) = (n : Int)) (hb : n < 1000000) : ∀ (m k : Nat), k + m = n → Res d 249 5 [vr r i, vi x, vi (k : Int), vi (n : Int)] [] (mk (sr I r i k (fun _ => x)) L t) = some (vx, mk (sr I r i n (fun _ => x)) L t)
  | 0, k, hk => by
    have hk' : k = n := by omega
    subst hk'
    refine Eq.trans (e_iload_n D249_5 rfl rfl) <| Eq.trans (e_iload_n D249_6 rfl rfl) <| Eq.trans (e_icge (q1 := 20) D249_7 rfl rfl) ?_
    rw [if_pos (Int.le_refl _)]
    exact e_vret D249_20 rfl
  | m + 1, k, hk => by
    refine Eq.trans (e_iload_n D249_5 rfl rfl) <| Eq.trans (e_iload_n D249_6 rfl rfl) <| Eq.trans (e_icge (q1 := 20) D249_7 rfl rfl) ?_
    rw [if_neg (by omega)]
    refine Eq.trans (e_aload_n D249_10 rfl rfl) <| Eq.trans (e_iload_n D249_11 rfl rfl) <| Eq.trans (e_iload_n D249_12 rfl rfl) <| Eq.trans (e_iast (n := n) D249_13 rfl hn hS (by omega)) <| Eq.trans (e_iinc (ls1 := [vr r i, vi x, vi (w32 ((k : Int) + 1)), vi (n : Int)]) D249_14 rfl rfl rfl) <| Eq.trans (e_goto (q1 := 5) D249_17 rfl) ?_
    rw [lem_w32k (by omega)]
    have e : up3 (sr I r i k (fun _ => x)) r i ((k : Int).toNat) x = sr I r i (k + 1) (fun _ => x) := sr_s (f := fun _ => x)
    rw [e]
    exact l249 hS hn hb m (k + 1) (by omega)
theorem s249 (ha : aek r i = 0) (hS : isS r = false) (hn : alen 0 r i = n) (hp : 0 < n) (hb : n < 1000000) : Cal d 249 [vr r i, vi x] (mk I L t) = some (vx, mk (sr I r i n (fun _ => x)) L t) := by
  show Res d 249 0 [vr r i, vi x, vx, vx] [] (mk I L t) = _
  refine Eq.trans (b249_0 ha hS hn hp) ?_
  have := l249 (I := I) (L := L) (t := t) (x := x) (d := d) hS (by rw [hn]) hb n 0 (by omega)
  rw [sr_0] at this
  exact this
end FILL
section DIF
variable {d f r1 i1 : Nat} {I L : Nat → Nat → Nat → Int} {t : Nat → Nat} {g : Nat → Int}
theorem apt_cls {a b : Int} (ha : 0 ≤ a ∧ a ≤ 31) (hb : 0 ≤ b ∧ b ≤ 31) : (if w32 (a - b) < 0 then w32 (-(w32 (a - b))) else w32 (a - b)) = aptP a b := by
  unfold aptP
  rw [w32_s (x := a - b) (by omega), w32_s (x := -(a - b)) (by omega), w32_s (x := b - a) (by omega)]
  split <;> split <;> omega
theorem l125 (ha : alen 0 r1 i1 = 16) (hg : ∀ c, c < 16 → ldI (mk I L t) r1 i1 c = g c) (hf : R31 (I 22 f)) (hg1 : R31 g) {x2 : Int} {N : Nat} (hN : N ≤ 16) : ∀ (n k : Nat) (s : Int) (u : MV), k + n = N →
    Res d 125 6 [vr 22 f, vr r1 i1, vi x2, vi (N : Int), vi s, vi (k : Int), u] [] (mk I L t) = some (vi (difP (I 22 f) g k n s), mk I L t)
  | 0, k, s, u, hk => P125_6_2 (by omega)
  | n + 1, k, s, u, hk => by
    have e := hg k (by omega)
    have e1 : ldI (mk I L t) r1 i1 ((k : Int).toNat) = g k := e
    have e2 : ldI (mk I L t) 22 f ((k : Int).toNat) = I 22 f k := rfl
    have ap := apt_cls (hf k (by omega)) (hg1 k (by omega))
    by_cases h : w32 (I 22 f k - g k) < 0
    · rw [if_pos h] at ap
      refine Eq.trans (P125_6_0 (n1 := 16) (n2 := 16) (h1 := by omega) (g1 := rfl) (g2 := by omega) (g3 := by rw [ha]; rfl) (g4 := by omega) (h2 := by rw [e1, e2]; exact h)) ?_
      rw [e1, e2, ap, lem_w32k (by omega)]
      exact l125 ha hg hf hg1 hN n (k + 1) _ _ (by omega)
    · rw [if_neg h] at ap
      refine Eq.trans (P125_6_1 (n1 := 16) (n2 := 16) (h1 := by omega) (g1 := rfl) (g2 := by omega) (g3 := by rw [ha]; rfl) (g4 := by omega) (h2 := by rw [e1, e2]; omega)) ?_
      rw [e1, e2, ap, lem_w32k (by omega)]
      exact l125 ha hg hf hg1 hN n (k + 1) _ _ (by omega)
theorem s125 (ha : alen 0 r1 i1 = 16) (hg : ∀ c, c < 16 → ldI (mk I L t) r1 i1 c = g c) (hf : R31 (I 22 f)) (hg1 : R31 g) {k n : Nat} (hN : k + n ≤ 16) : Cal d 125 [vr 22 f, vr r1 i1, vi (k : Int), vi ((k + n : Nat) : Int)] (mk I L t) = some (vi (difP (I 22 f) g k n 0), mk I L t) :=
  Eq.trans P125_0_0 (l125 ha hg hf hg1 hN n k 0 _ rfl)
end DIF
/-! what may be asked, in the class -/
def gvC (I : H3) : Nat → Int := fun j => if j < 10 then I 13 0 j else 0
def sAsk (r _ _ : Nat) : Bool := r == 13 || r == 27
def s13 (r _ _ : Nat) : Bool := r == 13
/-- what the mind w may ask -/
def gvW (I : H3) (w : Nat) : Nat → Int := gvB (I 3 w 5) (I 3 w 6) (I 3 w 7) (I 3 w 10) (I 3 w 8)
theorem gvC_3 {I : H3} {a b c : Int} : gvC (up3 (up3 (up3 I 13 0 0 a) 13 0 1 b) 13 0 2 c) = gTh (gvC I) a b c := by
  funext j
  match j with
  | 0 => rfl
  | 1 => rfl
  | 2 => rfl
  | 3 => rfl
  | 4 => rfl
  | 5 => rfl
  | 6 => rfl
  | 7 => rfl
  | 8 => rfl
  | 9 => rfl
  | n + 10 => rfl
theorem gvC_2 {I : H3} {a b : Int} : gvC (up3 (up3 I 13 0 8 b) 13 0 7 a) = gFi (gvC I) a b := by
  funext j
  match j with
  | 0 => rfl
  | 1 => rfl
  | 2 => rfl
  | 3 => rfl
  | 4 => rfl
  | 5 => rfl
  | 6 => rfl
  | 7 => rfl
  | 8 => rfl
  | 9 => rfl
  | n + 10 => rfl
section ASKM
variable {d w : Nat} {I L : Nat → Nat → Nat → Int} {t : Nat → Nat}
theorem s112 : ∃ J, Cal (d + 1) 112 [vr 11 0, vr 3 w] (mk I L t) = some (vx, mk J L t) ∧ Fr s13 I J ∧ gvC J = gvW I w := by
  have c1 := s249 (d := d) (r := 13) (i := 0) (n := 10) (x := 0) (I := I) (L := L) (t := t) rfl rfl rfl (by decide) (by decide)
  refine ⟨_, P112_0_0 c1, ?_, ?_⟩
  · exact Fr.up (Fr.up (Fr.up (Fr.up (Fr.up (Fr.wr Fr.rfl' (fun _ _ => rfl)) rfl) rfl) rfl) rfl) rfl
  · funext j
    match j with
    | 0 => rfl
    | 1 => rfl
    | 2 => rfl
    | 3 => rfl
    | 4 => rfl
    | 5 => rfl
    | 6 => rfl
    | 7 => rfl
    | 8 => rfl
    | 9 => rfl
    | n + 10 => rfl
theorem s113 {f : Nat} (hf : R31 (I 22 f)) (hm : R31 (I 28 w)) : ∃ J, Cal (d + 1) 113 [vr 11 0, vr 3 w, vr 1 f] (mk I L t) = some (vx, mk J L t) ∧ Fr s13 I J ∧ gvC J = gTh (gvC I) (difP (I 22 f) (I 28 w) 0 12 0) (difP (I 22 f) (I 28 w) 12 4 0) (if I 1 f 1 = I 3 w 3 then 1 else 0) := by
  have c1 := s125 (d := d) (f := f) (r1 := 28) (i1 := w) (g := I 28 w) (k := 0) (n := 12) (L := L) (t := t) rfl (fun _ _ => rfl) hf hm (by decide)
  have c2 := s125 (d := d) (f := f) (r1 := 28) (i1 := w) (I := up3 I 13 0 0 (difP (I 22 f) (I 28 w) 0 12 0)) (g := I 28 w) (k := 12) (n := 4) (L := L) (t := t) rfl (fun _ _ => rfl) hf hm (by decide)
  by_cases h : I 1 f 1 = I 3 w 3
  · refine ⟨_, P113_0_0 (h1 := h) (c1 := c1) (c2 := c2), ?_, ?_⟩
    · exact Fr.up (Fr.up (Fr.up Fr.rfl' rfl) rfl) rfl
    · rw [if_pos h]
      exact gvC_3
  · refine ⟨_, P113_0_1 (h1 := h) (c1 := c1) (c2 := c2), ?_, ?_⟩
    · exact Fr.up (Fr.up (Fr.up Fr.rfl' rfl) rfl) rfl
    · rw [if_neg h]
      exact gvC_3
end ASKM
