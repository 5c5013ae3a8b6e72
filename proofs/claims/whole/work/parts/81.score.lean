/-! what was said, and scores -/
def soB (s v x : Int) : Bool := if s = 60 then decide (x < v) else if s = 61 then decide (x = v) else decide (v < x)
def soS (wh sg vl f : Nat → Int) (i : Nat) (c : Int) : Int := if soB (sg i) (vl i) (f (wh i).toNat) then c + 1 else c
def soN (n : Int) (wh sg vl f : Nat → Int) : Int := fo (soS wh sg vl f) 0 n.toNat 0
theorem soN_fo {wh sg vl f : Nat → Int} : ∀ (n k : Nat) (c : Int), c ≤ fo (soS wh sg vl f) k n c ∧ fo (soS wh sg vl f) k n c ≤ c + n
  | 0, _, c => ⟨Int.le_refl _, by show c ≤ c + ((0 : Nat) : Int); omega⟩
  | n + 1, k, c => by
    rw [fo_s]
    have h := soN_fo (wh := wh) (sg := sg) (vl := vl) (f := f) n (k + 1) (soS wh sg vl f k c)
    have s : c ≤ soS wh sg vl f k c ∧ soS wh sg vl f k c ≤ c + 1 := by
      unfold soS
      split <;> omega
    omega
theorem soN_in {n : Int} {wh sg vl f : Nat → Int} (hn : 0 ≤ n ∧ n ≤ 12) : 0 ≤ soN n wh sg vl f ∧ soN n wh sg vl f ≤ 12 := by
  have := soN_fo (wh := wh) (sg := sg) (vl := vl) (f := f) n.toNat 0 0
  unfold soN
  omega
section SAID
variable {d k f : Nat} {I L : H3} {t : Nat → Nat}
theorem b32_41 {ls : List MV} {x : Int} : Res d 32 41 ls [vi x] (mk I L t) = Res d 32 (if x = 60 then 68 else if x = 61 then 78 else 88) ls [] (mk I L t) := by
  refine res_step D32_41 rfl ?_
  have e : Op.lookupswitch.offset [(60, 27), (61, 37)] 47 x = if x = 60 then 27 else if x = 61 then 37 else 47 := by
    rw [Op.lookupswitch.offset_cons, Op.lookupswitch.offset_cons, Op.lookupswitch.offset_nil]
    by_cases h1 : x = 60
    · rw [if_pos h1.symm, if_pos h1]
    · rw [if_neg (fun q => h1 q.symm), if_neg h1]
      by_cases h2 : x = 61
      · rw [if_pos h2.symm, if_pos h2]
      · rw [if_neg (fun q => h2 q.symm), if_neg h2]
  show (if _ ∧ (0 : Int) ≤ ((41 : Nat) : Int) + Op.lookupswitch.offset [(60, 27), (61, 37)] 47 x then nk (((41 : Nat) : Int) + Op.lookupswitch.offset [(60, 27), (61, 37)] 47 x).toNat ls [] (mk I L t) else none) = _
  rw [e]
  by_cases h1 : x = 60
  · rw [if_pos h1, if_pos h1]
    rfl
  · rw [if_neg h1, if_neg h1]
    by_cases h2 : x = 61
    · rw [if_pos h2, if_pos h2]
      rfl
    · rw [if_neg h2, if_neg h2]
      rfl
theorem t32_68 {a b c : MV} {y : Int} : Res d 32 68 [a, b, c, vi y] [] (mk I L t) = some (vi (if y < 0 then 1 else 0), mk I L t) := by
  refine Eq.trans (e_iload_n D32_68 rfl rfl) (Eq.trans (e_ifge (q1 := 76) D32_69 rfl rfl) ?_)
  by_cases h : 0 ≤ y
  · rw [if_pos h, if_neg (by omega)]
    exact Eq.trans (e_iconst (x := 0) D32_76 rfl rfl) (e_iret D32_77 rfl)
  · rw [if_neg h, if_pos (by omega)]
    exact Eq.trans (e_iconst (x := 1) D32_72 rfl rfl) (Eq.trans (e_goto (q1 := 77) D32_73 rfl) (e_iret D32_77 rfl))
theorem t32_78 {a b c : MV} {y : Int} : Res d 32 78 [a, b, c, vi y] [] (mk I L t) = some (vi (if y = 0 then 1 else 0), mk I L t) := by
  refine Eq.trans (e_iload_n D32_78 rfl rfl) (Eq.trans (e_ifne (q1 := 86) D32_79 rfl rfl) ?_)
  by_cases h : y = 0
  · rw [if_neg (fun q => q h), if_pos h]
    exact Eq.trans (e_iconst (x := 1) D32_82 rfl rfl) (Eq.trans (e_goto (q1 := 87) D32_83 rfl) (e_iret D32_87 rfl))
  · rw [if_pos h, if_neg h]
    exact Eq.trans (e_iconst (x := 0) D32_86 rfl rfl) (e_iret D32_87 rfl)
theorem t32_88 {a b c : MV} {y : Int} : Res d 32 88 [a, b, c, vi y] [] (mk I L t) = some (vi (if 0 < y then 1 else 0), mk I L t) := by
  refine Eq.trans (e_iload_n D32_88 rfl rfl) (Eq.trans (e_ifle (q1 := 96) D32_89 rfl rfl) ?_)
  by_cases h : y ≤ 0
  · rw [if_pos h, if_neg (by omega)]
    exact Eq.trans (e_iconst (x := 0) D32_96 rfl rfl) (e_iret D32_97 rfl)
  · rw [if_neg h, if_pos (by omega)]
    exact Eq.trans (e_iconst (x := 1) D32_92 rfl rfl) (Eq.trans (e_goto (q1 := 97) D32_93 rfl) (e_iret D32_97 rfl))
theorem sp32 {i : Nat} (hi : i < 12) (hw : 0 ≤ I 31 k i ∧ I 31 k i < 16) : Cal (d + 1) 32 [vr 5 k, vi (i : Int), vr 22 f] (mk I L t) = some (vi (bI (soB (I 32 k i) (I 33 k i) (I 22 f (I 31 k i).toNat))), mk I L t) := by
  have cmp : ∃ y : Int, Cal d 243 [vi (I 22 f (I 31 k i).toNat), vi (I 33 k i)] (mk I L t) = some (vi y, mk I L t) ∧ (y < 0 ↔ I 22 f (I 31 k i).toNat < I 33 k i) ∧ (y = 0 ↔ I 22 f (I 31 k i).toNat = I 33 k i) ∧ (0 < y ↔ I 33 k i < I 22 f (I 31 k i).toNat) := by
    by_cases a : I 22 f (I 31 k i).toNat < I 33 k i
    · exact ⟨-1, P243_0_0 a, by omega⟩
    · by_cases b : I 22 f (I 31 k i).toNat = I 33 k i
      · exact ⟨0, P243_0_1 (by omega) b, by omega⟩
      · exact ⟨1, P243_0_2 (by omega) b, by omega⟩
  obtain ⟨y, c, y1, y2, y3⟩ := cmp
  refine Eq.trans (P32_0_1 (n1 := 16) (g1 := by omega) (h1 := by rw [Int.toNat_natCast]; omega) (g2 := rfl) (g3 := by rw [Int.toNat_natCast]; omega) (c1 := c)) ?_
  rw [b32_41, Int.toNat_natCast]
  unfold soB
  by_cases h1 : I 32 k i = 60
  · rw [if_pos h1, if_pos h1, t32_68]
    by_cases q : y < 0
    · rw [if_pos q, decide_eq_true (y1.mp q)]
      rfl
    · rw [if_neg q, decide_eq_false (fun z => q (y1.mpr z))]
      rfl
  · rw [if_neg h1, if_neg h1]
    by_cases h2 : I 32 k i = 61
    · rw [if_pos h2, if_pos h2, t32_78]
      by_cases q : y = 0
      · rw [if_pos q, decide_eq_true (y2.mp q)]
        rfl
      · rw [if_neg q, decide_eq_false (fun z => q (y2.mpr z))]
        rfl
    · rw [if_neg h2, if_neg h2, t32_88]
      by_cases q : 0 < y
      · rw [if_pos q, decide_eq_true (y3.mp q)]
        rfl
      · rw [if_neg q, decide_eq_false (fun z => q (y3.mpr z))]
        rfl
def sdOk (I : H3) (k : Nat) : Prop := (0 ≤ I 5 k 3 ∧ I 5 k 3 ≤ 12) ∧ ∀ i : Nat, (i : Int) < I 5 k 3 → 0 ≤ I 31 k i ∧ I 31 k i < 16
theorem l31 (h : sdOk I k) : ∀ (n i : Nat) (c : Int), (i : Int) + n = I 5 k 3 → 0 ≤ c → c ≤ i → Res (d + 2) 31 4 [vr 5 k, vr 22 f, vi c, vi (i : Int)] [] (mk I L t) = some (vi (fo (soS (I 31 k) (I 32 k) (I 33 k) (I 22 f)) i n c), mk I L t)
  | 0, i, c, hi, h0, h1 => P31_4_3 (by omega)
  | n + 1, i, c, hi, h0, h1 => by
    have hb := h.1
    have c1 := sp32 (d := d) (k := k) (f := f) (L := L) (t := t) (i := i) (by omega) (h.2 i (by omega))
    rw [fo_s]
    cases q : soB (I 32 k i) (I 33 k i) (I 22 f (I 31 k i).toNat) with
    | true =>
      rw [q] at c1
      have e : soS (I 31 k) (I 32 k) (I 33 k) (I 22 f) i c = c + 1 := if_pos q
      rw [e]
      refine Eq.trans (P31_4_0 (h1 := by omega) (h2 := by omega) (c1 := c1)) ?_
      rw [lem_w32k (by omega), w32_s (by omega)]
      exact l31 h n (i + 1) (c + 1) (by omega) (by omega) (by omega)
    | false =>
      rw [q] at c1
      have e : soS (I 31 k) (I 32 k) (I 33 k) (I 22 f) i c = c := if_neg (by rw [q]; decide)
      rw [e]
      refine Eq.trans (P31_4_1 (h1 := by omega) (h2 := by omega) (c1 := c1)) ?_
      rw [lem_w32k (by omega), Int.add_zero, w32_s (by omega)]
      exact l31 h n (i + 1) c (by omega) (by omega) (by omega)
theorem sp31 (h : sdOk I k) : Cal (d + 2) 31 [vr 5 k, vr 22 f] (mk I L t) = some (vi (soN (I 5 k 3) (I 31 k) (I 32 k) (I 33 k) (I 22 f)), mk I L t) := by
  have hb := h.1
  exact Eq.trans P31_0_0 (l31 h (I 5 k 3).toNat 0 0 (by omega) (Int.le_refl _) (Int.le_refl _))
/-! the model -/
def mdOk (I : H3) : Prop := (0 ≤ I 12 0 33 ∧ I 12 0 33 ≤ 12) ∧ ∀ i : Nat, (i : Int) < I 12 0 33 → 0 ≤ I 64 0 i ∧ I 64 0 i < 16
def mscW (I : H3) (f : Nat) : Int := soN (I 12 0 33) (I 64 0) (I 65 0) (I 66 0) (nM I f)
theorem l220 (h : mdOk I) (hf : f < 132) : ∀ (n i : Nat) (c : Int) (u4 u5 : MV), (i : Int) + n = I 12 0 33 → 0 ≤ c → c ≤ i → Res d 220 4 [vr 12 0, vi (f : Int), vi c, vi (i : Int), u4, u5] [] (mk I L t) = some (vi (fo (soS (I 64 0) (I 65 0) (I 66 0) (nM I f)) i n c), mk I L t)
  | 0, i, c, u4, u5, hi, h0, h1 => P220_4_6 (by omega)
  | n + 1, i, c, u4, u5, hi, h0, h1 => by
    have hb := h.1
    have hw := h.2 i (by omega)
    have e1 := ix16w (f := f) (j := I 64 0 i) (by omega) hw
    rw [fo_s]
    have g2 : 0 ≤ w32 (w32 (16 * (f : Int)) + I 64 0 ((i : Int).toNat)) ∧ w32 (w32 (16 * (f : Int)) + I 64 0 ((i : Int).toNat)) < 2112 := by
      rw [Int.toNat_natCast, e1]
      omega
    have ev : I 48 0 (w32 (w32 (16 * (f : Int)) + I 64 0 ((i : Int).toNat))).toNat = nM I f (I 64 0 i).toNat := by
      rw [Int.toNat_natCast, e1, Int.toNat_natCast]
      rfl
    have yes : soB (I 65 0 i) (I 66 0 i) (nM I f (I 64 0 i).toNat) = true → soS (I 64 0) (I 65 0) (I 66 0) (nM I f) i c = c + 1 := fun q => if_pos q
    have no : soB (I 65 0 i) (I 66 0 i) (nM I f (I 64 0 i).toNat) = false → soS (I 64 0) (I 65 0) (I 66 0) (nM I f) i c = c := fun q => if_neg (by rw [q]; decide)
    by_cases a : I 65 0 i = 60
    · by_cases b : nM I f (I 64 0 i).toNat < I 66 0 i
      · rw [yes (by unfold soB; rw [if_pos a]; exact decide_eq_true b)]
        refine Eq.trans (P220_4_0 (h1 := by omega) (g1 := by omega) (g2 := g2) (h2 := a) (h3 := by rw [ev]; exact b)) ?_
        rw [lem_w32k (by omega), w32_s (by omega)]
        exact l220 h hf n (i + 1) (c + 1) _ _ (by omega) (by omega) (by omega)
      · rw [no (by unfold soB; rw [if_pos a]; exact decide_eq_false b)]
        refine Eq.trans (P220_4_1 (h1 := by omega) (g1 := by omega) (g2 := g2) (h2 := a) (h3 := by rw [ev]; exact Int.not_lt.mp b)) ?_
        rw [lem_w32k (by omega), Int.add_zero, w32_s (by omega)]
        exact l220 h hf n (i + 1) c _ _ (by omega) (by omega) (by omega)
    · by_cases a2 : I 65 0 i = 61
      · by_cases b : nM I f (I 64 0 i).toNat = I 66 0 i
        · rw [yes (by unfold soB; rw [if_neg a, if_pos a2]; exact decide_eq_true b)]
          refine Eq.trans (P220_4_2 (h1 := by omega) (g1 := by omega) (g2 := g2) (h2 := a) (h3 := a2) (h4 := by rw [ev]; exact b)) ?_
          rw [lem_w32k (by omega), w32_s (by omega)]
          exact l220 h hf n (i + 1) (c + 1) _ _ (by omega) (by omega) (by omega)
        · rw [no (by unfold soB; rw [if_neg a, if_pos a2]; exact decide_eq_false b)]
          refine Eq.trans (P220_4_3 (h1 := by omega) (g1 := by omega) (g2 := g2) (h2 := a) (h3 := a2) (h4 := by rw [ev]; exact b)) ?_
          rw [lem_w32k (by omega), Int.add_zero, w32_s (by omega)]
          exact l220 h hf n (i + 1) c _ _ (by omega) (by omega) (by omega)
      · by_cases b : I 66 0 i < nM I f (I 64 0 i).toNat
        · rw [yes (by unfold soB; rw [if_neg a, if_neg a2]; exact decide_eq_true b)]
          refine Eq.trans (P220_4_4 (h1 := by omega) (g1 := by omega) (g2 := g2) (h2 := a) (h3 := a2) (h4 := by rw [ev]; exact b)) ?_
          rw [lem_w32k (by omega), w32_s (by omega)]
          exact l220 h hf n (i + 1) (c + 1) _ _ (by omega) (by omega) (by omega)
        · rw [no (by unfold soB; rw [if_neg a, if_neg a2]; exact decide_eq_false b)]
          refine Eq.trans (P220_4_5 (h1 := by omega) (g1 := by omega) (g2 := g2) (h2 := a) (h3 := a2) (h4 := by rw [ev]; exact Int.not_lt.mp b)) ?_
          rw [lem_w32k (by omega), Int.add_zero, w32_s (by omega)]
          exact l220 h hf n (i + 1) c _ _ (by omega) (by omega) (by omega)
theorem sp220 (h : mdOk I) (hf : f < 132) : Cal (d + 1) 220 [vr 12 0, vi (f : Int)] (mk I L t) = some (vi (mscW I f), mk I L t) := by
  have hb := h.1
  exact Eq.trans P220_0_0 (l220 h hf (I 12 0 33).toNat 0 0 vx vx (by omega) (Int.le_refl _) (Int.le_refl _))
end SAID
/-! score -/
def scW (I : H3) (t : Nat → Nat) (f : Nat) : Int := soN (I 5 (t 10) 3) (I 31 (t 10)) (I 32 (t 10)) (I 33 (t 10)) (I 22 f)
theorem Rel.sd {I : H3} {t : Nat → Nat} (h : Rel I t) : sdOk I (t 10) := ⟨h.pS.2.1, fun i hi => (h.pS.2.2 i hi).1.2⟩
theorem Rel.md {I : H3} {t : Nat → Nat} (h : Rel I t) : mdOk I := by
  obtain ⟨a, b, c⟩ := h.pS
  refine ⟨by rw [a]; exact b, fun i hi => ?_⟩
  rw [a] at hi
  have := (c i hi).1
  omega
theorem Rel.esc {I : H3} {t : Nat → Nat} (h : Rel I t) {f : Nat} (hf : f < 120) : mscW I f = scW I t f := by
  obtain ⟨a, b, c⟩ := h.pS
  unfold mscW scW soN
  rw [a]
  refine fo_cg _ 0 0 (fun i x _ hi => ?_)
  obtain ⟨⟨c1, c2, c3⟩, c4, c5⟩ := c i (by omega)
  unfold soS
  rw [c1, c4, c5, c16_of (h.pF.2.2.1 f hf).2.1 (j := (I 31 (t 10) i).toNat) (by omega)]
theorem both_score (f : Int) : Both 92 221 [vi f] := both_0 (fun d I L t h => by
  have F := h.pF
  have hf := F.1
  have ef := F.2.1
  by_cases a : 0 ≤ f ∧ f < I 11 0 10
  · obtain ⟨g, rfl⟩ : ∃ g : Nat, f = (g : Int) := ⟨f.toNat, by omega⟩
    refine ⟨_, P92_0_1 (d := d + 48) (g1 := by omega) (h1 := a) (g2 := by omega) (c1 := sp31 (d := d + 47) h.sd), ?_⟩
    refine Eq.trans (P221_0_1 (d := d + 48) (g1 := by omega) (h1 := by omega) (c1 := sp220 (d := d + 48) h.md (by omega))) ?_
    rw [h.esc (by omega)]
    rfl
  · exact ⟨_, P92_0_0 (d := d + 48) (g1 := by omega) (h1 := a), P221_0_0 (d := d + 48) (g1 := by omega) (h1 := by omega)⟩)
