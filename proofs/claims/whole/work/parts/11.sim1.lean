/-! one step of the small machine is a step of the machine: stack, locals, jumps -/
def Nx (p : Program) (l : Launch) (e : Env) (R : Room) (s : State) (m : MethodId) (args : Array Value) (below : List Frame) (meth : Method) (c : Code) (cells slots : Nat) (Q : State → Prop) (G : GG) (y : Nat) (h : MS) (q : Nat) (ls st : List MV) (h' : MS) : Prop :=
  ∀ (lsr : Array Slot) (H : Heap) (locs : List Loc), Dy G s y lsr ls st h' H locs → W p l e R s m args below meth c H locs (cells + (h'.2.2.2 - h.2.2.2)) (slots + (sl h'.2.2.2 - sl h.2.2.2)) Q (F0 m q lsr (st.map (tv G)))
section S1S
variable {p : Program} {l : Launch} {e : Env} {R : Room} {s : State} {m : MethodId} {args : Array Value} {below : List Frame} {meth : Method} {c : Code} {H : Heap} {locs : List Loc} {cells slots : Nat} {Q : State → Prop}
variable {G : GG} {y d pc q q' : Nat} {lsr : Array Slot} {ls ls' st st' : List MV} {h h' : MS}
theorem Nx.go (K : Nx p l e R s m args below meth c cells slots Q G y h q ls st h) {lsr' : Array Slot} (D : Dy G s y lsr' ls st h H locs) : W p l e R s m args below meth c H locs cells slots Q (F0 m q lsr' (st.map (tv G))) := by
  have := K lsr' H locs D
  simpa only [Nat.sub_self, Nat.add_zero] using this
theorem Dy.stk (D : Dy G s y lsr ls st h H locs) (hs : ∀ v ∈ st', okv G h.2.2.2 v) : Dy G s y lsr ls st' h H locs := ⟨D.1, D.2.1, D.2.2.1, hs⟩
theorem Dy.loc {lsr' : Array Slot} (D : Dy G s y lsr ls st h H locs) (hl : LV G h.2.2.2 lsr' ls' (mxl y)) (hs : ∀ v ∈ st', okv G h.2.2.2 v) : Dy G s y lsr' ls' st' h H locs := ⟨D.1, D.2.1, hl, hs⟩
theorem s_push {v : MV} (D : Dy G s y lsr ls st h H locs) (ok : okv G h.2.2.2 v) (K : Nx p l e R s m args below meth c cells slots Q G y h q ls (v :: st) h)
    (row : W p l e R s m args below meth c H locs cells slots Q (F0 m q lsr (tv G v :: st.map (tv G))) → W p l e R s m args below meth c H locs cells slots Q (F0 m pc lsr (st.map (tv G)))) : W p l e R s m args below meth c H locs cells slots Q (F0 m pc lsr (st.map (tv G))) :=
  row (K.go (D.stk (fun w hw => by
    rcases List.mem_cons.mp hw with rfl | hw
    · exact ok
    · exact D.2.2.2 w hw)))
theorem inj4 {a a' : Nat} {b b' c c' : List MV} {d d' : MS} (h : (some (a, b, c, d) : Option NX) = some (a', b', c', d')) : a = a' ∧ b = b' ∧ c = c' ∧ d = d' := by
  cases h
  exact ⟨rfl, rfl, rfl, rfl⟩
theorem okc {v : MV} (D : Dy G s y lsr ls (v :: st) h H locs) : okv G h.2.2.2 v := D.2.2.2 v List.mem_cons_self
theorem okt {v : MV} (D : Dy G s y lsr ls (v :: st) h H locs) : ∀ w ∈ st, okv G h.2.2.2 w := fun w hw => D.2.2.2 w (List.mem_cons_of_mem _ hw)
theorem okp {v : MV} (h1 : okv G h.2.2.2 v) (h2 : ∀ w ∈ st, okv G h.2.2.2 w) : ∀ w ∈ v :: st, okv G h.2.2.2 w := fun w hw => by
  rcases List.mem_cons.mp hw with rfl | hw
  · exact h1
  · exact h2 w hw

theorem s_ld0 {j : Nat} (D : Dy G s y lsr ls st h H locs) (hn : ldX ls j q st h 0 = some (q', ls', st', h')) (K : Nx p l e R s m args below meth c cells slots Q G y h q' ls' st' h')
    (row : ∀ x : Int, lsr[j]? = some (.val (.int (Int32.ofInt x))) → W p l e R s m args below meth c H locs cells slots Q (F0 m q lsr (.int (Int32.ofInt x) :: st.map (tv G))) → W p l e R s m args below meth c H locs cells slots Q (F0 m pc lsr (st.map (tv G)))) : W p l e R s m args below meth c H locs cells slots Q (F0 m pc lsr (st.map (tv G))) := by
  unfold ldX at hn
  split at hn
  · next x hx =>
    rw [if_pos rfl] at hn
    obtain ⟨rfl, rfl, rfl, rfl⟩ := inj4 hn
    obtain ⟨g1, g2⟩ := D.2.2.1.2.2.2 j (.inl x) hx (fun z => by cases z)
    exact row x g1 (K.go (D.stk (okp g2 D.2.2.2)))
  · next x hx => simp at hn
  · next x hx => simp at hn
  · cases hn
theorem s_ld1 {j : Nat} (D : Dy G s y lsr ls st h H locs) (hn : ldX ls j q st h 1 = some (q', ls', st', h')) (K : Nx p l e R s m args below meth c cells slots Q G y h q' ls' st' h')
    (row : ∀ x : Int, lsr[j]? = some (.val (.long (Int64.ofInt x))) → W p l e R s m args below meth c H locs cells slots Q (F0 m q lsr (.long (Int64.ofInt x) :: st.map (tv G))) → W p l e R s m args below meth c H locs cells slots Q (F0 m pc lsr (st.map (tv G)))) : W p l e R s m args below meth c H locs cells slots Q (F0 m pc lsr (st.map (tv G))) := by
  unfold ldX at hn
  split at hn
  · next x hx => simp at hn
  · next x hx =>
    rw [if_pos rfl] at hn
    obtain ⟨rfl, rfl, rfl, rfl⟩ := inj4 hn
    obtain ⟨g1, g2⟩ := D.2.2.1.2.2.2 j (.inr (.inl x)) hx (fun z => by cases z)
    exact row x g1 (K.go (D.stk (okp g2 D.2.2.2)))
  · next x hx => simp at hn
  · cases hn
theorem s_ld2 {j : Nat} (D : Dy G s y lsr ls st h H locs) (hn : ldX ls j q st h 2 = some (q', ls', st', h')) (K : Nx p l e R s m args below meth c cells slots Q G y h q' ls' st' h')
    (row : ∀ x : MR, lsr[j]? = some (.val (.ref (adr G x))) → W p l e R s m args below meth c H locs cells slots Q (F0 m q lsr (.ref (adr G x) :: st.map (tv G))) → W p l e R s m args below meth c H locs cells slots Q (F0 m pc lsr (st.map (tv G)))) : W p l e R s m args below meth c H locs cells slots Q (F0 m pc lsr (st.map (tv G))) := by
  unfold ldX at hn
  split at hn
  · next x hx => simp at hn
  · next x hx => simp at hn
  · next x hx =>
    rw [if_pos rfl] at hn
    obtain ⟨rfl, rfl, rfl, rfl⟩ := inj4 hn
    obtain ⟨g1, g2⟩ := D.2.2.1.2.2.2 j (.inr (.inr (.inl (some x)))) hx (fun z => by cases z)
    exact row x g1 (K.go (D.stk (okp g2 D.2.2.2)))
  · cases hn
theorem s_st0 {j : Nat} (D : Dy G s y lsr ls st h H locs) (hn : stX ls j q st h 0 = some (q', ls', st', h')) (K : Nx p l e R s m args below meth c cells slots Q G y h q' ls' st' h')
    (row : ∀ (x : Int) (rest : List Value), j < mxl y → (∀ lsr' : Array Slot, lv_has lsr' (mxl y) ((j, .int (Int32.ofInt x)) :: (lvl G ls).filter (fun q => !(q.1 == j) && !(q.1 + 1 == j && q.2.category == 2))) → W p l e R s m args below meth c H locs cells slots Q (F0 m q lsr' rest)) → W p l e R s m args below meth c H locs cells slots Q (F0 m pc lsr (.int (Int32.ofInt x) :: rest))) : W p l e R s m args below meth c H locs cells slots Q (F0 m pc lsr (st.map (tv G))) := by
  unfold stX at hn
  split at hn
  · next x r =>
    split at hn
    · next hj =>
      obtain ⟨rfl, rfl, rfl, rfl⟩ := inj4 hn
      have hj2 : j < mxl y := by rw [← D.2.2.1.1]; exact hj.2
      refine row x _ hj2 (fun lsr' hl => ?_)
      exact K.go (D.loc (D.2.2.1.set1 (v := .inl x) hj2 (fun z => by cases z) (okc D) hl) (okt D))
    · cases hn
  · next x r => simp at hn
  · next x r => simp at hn
  · cases hn
theorem s_st2 {j : Nat} (D : Dy G s y lsr ls st h H locs) (hn : stX ls j q st h 2 = some (q', ls', st', h')) (K : Nx p l e R s m args below meth c cells slots Q G y h q' ls' st' h')
    (row : ∀ (x : MR) (rest : List Value), j < mxl y → (∀ lsr' : Array Slot, lv_has lsr' (mxl y) ((j, .ref (adr G x)) :: (lvl G ls).filter (fun q => !(q.1 == j) && !(q.1 + 1 == j && q.2.category == 2))) → W p l e R s m args below meth c H locs cells slots Q (F0 m q lsr' rest)) → W p l e R s m args below meth c H locs cells slots Q (F0 m pc lsr (.ref (adr G x) :: rest))) : W p l e R s m args below meth c H locs cells slots Q (F0 m pc lsr (st.map (tv G))) := by
  unfold stX at hn
  split at hn
  · next x r => simp at hn
  · next x r => simp at hn
  · next x r =>
    split at hn
    · next hj =>
      obtain ⟨rfl, rfl, rfl, rfl⟩ := inj4 hn
      have hj2 : j < mxl y := by rw [← D.2.2.1.1]; exact hj.2
      refine row x _ hj2 (fun lsr' hl => ?_)
      exact K.go (D.loc (D.2.2.1.set1 (v := .inr (.inr (.inl (some x)))) hj2 (fun z => by cases z) (okc D) hl) (okt D))
    · cases hn
  · cases hn
theorem s_st1 {j : Nat} (D : Dy G s y lsr ls st h H locs) (hn : stX ls j q st h 1 = some (q', ls', st', h')) (K : Nx p l e R s m args below meth c cells slots Q G y h q' ls' st' h')
    (row : ∀ (x : Int) (rest : List Value), j + 1 < mxl y → (∀ lsr' : Array Slot, lv_has lsr' (mxl y) ((j, .long (Int64.ofInt x)) :: (lvl G ls).filter (fun q => !(q.1 == j) && (!(q.1 == j + 1) && !(q.1 + 1 == j && q.2.category == 2)))) → W p l e R s m args below meth c H locs cells slots Q (F0 m q lsr' rest)) → W p l e R s m args below meth c H locs cells slots Q (F0 m pc lsr (.long (Int64.ofInt x) :: rest))) : W p l e R s m args below meth c H locs cells slots Q (F0 m pc lsr (st.map (tv G))) := by
  unfold stX at hn
  split at hn
  · next x r => simp at hn
  · next x r =>
    split at hn
    · next hj =>
      obtain ⟨rfl, rfl, rfl, rfl⟩ := inj4 hn
      have hj2 : j + 1 < mxl y := by rw [← D.2.2.1.1]; exact hj.2
      refine row x _ hj2 (fun lsr' hl => ?_)
      exact K.go (D.loc (D.2.2.1.set2 hj2 (okc D) hl) (okt D))
    · cases hn
  · next x r => simp at hn
  · cases hn
theorem s_bin {f : Int → Int → Int} {g : Int32 → Int32 → Int32} (D : Dy G s y lsr ls st h H locs) (hf : ∀ a b : Int, Int32.ofInt (f a b) = g (Int32.ofInt a) (Int32.ofInt b) ∧ w32 (f a b) = f a b) (hn : bin f q ls st h = some (q', ls', st', h')) (K : Nx p l e R s m args below meth c cells slots Q G y h q' ls' st' h')
    (row : ∀ (x z : Int32) (rest : List Value), W p l e R s m args below meth c H locs cells slots Q (F0 m q lsr (.int (g x z) :: rest)) → W p l e R s m args below meth c H locs cells slots Q (F0 m pc lsr (.int z :: .int x :: rest))) : W p l e R s m args below meth c H locs cells slots Q (F0 m pc lsr (st.map (tv G))) := by
  unfold bin at hn
  split at hn
  · next b a r =>
    obtain ⟨rfl, rfl, rfl, rfl⟩ := inj4 hn
    have k := K.go (D.stk (okp (v := .inl (f a b)) (hf a b).2 (fun w hw => D.2.2.2 w (List.mem_cons_of_mem _ (List.mem_cons_of_mem _ hw)))))
    refine row _ _ _ ?_
    rw [← (hf a b).1]
    exact k
  · cases hn
theorem s_binN {f : Int → Int → Int} {g : Int32 → Int32 → Int32} (D : Dy G s y lsr ls st h H locs) (hf : ∀ a b : Int, Int32.ofInt (f a b) = g (Int32.ofInt a) (Int32.ofInt b) ∧ w32 (f a b) = f a b) (hn : binN f q ls st h = some (q', ls', st', h')) (K : Nx p l e R s m args below meth c cells slots Q G y h q' ls' st' h')
    (row : ∀ (x z : Int32) (rest : List Value), ¬ z = 0 → W p l e R s m args below meth c H locs cells slots Q (F0 m q lsr (.int (g x z) :: rest)) → W p l e R s m args below meth c H locs cells slots Q (F0 m pc lsr (.int z :: .int x :: rest))) : W p l e R s m args below meth c H locs cells slots Q (F0 m pc lsr (st.map (tv G))) := by
  unfold binN at hn
  split at hn
  · next b a r =>
    split at hn
    · cases hn
    · next hb0 =>
      obtain ⟨rfl, rfl, rfl, rfl⟩ := inj4 hn
      have k := K.go (D.stk (okp (v := .inl (f a b)) (hf a b).2 (fun w hw => D.2.2.2 w (List.mem_cons_of_mem _ (List.mem_cons_of_mem _ hw)))))
      refine row _ _ _ (fun z => hb0 ((cn_eq (okc D) cn_0).mp z)) ?_
      rw [← (hf a b).1]
      exact k
  · cases hn
theorem s_binL {f : Int → Int → Int} {g : Int64 → Int64 → Int64} (D : Dy G s y lsr ls st h H locs) (hf : ∀ a b : Int, Int64.ofInt (f a b) = g (Int64.ofInt a) (Int64.ofInt b) ∧ w64 (f a b) = f a b) (hn : binL f q ls st h = some (q', ls', st', h')) (K : Nx p l e R s m args below meth c cells slots Q G y h q' ls' st' h')
    (row : ∀ (x z : Int64) (rest : List Value), W p l e R s m args below meth c H locs cells slots Q (F0 m q lsr (.long (g x z) :: rest)) → W p l e R s m args below meth c H locs cells slots Q (F0 m pc lsr (.long z :: .long x :: rest))) : W p l e R s m args below meth c H locs cells slots Q (F0 m pc lsr (st.map (tv G))) := by
  unfold binL at hn
  split at hn
  · next b a r =>
    obtain ⟨rfl, rfl, rfl, rfl⟩ := inj4 hn
    have k := K.go (D.stk (okp (v := .inr (.inl (f a b))) (hf a b).2 (fun w hw => D.2.2.2 w (List.mem_cons_of_mem _ (List.mem_cons_of_mem _ hw)))))
    refine row _ _ _ ?_
    rw [← (hf a b).1]
    exact k
  · cases hn
theorem s_binLN {f : Int → Int → Int} {g : Int64 → Int64 → Int64} (D : Dy G s y lsr ls st h H locs) (hf : ∀ a b : Int, Int64.ofInt (f a b) = g (Int64.ofInt a) (Int64.ofInt b) ∧ w64 (f a b) = f a b) (hn : binLN f q ls st h = some (q', ls', st', h')) (K : Nx p l e R s m args below meth c cells slots Q G y h q' ls' st' h')
    (row : ∀ (x z : Int64) (rest : List Value), ¬ z = 0 → W p l e R s m args below meth c H locs cells slots Q (F0 m q lsr (.long (g x z) :: rest)) → W p l e R s m args below meth c H locs cells slots Q (F0 m pc lsr (.long z :: .long x :: rest))) : W p l e R s m args below meth c H locs cells slots Q (F0 m pc lsr (st.map (tv G))) := by
  unfold binLN at hn
  split at hn
  · next b a r =>
    split at hn
    · cases hn
    · next hb0 =>
      obtain ⟨rfl, rfl, rfl, rfl⟩ := inj4 hn
      have k := K.go (D.stk (okp (v := .inr (.inl (f a b))) (hf a b).2 (fun w hw => D.2.2.2 w (List.mem_cons_of_mem _ (List.mem_cons_of_mem _ hw)))))
      refine row _ _ _ (fun z => hb0 ((cn_leq (okc D) (by decide +kernel : w64 0 = 0)).mp z)) ?_
      rw [← (hf a b).1]
      exact k
  · cases hn
theorem s_jmp1 {cn : Jvm.ClassFile.Cond} {tg : Nat} {Pr : Int32 → Prop} (D : Dy G s y lsr ls st h H locs) (hp : ∀ a : Int, w32 a = a → (Pr (Int32.ofInt a) ↔ cndB cn a 0 = true)) (hn : jmp1 cn tg q ls st h = some (q', ls', st', h')) (K : Nx p l e R s m args below meth c cells slots Q G y h q' ls' st' h')
    (row : ∀ (x : Int32) (rest : List Value), (Pr x → W p l e R s m args below meth c H locs cells slots Q (F0 m tg lsr rest)) → (¬ Pr x → W p l e R s m args below meth c H locs cells slots Q (F0 m q lsr rest)) → W p l e R s m args below meth c H locs cells slots Q (F0 m pc lsr (.int x :: rest))) : W p l e R s m args below meth c H locs cells slots Q (F0 m pc lsr (st.map (tv G))) := by
  unfold jmp1 at hn
  split at hn
  · next a r =>
    refine row _ _ (fun z => ?_) (fun z => ?_)
    · rw [if_pos ((hp a (okc D)).mp z)] at hn
      obtain ⟨rfl, rfl, rfl, rfl⟩ := inj4 hn
      exact K.go (D.stk (okt D))
    · rw [if_neg (fun w => z ((hp a (okc D)).mpr w))] at hn
      obtain ⟨rfl, rfl, rfl, rfl⟩ := inj4 hn
      exact K.go (D.stk (okt D))
  · cases hn
theorem s_jmp2 {cn : Jvm.ClassFile.Cond} {tg : Nat} {Pr : Int32 → Int32 → Prop} (D : Dy G s y lsr ls st h H locs) (hp : ∀ a b : Int, w32 a = a → w32 b = b → (Pr (Int32.ofInt a) (Int32.ofInt b) ↔ cndB cn a b = true)) (hn : jmp2 cn tg q ls st h = some (q', ls', st', h')) (K : Nx p l e R s m args below meth c cells slots Q G y h q' ls' st' h')
    (row : ∀ (x z : Int32) (rest : List Value), (Pr x z → W p l e R s m args below meth c H locs cells slots Q (F0 m tg lsr rest)) → (¬ Pr x z → W p l e R s m args below meth c H locs cells slots Q (F0 m q lsr rest)) → W p l e R s m args below meth c H locs cells slots Q (F0 m pc lsr (.int z :: .int x :: rest))) : W p l e R s m args below meth c H locs cells slots Q (F0 m pc lsr (st.map (tv G))) := by
  unfold jmp2 at hn
  split at hn
  · next b a r =>
    have ha : w32 a = a := D.2.2.2 (.inl a) (List.mem_cons_of_mem _ List.mem_cons_self)
    have hr : ∀ w ∈ r, okv G h.2.2.2 w := fun w hw => D.2.2.2 w (List.mem_cons_of_mem _ (List.mem_cons_of_mem _ hw))
    refine row _ _ _ (fun z => ?_) (fun z => ?_)
    · rw [if_pos ((hp a b ha (okc D)).mp z)] at hn
      obtain ⟨rfl, rfl, rfl, rfl⟩ := inj4 hn
      exact K.go (D.stk hr)
    · rw [if_neg (fun w => z ((hp a b ha (okc D)).mpr w))] at hn
      obtain ⟨rfl, rfl, rfl, rfl⟩ := inj4 hn
      exact K.go (D.stk hr)
  · cases hn
theorem b32_ok (g : Int32 → Int32 → Int32) (a b : Int) : Int32.ofInt (b32 g a b) = g (Int32.ofInt a) (Int32.ofInt b) ∧ w32 (b32 g a b) = b32 g a b := ⟨Int32.ofInt_toInt _, w32_t _⟩
theorem b64_ok (g : Int64 → Int64 → Int64) (a b : Int) : Int64.ofInt (b64 g a b) = g (Int64.ofInt a) (Int64.ofInt b) ∧ w64 (b64 g a b) = b64 g a b := ⟨Int64.ofInt_toInt _, w64_t _⟩
theorem pcn {pc : Nat} {off : Int} (h : (0 : Int) ≤ pc + off) : (pc : Int) + off = ((pc + off).toNat : Int) := (Int.toNat_of_nonneg h).symm

end S1S
