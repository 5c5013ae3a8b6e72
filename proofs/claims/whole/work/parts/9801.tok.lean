/-! tokens of a tape -/
def spB (c : Int) : Bool := decide (c = 32 ∨ c = 10)
def leB (c : Int) : Bool := decide ((97 ≤ c ∧ c ≤ 122) ∨ (65 ≤ c ∧ c ≤ 90))
def dgB (c : Int) : Bool := decide (48 ≤ c ∧ c ≤ 57)
def sgB (c : Int) : Bool := decide (c = 40 ∨ c = 41 ∨ c = 42 ∨ c = 43 ∨ c = 45 ∨ c = 47 ∨ c = 59 ∨ c = 60 ∨ c = 61 ∨ c = 62)
/-- on while Q holds -/
def rnF (Q : Int → Bool) (b : Nat → Int) : Nat → Nat → Nat
  | 0, p => p
  | m + 1, p => if Q (b p) = true then rnF Q b m (p + 1) else p
def rn (Q : Int → Bool) (b : Nat → Int) (n p : Nat) : Nat := rnF Q b (n - p) p
section RN
variable {Q : Int → Bool} {b : Nat → Int} {n p : Nat}
theorem rn_ge (h : n ≤ p) : rn Q b n p = p := by
  unfold rn
  rw [show n - p = 0 by omega]
  rfl
theorem rn_t (h : p < n) (q : Q (b p) = true) : rn Q b n p = rn Q b n (p + 1) := by
  unfold rn
  rw [show n - p = (n - (p + 1)) + 1 by omega]
  exact if_pos q
theorem rn_f (h : p < n) (q : ¬ Q (b p) = true) : rn Q b n p = p := by
  unfold rn
  rw [show n - p = (n - (p + 1)) + 1 by omega]
  exact if_neg q
theorem rn_in : ∀ (m p : Nat), p + m = n → p ≤ rn Q b n p ∧ rn Q b n p ≤ n ∧ (rn Q b n p < n → ¬ Q (b (rn Q b n p)) = true) ∧ ∀ j, p ≤ j → j < rn Q b n p → Q (b j) = true
  | 0, p, h => by
    rw [rn_ge (by omega)]
    exact ⟨Nat.le_refl _, by omega, fun z => by omega, fun j h1 h2 => by omega⟩
  | m + 1, p, h => by
    by_cases q : Q (b p) = true
    · rw [rn_t (by omega) q]
      obtain ⟨a1, a2, a3, a4⟩ := rn_in m (p + 1) (by omega)
      refine ⟨by omega, a2, a3, fun j h1 h2 => ?_⟩
      by_cases z : j = p
      · rw [z]
        exact q
      · exact a4 j (by omega) h2
    · rw [rn_f (by omega) q]
      exact ⟨Nat.le_refl _, by omega, fun _ => q, fun j h1 h2 => by omega⟩
theorem rn_i (h : p ≤ n) : p ≤ rn Q b n p ∧ rn Q b n p ≤ n ∧ (rn Q b n p < n → ¬ Q (b (rn Q b n p)) = true) ∧ ∀ j, p ≤ j → j < rn Q b n p → Q (b j) = true := rn_in (n - p) p (by omega)
end RN
/-- what a number comes to -/
def nvS (b : Nat → Int) (s : Nat) (j : Nat) (a : Int) : Int := if j < s + 4 then w32 (w32 (w32 (10 * a) + b j) - 48) else a
def nv (b : Nat → Int) (s e : Nat) : Int := fo (nvS b s) s (e - s) 0
theorem nv_k {b : Nat → Int} {s : Nat} : ∀ k : Nat, (∀ j, j < k → dgB (b (s + j)) = true) → 0 ≤ fo (nvS b s) s k 0 ∧ ((k = 0 → fo (nvS b s) s k 0 ≤ 0) ∧ (k = 1 → fo (nvS b s) s k 0 ≤ 9) ∧ (k = 2 → fo (nvS b s) s k 0 ≤ 99) ∧ (k = 3 → fo (nvS b s) s k 0 ≤ 999) ∧ fo (nvS b s) s k 0 ≤ 9999)
  | 0, _ => ⟨Int.le_refl _, fun _ => Int.le_refl _, fun h => by omega, fun h => by omega, fun h => by omega, by show (0 : Int) ≤ 9999; decide⟩
  | k + 1, h => by
    obtain ⟨a0, a1, a2, a3, a4, a5⟩ := nv_k k (fun j hj => h j (by omega))
    have d := h k (by omega)
    unfold dgB at d
    rw [decide_eq_true_eq] at d
    rw [fo_e]
    generalize fo (nvS b s) s k 0 = a at *
    unfold nvS
    by_cases q : k < 4
    · rw [if_pos (by omega)]
      have e1 : w32 (10 * a) = 10 * a := w32_s (by omega)
      have e2 : w32 (10 * a + b (s + k)) = 10 * a + b (s + k) := w32_s (by omega)
      have e3 : w32 (10 * a + b (s + k) - 48) = 10 * a + b (s + k) - 48 := w32_s (by omega)
      rw [e1, e2, e3]
      have : k = 0 ∨ k = 1 ∨ k = 2 ∨ k = 3 := by omega
      rcases this with z | z | z | z <;> subst z <;> omega
    · rw [if_neg (by omega)]
      omega
theorem nv_in {b : Nat → Int} {s e : Nat} (h : ∀ j, s ≤ j → j < e → dgB (b j) = true) : 0 ≤ nv b s e ∧ nv b s e ≤ 9999 := by
  have := nv_k (b := b) (s := s) (e - s) (fun j hj => h (s + j) (by omega) (by omega))
  exact ⟨this.1, this.2.2.2.2.2⟩
/-- words -/
def bl (b : Nat → Int) (s : Nat) : Nat → List Int
  | 0 => []
  | m + 1 => b s :: bl b (s + 1) m
def mtB (b : Nat → Int) (s e w : Nat) : Bool := decide (litB.getD w [] = bl b s (e - s))
def wdF (Q : Nat → Bool) : Nat → Nat → Nat
  | 0, _ => 25
  | m + 1, k => if Q k = true then k else wdF Q m (k + 1)
def wd (b : Nat → Int) (s e : Nat) : Nat := wdF (mtB b s e) 23 0
theorem litw_ne : ∀ w v : Fin 23, litB.getD w.val [] = litB.getD v.val [] → w = v := by decide +kernel
theorem mt_one {b : Nat → Int} {s e w v : Nat} (hw : w < 23) (hv : v < 23) (a : mtB b s e w = true) (c : mtB b s e v = true) : w = v := by
  unfold mtB at a c
  rw [decide_eq_true_eq] at a c
  have := litw_ne ⟨w, hw⟩ ⟨v, hv⟩ (a.trans c.symm)
  exact congrArg Fin.val this
theorem wdF_in {Q : Nat → Bool} : ∀ (m k : Nat), (∀ j, k ≤ j → j < k + m → ¬ Q j = true) ∧ wdF Q m k = 25 ∨ (k ≤ wdF Q m k ∧ wdF Q m k < k + m ∧ Q (wdF Q m k) = true)
  | 0, k => Or.inl ⟨fun j h1 h2 => by omega, rfl⟩
  | m + 1, k => by
    by_cases q : Q k = true
    · right
      show k ≤ (if Q k = true then k else _) ∧ (if Q k = true then k else _) < _ ∧ Q (if Q k = true then k else _) = true
      rw [if_pos q]
      exact ⟨Nat.le_refl _, by omega, q⟩
    · have e : wdF Q (m + 1) k = wdF Q m (k + 1) := if_neg q
      rw [e]
      rcases wdF_in (Q := Q) m (k + 1) with ⟨a, a2⟩ | ⟨a, a2, a3⟩
      · refine Or.inl ⟨fun j h1 h2 => ?_, a2⟩
        by_cases z : j = k
        · rw [z]
          exact q
        · exact a j (by omega) (by omega)
      · exact Or.inr ⟨by omega, by omega, a3⟩
theorem wd_in (b : Nat → Int) (s e : Nat) : ((∀ w, w < 23 → ¬ mtB b s e w = true) ∧ wd b s e = 25) ∨ (wd b s e < 23 ∧ mtB b s e (wd b s e) = true) := by
  rcases wdF_in (Q := mtB b s e) 23 0 with ⟨a, a2⟩ | ⟨a, a2, a3⟩
  · exact Or.inl ⟨fun w hw => a w (by omega) (by omega), a2⟩
  · exact Or.inr ⟨by show wdF _ 23 0 < 23; omega, a3⟩
theorem wd_mt {b : Nat → Int} {s e w : Nat} (hw : w < 23) : mtB b s e w = true ↔ wd b s e = w := by
  rcases wd_in b s e with ⟨a, a2⟩ | ⟨a, a2⟩
  · constructor
    · intro h
      exact absurd h (a w hw)
    · intro h
      omega
  · constructor
    · intro h
      exact mt_one a hw a2 h
    · intro h
      rw [← h]
      exact a2
/-- the token at q, its end, its worth -/
def teN (b : Nat → Int) (n q : Nat) : Nat := if n ≤ q then q else if leB (b q) = true then rn leB b n q else if dgB (b q) = true then rn dgB b n q else q + 1
def tkC (b : Nat → Int) (n q : Nat) : Int := if n ≤ q then 24 else if leB (b q) = true then (wd b q (rn leB b n q) : Int) else if dgB (b q) = true then (if rn dgB b n q - q ≤ 4 then 23 else 25) else if sgB (b q) = true then b q else 25
def vlN (b : Nat → Int) (n q : Nat) : Int := if n ≤ q then 0 else if leB (b q) = true then 0 else if dgB (b q) = true then nv b q (rn dgB b n q) else 0
/-- where token j begins -/
def stN (b : Nat → Int) (n : Nat) : Nat → Nat
  | 0 => rn spB b n 0
  | j + 1 => rn spB b n (teN b n (stN b n j))
theorem le_ndg {c : Int} (h : leB c = true) : ¬ dgB c = true := by
  unfold leB at h
  unfold dgB
  rw [decide_eq_true_eq] at h ⊢
  omega
theorem te_in {b : Nat → Int} {n q : Nat} (h : q < n) : q < teN b n q ∧ teN b n q ≤ n := by
  unfold teN
  rw [if_neg (by omega)]
  by_cases a : leB (b q) = true
  · rw [if_pos a, rn_t h a]
    have := rn_i (Q := leB) (b := b) (n := n) (p := q + 1) (by omega)
    omega
  · rw [if_neg a]
    by_cases c : dgB (b q) = true
    · rw [if_pos c, rn_t h c]
      have := rn_i (Q := dgB) (b := b) (n := n) (p := q + 1) (by omega)
      omega
    · rw [if_neg c]
      omega
theorem vl_in {b : Nat → Int} {n q : Nat} : 0 ≤ vlN b n q ∧ vlN b n q ≤ 9999 := by
  unfold vlN
  by_cases h : n ≤ q
  · rw [if_pos h]
    decide
  · rw [if_neg h]
    split
    · decide
    · split
      · have := rn_i (Q := dgB) (b := b) (n := n) (p := q) (by omega)
        exact nv_in (fun j h1 h2 => this.2.2.2 j h1 h2)
      · decide
theorem st_in {b : Nat → Int} {n : Nat} : ∀ j, stN b n j ≤ n ∧ (stN b n j < n → j ≤ stN b n j)
  | 0 => ⟨(rn_i (by omega)).2.1, fun _ => Nat.zero_le _⟩
  | j + 1 => by
    obtain ⟨a, a2⟩ := st_in (b := b) (n := n) j
    by_cases h : stN b n j < n
    · have t := te_in (b := b) h
      have r := rn_i (Q := spB) (b := b) (n := n) (p := teN b n (stN b n j)) t.2
      exact ⟨r.2.1, fun _ => by
        have := a2 h
        show j + 1 ≤ rn spB b n (teN b n (stN b n j))
        omega⟩
    · have e : teN b n (stN b n j) = stN b n j := if_pos (by omega)
      have : stN b n (j + 1) = n := by
        show rn spB b n (teN b n (stN b n j)) = n
        rw [e, rn_ge (by omega)]
        omega
      exact ⟨by omega, fun _ => by omega⟩
theorem st_nsp {b : Nat → Int} {n j : Nat} (h : stN b n j < n) : ¬ spB (b (stN b n j)) = true := by
  cases j with
  | zero => exact (rn_i (Q := spB) (b := b) (n := n) (p := 0) (by omega)).2.2.1 h
  | succ j =>
    have a := (st_in (b := b) (n := n) j).1
    have t : teN b n (stN b n j) ≤ n := by
      by_cases z : stN b n j < n
      · exact (te_in z).2
      · rw [show teN b n (stN b n j) = stN b n j from if_pos (by omega)]
        exact a
    exact (rn_i (Q := spB) (b := b) (n := n) (p := teN b n (stN b n j)) t).2.2.1 h
theorem tk_end {b : Nat → Int} {n q : Nat} : tkC b n q = 24 ↔ n ≤ q := by
  unfold tkC
  by_cases h : n ≤ q
  · rw [if_pos h]
    exact ⟨fun _ => h, fun _ => rfl⟩
  · rw [if_neg h]
    refine ⟨fun z => ?_, fun z => absurd z h⟩
    exfalso
    by_cases a : leB (b q) = true
    · rw [if_pos a] at z
      rcases wd_in b q (rn leB b n q) with ⟨_, c⟩ | ⟨c, _⟩ <;> omega
    · rw [if_neg a] at z
      by_cases c : dgB (b q) = true
      · rw [if_pos c] at z
        split at z <;> omega
      · rw [if_neg c] at z
        by_cases e : sgB (b q) = true
        · rw [if_pos e] at z
          unfold sgB at e
          rw [decide_eq_true_eq] at e
          omega
        · rw [if_neg e] at z
          omega
/-- the sorts of tokens -/
theorem tk_in (b : Nat → Int) (n q : Nat) : (0 ≤ tkC b n q ∧ tkC b n q ≤ 25) ∨ tkC b n q = 40 ∨ tkC b n q = 41 ∨ tkC b n q = 42 ∨ tkC b n q = 43 ∨ tkC b n q = 45 ∨ tkC b n q = 47 ∨ tkC b n q = 59 ∨ tkC b n q = 60 ∨ tkC b n q = 61 ∨ tkC b n q = 62 := by
  unfold tkC
  split
  · left
    decide
  · split
    · left
      rcases wd_in b q (rn leB b n q) with ⟨_, c⟩ | ⟨c, _⟩ <;> omega
    · split
      · left
        split <;> decide
      · split
        · next e =>
          unfold sgB at e
          rw [decide_eq_true_eq] at e
          omega
        · left
          decide
