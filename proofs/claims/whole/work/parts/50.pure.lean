/-! pure pictures: what is asked of a head, how far, memories, odds -/
theorem lem_w32k {k : Nat} (h : k < 1000000) : w32 ((k : Int) + 1) = ((k + 1 : Nat) : Int) := by
  rw [w32_s (by omega)]
  omega
/-- over k, k + 1 .. k + n - 1 -/
def fo {α : Type} (f : Nat → α → α) : Nat → Nat → α → α
  | _, 0, a => a
  | k, n + 1, a => fo f (k + 1) n (f k a)
theorem fo_0 {α : Type} (f : Nat → α → α) (k : Nat) (a : α) : fo f k 0 a = a := rfl
theorem fo_s {α : Type} (f : Nat → α → α) (k n : Nat) (a : α) : fo f k (n + 1) a = fo f (k + 1) n (f k a) := rfl
theorem fo_e {α : Type} (f : Nat → α → α) : ∀ (n k : Nat) (a : α), fo f k (n + 1) a = f (k + n) (fo f k n a)
  | 0, _, _ => rfl
  | n + 1, k, a => by
    rw [fo_s, fo_e f n (k + 1) (f k a), fo_s]
    congr 1
    omega
theorem fo_add {α : Type} (f : Nat → α → α) : ∀ (n m k : Nat) (a : α), fo f k (n + m) a = fo f (k + n) m (fo f k n a)
  | 0, m, k, a => by rw [Nat.zero_add]; rfl
  | n + 1, m, k, a => by
    rw [show n + 1 + m = (n + m) + 1 by omega, fo_s, fo_add f n m (k + 1), fo_s, show k + 1 + n = k + (n + 1) by omega]
theorem fo_cg {α : Type} {f g : Nat → α → α} : ∀ (n k : Nat) (a : α), (∀ j b, k ≤ j → j < k + n → f j b = g j b) → fo f k n a = fo g k n a
  | 0, _, _, _ => rfl
  | n + 1, k, a, h => by
    rw [fo_s, fo_s, h k a (Nat.le_refl _) (by omega)]
    exact fo_cg n (k + 1) _ (fun j b h1 h2 => h j b (by omega) (by omega))
theorem fo_id {α : Type} {f : Nat → α → α} : ∀ (n k : Nat) (a : α), (∀ j b, k ≤ j → j < k + n → f j b = b) → fo f k n a = a
  | 0, _, _, _ => rfl
  | n + 1, k, a, h => by
    rw [fo_s, h k a (Nat.le_refl _) (by omega)]
    exact fo_id n (k + 1) _ (fun j b h1 h2 => h j b (by omega) (by omega))
/-- what holds at each step -/
theorem fo_in {α : Type} {f : Nat → α → α} (Q : α → Prop) : ∀ (n k : Nat) (a : α), Q a → (∀ j b, k ≤ j → j < k + n → Q b → Q (f j b)) → Q (fo f k n a)
  | 0, _, _, h, _ => h
  | n + 1, k, a, h, s => fo_in Q n (k + 1) _ (s k a (Nat.le_refl _) (by omega) h) (fun j b h1 h2 => s j b (by omega) (by omega))
abbrev H3 : Type := Nat → Nat → Nat → Int
/-- sixteen numbers, and nothing behind them -/
def c16 (f : Nat → Int) : Nat → Int := fun j => if j < 16 then f j else 0
theorem c16_lt {f : Nat → Int} {j : Nat} (h : j < 16) : c16 f j = f j := if_pos h
theorem c16_ge {f : Nat → Int} {j : Nat} (h : 16 ≤ j) : c16 f j = 0 := if_neg (by omega)
theorem c16_c (f : Nat → Int) : c16 (c16 f) = c16 f := by
  funext j
  unfold c16
  split <;> rfl
theorem c16_cg {f g : Nat → Int} (h : ∀ j, j < 16 → f j = g j) : c16 f = c16 g := by
  funext j
  unfold c16
  split
  · next hj => exact h j hj
  · rfl
theorem c16_of {f g : Nat → Int} (h : c16 f = c16 g) {j : Nat} (hj : j < 16) : f j = g j := by
  have := congrFun h j
  rwa [c16_lt hj, c16_lt hj] at this
/-- all of sixteen numbers in 0 .. 31 -/
def R31 (f : Nat → Int) : Prop := ∀ j, j < 16 → 0 ≤ f j ∧ f j ≤ 31
theorem R31.c {f : Nat → Int} (h : R31 (c16 f)) : R31 f := fun j hj => by
  have := h j hj
  rwa [c16_lt hj] at this
theorem R31.d {f : Nat → Int} (h : R31 f) : R31 (c16 f) := fun j hj => by
  rw [c16_lt hj]
  exact h j hj
/-- writes of a row of numbers -/
def sr (I : H3) (r i n : Nat) (f : Nat → Int) : H3 := fun a b c => if a = r ∧ b = i ∧ c < n then f c else I a b c
theorem sr_r {I : H3} {r i n a : Nat} {f : Nat → Int} (h : a ≠ r) : sr I r i n f a = I a := by
  funext b c
  exact if_neg (fun k => h k.1)
theorem sr_i {I : H3} {r i n b : Nat} {f : Nat → Int} (h : b ≠ i) : sr I r i n f r b = I r b := by
  funext c
  exact if_neg (fun k => h k.2.1)
theorem sr_lt {I : H3} {r i n c : Nat} {f : Nat → Int} (h : c < n) : sr I r i n f r i c = f c := if_pos ⟨rfl, rfl, h⟩
theorem sr_ge {I : H3} {r i n c : Nat} {f : Nat → Int} (h : n ≤ c) : sr I r i n f r i c = I r i c := if_neg (fun k => by omega)
theorem sr_c16 {I : H3} {r i : Nat} {f : Nat → Int} : c16 (sr I r i 16 f r i) = c16 f := c16_cg (fun _ h => sr_lt h)
theorem sr_0 {I : H3} {r i : Nat} {f : Nat → Int} : sr I r i 0 f = I := by
  funext a b c
  exact if_neg (fun k => by omega)
theorem sr_s {I : H3} {r i n : Nat} {f : Nat → Int} : up3 (sr I r i n f) r i n (f n) = sr I r i (n + 1) f := by
  funext a b c
  unfold up3 sr
  by_cases h : a = r ∧ b = i
  · by_cases h1 : c = n
    · rw [if_pos ⟨h.1, h.2, h1⟩, if_pos ⟨h.1, h.2, by omega⟩, h1]
    · rw [if_neg (fun k => h1 k.2.2)]
      by_cases h2 : c < n
      · rw [if_pos ⟨h.1, h.2, h2⟩, if_pos ⟨h.1, h.2, by omega⟩]
      · rw [if_neg (fun k => h2 k.2.2), if_neg (fun k => by omega)]
  · rw [if_neg (fun k => h ⟨k.1, k.2.1⟩), if_neg (fun k => h ⟨k.1, k.2.1⟩), if_neg (fun k => h ⟨k.1, k.2.1⟩)]
theorem up_r {I : H3} {r i s a : Nat} {x : Int} (h : a ≠ r) : up3 I r i s x a = I a := by
  funext b c
  exact if_neg (fun k => h k.1)
theorem up_i {I : H3} {r i s b : Nat} {x : Int} (h : b ≠ i) : up3 I r i s x r b = I r b := by
  funext c
  exact if_neg (fun k => h k.2.1)
theorem up_s {I : H3} {r i s c : Nat} {x : Int} (h : c ≠ s) : up3 I r i s x r i c = I r i c := if_neg (fun k => h k.2.2)
theorem up_e {I : H3} {r i s : Nat} {x : Int} : up3 I r i s x r i s = x := if_pos ⟨rfl, rfl, rfl⟩
/-- nothing changed but where S says so -/
def Fr (S : Nat → Nat → Nat → Bool) (I J : H3) : Prop := ∀ r i c, S r i c = false → J r i c = I r i c
theorem Fr.rfl' {S : Nat → Nat → Nat → Bool} {I : H3} : Fr S I I := fun _ _ _ _ => rfl
theorem Fr.rg {S : Nat → Nat → Nat → Bool} {I J : H3} (k : Fr S I J) {r : Nat} (h : ∀ i c, S r i c = false) : J r = I r := funext fun i => funext fun c => k r i c (h i c)
theorem Fr.ri {S : Nat → Nat → Nat → Bool} {I J : H3} (k : Fr S I J) {r i : Nat} (h : ∀ c, S r i c = false) : J r i = I r i := funext fun c => k r i c (h c)
theorem Fr.tr {S : Nat → Nat → Nat → Bool} {I J K : H3} (a : Fr S I J) (b : Fr S J K) : Fr S I K := fun r i c h => (b r i c h).trans (a r i c h)
theorem Fr.mo {S T : Nat → Nat → Nat → Bool} {I J : H3} (a : Fr S I J) (h : ∀ r i c, T r i c = false → S r i c = false) : Fr T I J := fun r i c k => a r i c (h r i c k)
theorem Fr.up {S : Nat → Nat → Nat → Bool} {I J : H3} {r i s : Nat} {x : Int} (a : Fr S I J) (h : S r i s = true) : Fr S I (up3 J r i s x) := fun r' i' c k => by
  rw [show up3 J r i s x r' i' c = J r' i' c from if_neg (fun e => by rw [e.1, e.2.1, e.2.2, h] at k; cases k)]
  exact a r' i' c k
theorem Fr.wr {S : Nat → Nat → Nat → Bool} {I J : H3} {r i n : Nat} {f : Nat → Int} (a : Fr S I J) (h : ∀ c, c < n → S r i c = true) : Fr S I (sr J r i n f) := fun r' i' c k => by
  rw [show sr J r i n f r' i' c = J r' i' c from if_neg (fun e => by rw [e.1, e.2.1, h c e.2.2] at k; cases k)]
  exact a r' i' c k
/-- the least of the greatest -/
theorem mmx {v lo hi : Int} (h : lo ≤ hi) : (if lo < (if v < hi then v else hi) then (if v < hi then v else hi) else lo) = cutP v lo hi := by
  unfold cutP
  by_cases h1 : v < lo
  · rw [if_pos h1, if_pos (show v < hi by omega), if_neg (by omega)]
  · rw [if_neg h1]
    by_cases h2 : hi < v
    · rw [if_pos h2, if_neg (show ¬ v < hi by omega)]
      split <;> omega
    · rw [if_neg h2]
      by_cases h3 : v < hi
      · rw [if_pos h3]
        split <;> omega
      · rw [if_neg h3]
        split <;> omega
/-! heads -/
/-- what a head may ask, by its number -/
def gvB (secs light fear days told : Int) : Nat → Int := fun j => if j = 3 then secs else if j = 4 then light else if j = 5 then fear else if j = 6 then days else if j = 9 then told else 0
def gTh (g : Nat → Int) (p w k : Int) : Nat → Int := fun j => if j = 0 then p else if j = 1 then w else if j = 2 then k else g j
def gFi (g : Nat → Int) (gap first : Int) : Nat → Int := fun j => if j = 7 then gap else if j = 8 then first else g j
/-- one step of a line, on a pile -/
def stp (g : Nat → Int) (s : Int × Int) (st : List Int) : List Int :=
  if s.1 = 0 then s.2 :: st
  else if s.1 = 1 then g s.2.toNat :: st
  else if s.1 = 5 then (match st with | a :: r => vIdiv a s.2 :: r | [] => [])
  else match st with
    | b :: a :: r => (if s.1 = 4 then w32 (a * b) else if s.1 = 2 then w32 (a + b) else w32 (a - b)) :: r
    | r => r
def evS (g : Nat → Int) : List (Int × Int) → List Int → List Int
  | [], st => st
  | s :: r, st => evS g r (stp g s st)
/-- a line that leaves one value, from n on the pile -/
def okL : List (Int × Int) → Nat → Bool
  | [], n => n == 1
  | (s, v) :: r, n =>
    if s = 0 then decide (n < 24) && okL r (n + 1)
    else if s = 1 then decide (n < 24) && decide (0 ≤ v ∧ v < 10) && okL r (n + 1)
    else if s = 5 then decide (1 ≤ n) && decide (0 < v) && okL r n
    else decide (s = 2 ∨ s = 3 ∨ s = 4) && decide (2 ≤ n) && okL r (n - 1)
abbrev HH : Type := Nat → List (Int × Int)
def ans (H : HH) (w : Nat) (g : Nat → Int) : Int :=
  cutP (if H w = [] then (if w = 0 then w32 (g 0 + w32 (2 * g 1)) else rom 2 w) else (evS g (H w) []).headD 0) (rom 0 w) (rom 1 w)
/-- a head that can be asked -/
def okH (H : HH) : Prop := ∀ w, w < 8 → H w = [] ∨ okL (H w) 0 = true
theorem rom_le {w : Nat} (h : w < 8) : rom 0 w ≤ rom 1 w ∧ 0 ≤ rom 0 w ∧ rom 1 w ≤ 9999 := by
  have : ∀ w, w < 8 → rom 0 w ≤ rom 1 w ∧ 0 ≤ rom 0 w ∧ rom 1 w ≤ 9999 := by decide +kernel
  exact this w h
theorem ans_in (H : HH) {w : Nat} (g : Nat → Int) (h : w < 8) : rom 0 w ≤ ans H w g ∧ ans H w g ≤ rom 1 w := cutP_in (rom_le h).1
/-! how far, memories -/
def difP (f g : Nat → Int) : Nat → Nat → Int → Int := fo (fun j s => w32 (s + aptP (f j) (g j)))
/-- how far a face is: the head's answers A, what it may ask G, the own kin k, the memory m -/
def farP (A : Nat → (Nat → Int) → Int) (G : Nat → Int) (k : Int) (m f : Nat → Int) (kf : Int) : Int :=
  A 0 (gTh G (difP f m 0 12 0) (difP f m 12 4 0) (if kf = k then 1 else 0))
/-- the least distance of the other places (or -1) -/
def gapS (fa : Int → Int) (rv : Int → Int) (p : Int) (k : Nat) (a : Int) : Int :=
  if (k : Int) = p then a else if rv k = -1 then a else if a = -1 then fa (rv k) else if fa (rv k) < a then fa (rv k) else a
def gapP (fa : Int → Int) (rv : Int → Int) (p first : Int) : Int :=
  let a := fo (gapS fa rv p) 0 9 (-1)
  if a = -1 then 0 else if 0 < w32 (a - first) then w32 (a - first) else 0
/-- a memory that is pulled -/
def pulP (by' : Int) (o m : Nat → Int) : Nat → Int := fun j => if j < 16 then w32 (m j + vIdiv (w32 (by' * w32 (o j - m j))) 100) else 0
def wtP (fa : Int → Int) (rv : Int → Int) (limit led push : Int) (k : Nat) : Int :=
  if rv k = -1 then 0 else if (k : Int) = led then w32 ((if 0 < w32 (limit - fa (rv k)) then w32 (limit - fa (rv k)) else 0) + push) else (if 0 < w32 (limit - fa (rv k)) then w32 (limit - fa (rv k)) else 0)
def allP (w : Nat → Int) (nob : Int) : Int := fo (fun k a => w32 (a + w k)) 0 9 nob
def od1 (each : Bool) (all nob l w : Int) : Int := if each then l * w / (w + nob) else 1000000 * w / all
/-- what is left of a million before place k -/
def lftP (each : Bool) (all nob : Int) (w : Nat → Int) : Nat → Int
  | 0 => 1000000
  | k + 1 => lftP each all nob w k - od1 each all nob (lftP each all nob w k) (w k)
def odP (each : Bool) (all nob : Int) (w : Nat → Int) (k : Nat) : Int := if k < 9 then od1 each all nob (lftP each all nob w k) (w k) else lftP each all nob w 9
