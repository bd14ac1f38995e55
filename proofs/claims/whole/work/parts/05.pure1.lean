/-! pure words of the leaves: ties, traces, deeds, fills -/
def rmS (f : Nat → Int32) (j k : Nat) : Nat → Int32 := fun i => if j ≤ i ∧ i + 1 < k then f (i + 1) else f i
theorem rmS_0 (f : Nat → Int32) (j : Nat) : rmS f j (j + 1) = f := by
  funext i; unfold rmS; rw [if_neg (by omega)]
theorem rmS_s (f : Nat → Int32) {j k : Nat} (h : j + 1 ≤ k) : upd (rmS f j k) (k - 1) (rmS f j k k) = rmS f j (k + 1) := by
  funext i
  unfold upd rmS
  rcases Nat.lt_trichotomy i (k - 1) with q | q | q
  · rw [if_neg (by omega)]
    by_cases z : j ≤ i
    · rw [if_pos (by omega), if_pos (by omega)]
    · rw [if_neg (by omega), if_neg (by omega)]
  · subst q
    rw [if_pos rfl, if_neg (by omega), if_pos (by omega)]
    congr 1; omega
  · rw [if_neg (by omega), if_neg (by omega), if_neg (by omega)]
/-- how many of the first k are kept -/
def kpt (K : Nat → Bool) : Nat → Nat
  | 0 => 0
  | k + 1 => if K k then kpt K k + 1 else kpt K k
theorem kpt_s (K : Nat → Bool) (k : Nat) : kpt K (k + 1) = if K k then kpt K k + 1 else kpt K k := rfl
theorem kpt_le (K : Nat → Bool) : ∀ k, kpt K k ≤ k
  | 0 => Nat.le_refl _
  | k + 1 => by rw [kpt_s]; have := kpt_le K k; split <;> omega
def cmpF (f : Nat → Int32) (K : Nat → Bool) : Nat → Nat → Int32
  | 0 => f
  | k + 1 => if K k then upd (cmpF f K k) (kpt K k) (f k) else cmpF f K k
theorem cmpF_s (f : Nat → Int32) (K : Nat → Bool) (k : Nat) : cmpF f K (k + 1) = if K k then upd (cmpF f K k) (kpt K k) (f k) else cmpF f K k := rfl
theorem cmpF_ge (f : Nat → Int32) (K : Nat → Bool) : ∀ (k j : Nat), k ≤ j → cmpF f K k j = f j
  | 0, _, _ => rfl
  | k + 1, j, h => by
    rw [cmpF_s]
    split
    · unfold upd; have := kpt_le K k; rw [if_neg (by omega)]; exact cmpF_ge f K k j (by omega)
    · exact cmpF_ge f K k j (by omega)
def tieK (ta tb : Nat → Int32) (t : Int32) : Nat → Bool := fun i => decide (¬ ta i = t ∧ ¬ tb i = t)
theorem tieK_t {ta tb : Nat → Int32} {t : Int32} {i : Nat} (h1 : ¬ ta i = t) (h2 : ¬ tb i = t) : tieK ta tb t i = true := decide_eq_true ⟨h1, h2⟩
theorem tieK_a {ta tb : Nat → Int32} {t : Int32} {i : Nat} (h1 : ta i = t) : tieK ta tb t i = false := decide_eq_false (fun z => z.1 h1)
theorem tieK_b {ta tb : Nat → Int32} {t : Int32} {i : Nat} (h1 : tb i = t) : tieK ta tb t i = false := decide_eq_false (fun z => z.2 h1)
/-- MARKS of the first k TRACES; of those that aren't FORGED -/
def thOf (tm : Nat → Int32) : Nat → Int32
  | 0 => 0
  | k + 1 => thOf tm k ||| (1 <<< (tm k &&& 31))
def teOf (tk tm : Nat → Int32) : Nat → Int32
  | 0 => 0
  | k + 1 => if tk k = 2 then teOf tk tm k else teOf tk tm k ||| (1 <<< (tm k &&& 31))
theorem teOf_s (tk tm : Nat → Int32) (k : Nat) : teOf tk tm (k + 1) = if tk k = 2 then teOf tk tm k else teOf tk tm k ||| (1 <<< (tm k &&& 31)) := rfl
/-- how many of the first k TRACES have a MARK that isn't in the row -/
def hmn (tm : Nat → Int32) (row : Int32) : Nat → Nat
  | 0 => 0
  | k + 1 => if (row >>> (tm k &&& 31)) &&& 1 = 0 then hmn tm row k + 1 else hmn tm row k
theorem hmn_s (tm : Nat → Int32) (row : Int32) (k : Nat) : hmn tm row (k + 1) = if (row >>> (tm k &&& 31)) &&& 1 = 0 then hmn tm row k + 1 else hmn tm row k := rfl
theorem hmn_le (tm : Nat → Int32) (row : Int32) : ∀ k, hmn tm row k ≤ k
  | 0 => Nat.le_refl _
  | k + 1 => by rw [hmn_s]; have := hmn_le tm row k; split <;> omega
/-- PRICES, rows of MARKS of the DEEDS of a STORY among the first k -/
def feeS (df : Nat → Int32) (b : Int32) : Nat → Int32
  | 0 => 0
  | k + 1 => if (b >>> (nI k &&& 31)) &&& 1 = 0 then feeS df b k else feeS df b k + df k
theorem feeS_s (df : Nat → Int32) (b : Int32) (k : Nat) : feeS df b (k + 1) = if (b >>> (nI k &&& 31)) &&& 1 = 0 then feeS df b k else feeS df b k + df k := rfl
def tog (row : Nat → Int32) (b : Int32) : Nat → Int32
  | 0 => 0
  | k + 1 => if (b >>> (nI k &&& 31)) &&& 1 = 0 then tog row b k else tog row b k ||| row k
theorem tog_s (row : Nat → Int32) (b : Int32) (k : Nat) : tog row b (k + 1) = if (b >>> (nI k &&& 31)) &&& 1 = 0 then tog row b k else tog row b k ||| row k := rfl
def fillF {α : Type} (v : α) (f : Nat → α) (k : Nat) : Nat → α := fun j => if j < k then v else f j
theorem fillF_0 {α : Type} (v : α) (f : Nat → α) : fillF v f 0 = f := by funext j; unfold fillF; rw [if_neg (by omega)]
theorem fillI_s (v : Int32) (f : Nat → Int32) (k : Nat) : upd (fillF v f k) k v = fillF v f (k + 1) := by
  funext j
  unfold upd fillF
  rcases Nat.lt_trichotomy j k with q | q | q
  · rw [if_neg (by omega), if_pos q, if_pos (by omega)]
  · rw [if_pos q, if_pos (by omega)]
  · rw [if_neg (by omega), if_neg (by omega), if_neg (by omega)]
theorem fillL_s (v : Int64) (f : Nat → Int64) (k : Nat) : vp_updL (fillF v f k) k v = fillF v f (k + 1) := by
  funext j
  unfold vp_updL fillF
  rcases Nat.lt_trichotomy j k with q | q | q
  · rw [if_neg (by omega), if_pos q, if_pos (by omega)]
  · rw [if_pos q, if_pos (by omega)]
  · rw [if_neg (by omega), if_neg (by omega), if_neg (by omega)]
/-- Integer.bitCount, as its code has it -/
def ush (x y : Int32) : Int32 := (x.toUInt32 >>> (y.toUInt32 &&& Int32.toUInt32 31)).toInt32
def pop1 (x : Int32) : Int32 := x - (ush x 1 &&& 1431655765)
def pop2 (x : Int32) : Int32 := (x &&& 858993459) + (ush x 2 &&& 858993459)
def pop3 (x : Int32) : Int32 := (x + ush x 4) &&& 252645135
def pop4 (x : Int32) : Int32 := x + ush x 8
def pop5 (x : Int32) : Int32 := x + ush x 16
def popc (x : Int32) : Int32 := pop5 (pop4 (pop3 (pop2 (pop1 x)))) &&& 63
