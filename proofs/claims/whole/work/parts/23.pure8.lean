/-! pure words of the reference: LEAST STORIES -/
def coM (kn : Int32) (dp da dm dw tk tm : Nat → Int32) (tn : Nat) (mi fg : Int32) : Nat → Int32 := fun k => if nI k &&& (kn ^^^ (-1)) = 0 then csM dp da dm dw tk tm tn mi fg (nI k) else -1
theorem coM_y {kn : Int32} {dp da dm dw tk tm : Nat → Int32} {tn : Nat} {mi fg : Int32} {k : Nat} (h : nI k &&& (kn ^^^ (-1)) = 0) : coM kn dp da dm dw tk tm tn mi fg k = csM dp da dm dw tk tm tn mi fg (nI k) := if_pos h
theorem coM_n {kn : Int32} {dp da dm dw tk tm : Nat → Int32} {tn : Nat} {mi fg : Int32} {k : Nat} (h : ¬ (nI k &&& (kn ^^^ (-1)) = 0)) : coM kn dp da dm dw tk tm tn mi fg k = -1 := if_neg h
abbrev tsN (z : Nat) (lc c : Int32) : Prop := z = 0 ∨ c.toInt < lc.toInt
def tsF (co : Nat → Int32) (r0 : Nat → Int32) (c0 : Int32) : Nat → (Nat → Int32) × Nat × Int32
  | 0 => (r0, 0, c0)
  | k + 1 => if (co k).toInt < 0 then tsF co r0 c0 k else if tsN (tsF co r0 c0 k).2.1 (tsF co r0 c0 k).2.2 (co k) then (upd (tsF co r0 c0 k).1 0 (nI k), 1, co k) else if co k = (tsF co r0 c0 k).2.2 then (upd (tsF co r0 c0 k).1 (tsF co r0 c0 k).2.1 (nI k), (tsF co r0 c0 k).2.1 + 1, (tsF co r0 c0 k).2.2) else tsF co r0 c0 k
section TSF
variable {co : Nat → Int32} {r0 : Nat → Int32} {c0 : Int32} {k : Nat}
theorem tsF_u (h : (co k).toInt < 0) : tsF co r0 c0 (k + 1) = tsF co r0 c0 k := if_pos h
theorem tsF_n (h : ¬ (co k).toInt < 0) (h2 : tsN (tsF co r0 c0 k).2.1 (tsF co r0 c0 k).2.2 (co k)) : tsF co r0 c0 (k + 1) = (upd (tsF co r0 c0 k).1 0 (nI k), 1, co k) := (if_neg h).trans (if_pos h2)
theorem tsF_e (h : ¬ (co k).toInt < 0) (h2 : ¬ tsN (tsF co r0 c0 k).2.1 (tsF co r0 c0 k).2.2 (co k)) (h3 : co k = (tsF co r0 c0 k).2.2) : tsF co r0 c0 (k + 1) = (upd (tsF co r0 c0 k).1 (tsF co r0 c0 k).2.1 (nI k), (tsF co r0 c0 k).2.1 + 1, (tsF co r0 c0 k).2.2) := (if_neg h).trans ((if_neg h2).trans (if_pos h3))
theorem tsF_k (h : ¬ (co k).toInt < 0) (h2 : ¬ tsN (tsF co r0 c0 k).2.1 (tsF co r0 c0 k).2.2 (co k)) (h3 : ¬ co k = (tsF co r0 c0 k).2.2) : tsF co r0 c0 (k + 1) = tsF co r0 c0 k := (if_neg h).trans ((if_neg h2).trans (if_neg h3))
end TSF
theorem tsF_le (co : Nat → Int32) (r0 : Nat → Int32) (c0 : Int32) : ∀ k, (tsF co r0 c0 k).2.1 ≤ k
  | 0 => Nat.le_refl _
  | k + 1 => by
    have ih := tsF_le co r0 c0 k
    by_cases h : (co k).toInt < 0
    · rw [tsF_u h]; omega
    · by_cases h2 : tsN (tsF co r0 c0 k).2.1 (tsF co r0 c0 k).2.2 (co k)
      · rw [tsF_n h h2]; show 1 ≤ k + 1; omega
      · by_cases h3 : co k = (tsF co r0 c0 k).2.2
        · rw [tsF_e h h2 h3]; exact Nat.succ_le_succ ih
        · rw [tsF_k h h2 h3]; omega
def suC (rows : Nat → Int32) (i : Nat) : Nat → Int32
  | 0 => 0
  | k + 1 => suC rows i k + ((rows k >>> (nI i &&& 31)) &&& 1)
def smV (n : Int32) (z : Nat) : Int64 := if n = nI z then 1 else if n = 0 then -1 else 0
def lfM (da dm dw : Nat → Int32) (b : Int32) : Int32 := (togM da b 10 ||| togM dm b 10) &&& (togM dw b 10 ^^^ (-1))
def lvM (da dm dw rows : Nat → Int32) (i : Nat) : Nat → Int32
  | 0 => 0
  | k + 1 => lvM da dm dw rows i k + ((lfM da dm dw (rows k) >>> (nI i &&& 31)) &&& 1)
def ptM (n : Int32) (z : Nat) : Int32 := if (nI z - n).toInt ≤ n.toInt then nI z - n else n
def aqF (th : Int32) (pb : Nat → Int32) : Nat → Option Nat
  | 0 => none
  | k + 1 => if bit0 th k then (match aqF th pb k with
    | none => some k
    | some q => if (pb k).toInt ≤ (pb q).toInt then some q else some k) else aqF th pb k
section AQF
variable {th : Int32} {pb : Nat → Int32} {k q : Nat}
theorem aqF_x (h : ¬ bit0 th k) : aqF th pb (k + 1) = aqF th pb k := if_neg h
theorem aqF_0 (h : bit0 th k) (h2 : aqF th pb k = none) : aqF th pb (k + 1) = some k := (if_pos h).trans (by rw [h2])
theorem aqF_1 (h : bit0 th k) (h2 : aqF th pb k = some q) (h3 : (pb k).toInt ≤ (pb q).toInt) : aqF th pb (k + 1) = some q := (if_pos h).trans (by rw [h2]; exact if_pos h3)
theorem aqF_2 (h : bit0 th k) (h2 : aqF th pb k = some q) (h3 : ¬ (pb k).toInt ≤ (pb q).toInt) : aqF th pb (k + 1) = some k := (if_pos h).trans (by rw [h2]; exact if_neg h3)
end AQF
theorem aqF_lt {th : Int32} {pb : Nat → Int32} : ∀ {n k : Nat}, aqF th pb n = some k → k < n
  | 0, k, h => by cases h
  | n + 1, k, h => by
    by_cases h1 : bit0 th n
    · rcases e : aqF th pb n with _ | q
      · rw [aqF_0 h1 e] at h; cases h; omega
      · by_cases h2 : (pb n).toInt ≤ (pb q).toInt
        · rw [aqF_1 h1 e h2] at h; cases h; have := aqF_lt e; omega
        · rw [aqF_2 h1 e h2] at h; cases h; omega
    · rw [aqF_x h1] at h; have := aqF_lt h; omega
def aqR (z : Nat) (th : Int32) (pb : Nat → Int32) : Option Nat := if z = 0 then none else aqF th pb 16
def onK (o : Option Nat) : Nat := if o = none then 2 else 0
