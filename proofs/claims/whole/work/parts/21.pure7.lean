/-! pure words of the reference: MARKS and STORIES -/
def szK (x : Int32) : Nat → Int32
  | 0 => 0
  | k + 1 => szK x k + ((x >>> (nI k &&& 31)) &&& 1)
def knF (kb : Nat → Int32) : Nat → Int32
  | 0 => 0
  | k + 1 => if kb k = 0 then knF kb k ||| 0 else knF kb k ||| (1 <<< (nI k &&& 31))
theorem knF_y {kb : Nat → Int32} {k : Nat} (h : kb k = 0) : knF kb (k + 1) = knF kb k ||| 0 := if_pos h
theorem knF_n {kb : Nat → Int32} {k : Nat} (h : ¬ kb k = 0) : knF kb (k + 1) = knF kb k ||| (1 <<< (nI k &&& 31)) := if_neg h
def thM (tk tm : Nat → Int32) (b : Int32) : Nat → Int32
  | 0 => 0
  | k + 1 => if ¬ b = 0 ∧ tk k = 2 then thM tk tm b k ||| 0 else thM tk tm b k ||| (1 <<< (tm k &&& 31))
theorem thM_y {tk tm : Nat → Int32} {b : Int32} {k : Nat} (h : ¬ b = 0) (h2 : tk k = 2) : thM tk tm b (k + 1) = thM tk tm b k ||| 0 := if_pos ⟨h, h2⟩
theorem thM_n {tk tm : Nat → Int32} {b : Int32} {k : Nat} (h : ¬ (¬ b = 0 ∧ tk k = 2)) : thM tk tm b (k + 1) = thM tk tm b k ||| (1 <<< (tm k &&& 31)) := if_neg h
def togM (row : Nat → Int32) (b : Int32) : Nat → Int32
  | 0 => 0
  | k + 1 => if (b >>> (nI k &&& 31)) &&& 1 = 1 then togM row b k ||| row k else togM row b k ||| 0
theorem togM_y {row : Nat → Int32} {b : Int32} {k : Nat} (h : (b >>> (nI k &&& 31)) &&& 1 = 1) : togM row b (k + 1) = togM row b k ||| row k := if_pos h
theorem togM_n {row : Nat → Int32} {b : Int32} {k : Nat} (h : ¬ (b >>> (nI k &&& 31)) &&& 1 = 1) : togM row b (k + 1) = togM row b k ||| 0 := if_neg h
def prM (dp : Nat → Int32) (b s0 : Int32) : Nat → Int32
  | 0 => s0
  | k + 1 => if (b >>> (nI k &&& 31)) &&& 1 = 1 then prM dp b s0 k + dp k else prM dp b s0 k + 0
theorem prM_y {dp : Nat → Int32} {b s0 : Int32} {k : Nat} (h : (b >>> (nI k &&& 31)) &&& 1 = 1) : prM dp b s0 (k + 1) = prM dp b s0 k + dp k := if_pos h
theorem prM_n {dp : Nat → Int32} {b s0 : Int32} {k : Nat} (h : ¬ (b >>> (nI k &&& 31)) &&& 1 = 1) : prM dp b s0 (k + 1) = prM dp b s0 k + 0 := if_neg h
def fgM (tm : Nat → Int32) (lf fg s0 : Int32) : Nat → Int32
  | 0 => s0
  | k + 1 => if (lf >>> (tm k &&& 31)) &&& 1 = 0 then fgM tm lf fg s0 k + fg else fgM tm lf fg s0 k + 0
theorem fgM_y {tm : Nat → Int32} {lf fg s0 : Int32} {k : Nat} (h : (lf >>> (tm k &&& 31)) &&& 1 = 0) : fgM tm lf fg s0 (k + 1) = fgM tm lf fg s0 k + fg := if_pos h
theorem fgM_n {tm : Nat → Int32} {lf fg s0 : Int32} {k : Nat} (h : ¬ (lf >>> (tm k &&& 31)) &&& 1 = 0) : fgM tm lf fg s0 (k + 1) = fgM tm lf fg s0 k + 0 := if_neg h
def csS (dp da dm dw tm : Nat → Int32) (tn : Nat) (th mi fg b : Int32) : Int32 :=
  fgM tm (togM da b 10 ||| togM dm b 10) fg (prM dp b (mi * szK (((togM dm b 10 &&& (togM da b 10 ^^^ (-1))) &&& (th ^^^ (-1))) &&& (togM dw b 10 ^^^ (-1))) 16) 10) tn
def csM (dp da dm dw tk tm : Nat → Int32) (tn : Nat) (mi fg b : Int32) : Int32 :=
  if ¬ ((togM da b 10 &&& (thM tk tm 0 tn ^^^ (-1))) &&& (togM dw b 10 ^^^ (-1)) = 0) then -1 else if thM tk tm 1 tn &&& ((togM da b 10 ||| togM dm b 10) ^^^ (-1)) = 0 then csS dp da dm dw tm tn (thM tk tm 0 tn) mi fg b else -1
theorem csM_1 {dp da dm dw tk tm : Nat → Int32} {tn : Nat} {mi fg b : Int32} (h : ¬ ((togM da b 10 &&& (thM tk tm 0 tn ^^^ (-1))) &&& (togM dw b 10 ^^^ (-1)) = 0)) : csM dp da dm dw tk tm tn mi fg b = -1 := if_pos h
theorem csM_2 {dp da dm dw tk tm : Nat → Int32} {tn : Nat} {mi fg b : Int32} (h : (togM da b 10 &&& (thM tk tm 0 tn ^^^ (-1))) &&& (togM dw b 10 ^^^ (-1)) = 0) (h2 : ¬ (thM tk tm 1 tn &&& ((togM da b 10 ||| togM dm b 10) ^^^ (-1)) = 0)) : csM dp da dm dw tk tm tn mi fg b = -1 := (if_neg (fun z => z h)).trans (if_neg h2)
theorem csM_3 {dp da dm dw tk tm : Nat → Int32} {tn : Nat} {mi fg b : Int32} (h : (togM da b 10 &&& (thM tk tm 0 tn ^^^ (-1))) &&& (togM dw b 10 ^^^ (-1)) = 0) (h2 : thM tk tm 1 tn &&& ((togM da b 10 ||| togM dm b 10) ^^^ (-1)) = 0) : csM dp da dm dw tk tm tn mi fg b = csS dp da dm dw tm tn (thM tk tm 0 tn) mi fg b := (if_neg (fun z => z h)).trans (if_pos h2)
def cmK (x kn cs : Int32) : Nat := if x.toInt < 0 then 1 else if ¬ (x &&& (kn ^^^ (-1)) = 0) then 1 else if cs.toInt < 0 then 5 else 0
