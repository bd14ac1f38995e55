/-! pure words of the reference: times -/
def bdM (ms : Nat → Int64) (i : Nat) (v : Int64) : Nat → Int64 := vp_updL ms i (if (ms i).toInt ≤ v.toInt then ms i else v)
def inC : Nat → Int64 := fun q => if q / 13 = q % 13 then 0 else 1152921504606846976
def inF (m0 : Nat → Int64) (k : Nat) : Nat → Int64 := fun q => if q < k then inC q else m0 q
theorem inF_0 (m0 : Nat → Int64) : inF m0 0 = m0 := by funext q; unfold inF; rw [if_neg (by omega)]
theorem inF_s (m0 : Nat → Int64) (k : Nat) {v : Int64} (h : inC k = v) : vp_updL (inF m0 k) k v = inF m0 (k + 1) := by
  funext q
  unfold vp_updL inF
  rcases Nat.lt_trichotomy q k with z | z | z
  · rw [if_neg (by omega), if_pos z, if_pos (by omega)]
  · subst z; rw [if_pos rfl, if_pos (by omega), h]
  · rw [if_neg (by omega), if_neg (by omega), if_neg (by omega)]
def ngF (x : Int64) : Int64 := if x.toInt = 1152921504606846976 then 1152921504606846976 else -x
def trM (m0 : Nat → Int64) (e0 e1 : Nat → Int64) (st : Int32) : Nat → Nat → Int64
  | 0 => m0
  | t + 1 => if (st >>> (nI t &&& 31)) &&& 1 = 1 then bdM (bdM (trM m0 e0 e1 st t) ((13 * t) + 12) (ngF (e0 t))) ((13 * 12) + t) (e1 t) else trM m0 e0 e1 st t
theorem trM_y {m0 e0 e1 : Nat → Int64} {st : Int32} {t : Nat} (h : (st >>> (nI t &&& 31)) &&& 1 = 1) : trM m0 e0 e1 st (t + 1) = bdM (bdM (trM m0 e0 e1 st t) ((13 * t) + 12) (ngF (e0 t))) ((13 * 12) + t) (e1 t) := if_pos h
theorem trM_n {m0 e0 e1 : Nat → Int64} {st : Int32} {t : Nat} (h : ¬ (st >>> (nI t &&& 31)) &&& 1 = 1) : trM m0 e0 e1 st (t + 1) = trM m0 e0 e1 st t := if_neg h
def tsM (m0 : Nat → Int64) (an bn : Nat → Nat) (ta tb td : Nat → Int32) (st : Int32) : Nat → Nat → Int64
  | 0 => m0
  | i + 1 => if (st >>> (ta i &&& 31)) &&& 1 = 1 then (if (st >>> (tb i &&& 31)) &&& 1 = 1 then bdM (tsM m0 an bn ta tb td st i) ((13 * bn i) + an i) (-(td i)).toInt64 else tsM m0 an bn ta tb td st i) else tsM m0 an bn ta tb td st i
section TSM
variable {m0 : Nat → Int64} {an bn : Nat → Nat} {ta tb td : Nat → Int32} {st : Int32} {i : Nat}
theorem tsM_1 (h : ¬ (st >>> (ta i &&& 31)) &&& 1 = 1) : tsM m0 an bn ta tb td st (i + 1) = tsM m0 an bn ta tb td st i := if_neg h
theorem tsM_2 (h : (st >>> (ta i &&& 31)) &&& 1 = 1) (h2 : ¬ (st >>> (tb i &&& 31)) &&& 1 = 1) : tsM m0 an bn ta tb td st (i + 1) = tsM m0 an bn ta tb td st i := (if_pos h).trans (if_neg h2)
theorem tsM_3 (h : (st >>> (ta i &&& 31)) &&& 1 = 1) (h2 : (st >>> (tb i &&& 31)) &&& 1 = 1) : tsM m0 an bn ta tb td st (i + 1) = bdM (tsM m0 an bn ta tb td st i) ((13 * bn i) + an i) (-(td i)).toInt64 := (if_pos h).trans (if_pos h2)
end TSM
def fwS (ms : Nat → Int64) (m k : Nat) : Nat → Int64 :=
  if (ms (((k / 13) * 13) + m)).toInt = 1152921504606846976 then ms else if (ms ((13 * m) + (k % 13))).toInt = 1152921504606846976 then ms else if (ms k).toInt ≤ (ms (((k / 13) * 13) + m) + ms ((13 * m) + (k % 13))).toInt then ms else vp_updL ms k (ms (((k / 13) * 13) + m) + ms ((13 * m) + (k % 13)))
def fwK (ms : Nat → Int64) (m : Nat) : Nat → Nat → Int64
  | 0 => ms
  | k + 1 => fwS (fwK ms m k) m k
def fwV (ms : Nat → Int64) : Nat → Nat → Int64
  | 0 => ms
  | m + 1 => fwK (fwV ms m) m 169
theorem fwK_s (ms : Nat → Int64) (m k : Nat) : fwK ms m (k + 1) = fwS (fwK ms m k) m k := by rw [fwK]
theorem fwV_s (ms : Nat → Int64) (m : Nat) : fwV ms (m + 1) = fwK (fwV ms m) m 169 := by rw [fwV]
def allNN (ms : Nat → Int64) : Nat → Bool
  | 0 => true
  | k + 1 => allNN ms k && decide (0 ≤ (ms ((13 * k) + k)).toInt)
theorem allNN_y {ms : Nat → Int64} {k : Nat} (h : 0 ≤ (ms ((13 * k) + k)).toInt) : bI (decide (allNN ms k = true)) &&& 1 = bI (decide (allNN ms (k + 1) = true)) := by
  show _ = bI (decide ((allNN ms k && decide (0 ≤ (ms ((13 * k) + k)).toInt)) = true))
  rw [decide_eq_true h, Bool.and_true]
  cases allNN ms k <;> decide
theorem allNN_n {ms : Nat → Int64} {k : Nat} (h : ¬ 0 ≤ (ms ((13 * k) + k)).toInt) : bI (decide (allNN ms k = true)) &&& 0 = bI (decide (allNN ms (k + 1) = true)) := by
  show _ = bI (decide ((allNN ms k && decide (0 ≤ (ms ((13 * k) + k)).toInt)) = true))
  rw [decide_eq_false h, Bool.and_false]
  cases allNN ms k <;> decide
theorem allNN_iff {ms : Nat → Int64} : ∀ {n : Nat}, allNN ms n = true ↔ ∀ k, k < n → 0 ≤ (ms ((13 * k) + k)).toInt
  | 0 => ⟨fun _ k hk => absurd hk (by omega), fun _ => rfl⟩
  | n + 1 => by
    have ih := allNN_iff (ms := ms) (n := n)
    show (allNN ms n && decide (0 ≤ (ms ((13 * n) + n)).toInt)) = true ↔ _
    rw [Bool.and_eq_true, ih, decide_eq_true_iff]
    constructor
    · rintro ⟨h1, h2⟩ k hk
      rcases Nat.lt_or_ge k n with q | q
      · exact h1 k q
      · have e : k = n := by omega
        subst e; exact h2
    · intro h
      exact ⟨fun k hk => h k (by omega), h n (by omega)⟩
def mbA (fr lw hg : Nat → Int32) (cn jc : Nat → Nat) (tk tr : Nat → Int32) (tn : Nat) (an bn : Nat → Nat) (ta tb td : Nat → Int32) (im : Nat) (st : Int32) : Nat → Int64 :=
  tsM (trM inC (fun t => spX fr lw hg cn jc tk tr t 0) (fun t => spX fr lw hg cn jc tk tr t 1) st tn) an bn ta tb td st im
def fwE (fr lw hg : Nat → Int32) (cn jc : Nat → Nat) (tk tr : Nat → Int32) (tn : Nat) (an bn : Nat → Nat) (ta tb td : Nat → Int32) (im : Nat) (st : Int32) : Nat → Int64 := fwV (mbA fr lw hg cn jc tk tr tn an bn ta tb td im st) 13
def tmM (ms : Nat → Int64) (i : Nat) (b : Int32) : Int64 := if b = 0 then ngF (ms ((13 * i) + 12)) else ms (156 + i)
def apM (ms : Nat → Int64) (i j : Nat) (b : Int32) : Int64 := if b = 0 then ngF (ms ((13 * j) + i)) else ms ((13 * i) + j)
def gK (g : Bool) (x : Int64) : Nat := if g = true then fK x else 5
def qbF (gd : Int32 → Bool) (b0 : Int32) : Nat → Int32
  | 0 => b0
  | k + 1 => if (szK (qbF gd b0 k) 16).toInt ≤ (szK (nI k) 16).toInt then qbF gd b0 k else if gd (nI k) = true then qbF gd b0 k else nI k
section QBF
variable {gd : Int32 → Bool} {b0 : Int32} {k : Nat}
theorem qbF_1 (h : (szK (qbF gd b0 k) 16).toInt ≤ (szK (nI k) 16).toInt) : qbF gd b0 (k + 1) = qbF gd b0 k := if_pos h
theorem qbF_2 (h : ¬ (szK (qbF gd b0 k) 16).toInt ≤ (szK (nI k) 16).toInt) (h2 : gd (nI k) = true) : qbF gd b0 (k + 1) = qbF gd b0 k := (if_neg h).trans (if_pos h2)
theorem qbF_3 (h : ¬ (szK (qbF gd b0 k) 16).toInt ≤ (szK (nI k) 16).toInt) (h2 : ¬ gd (nI k) = true) : qbF gd b0 (k + 1) = nI k := (if_neg h).trans (if_neg h2)
end QBF
def powS : Nat → Nat
  | 0 => 1
  | n + 1 => 2 * powS n
theorem powS_le : ∀ n, n < 13 → powS n - 1 < 4096 := by decide
theorem allB_n : ∀ n, n < 13 → allB n = nI (powS n - 1) := by decide
def tlM (wt : Nat → Int32) (g : Nat → Int64) (wn i : Nat) : Prop := 2 * i + 1 < wn ∧ (wt (2 * i)).toInt64.toInt = (tmM g i 0).toInt ∧ (wt (2 * i + 1)).toInt64.toInt = (tmM g i 1).toInt
theorem gK_5 {g : Bool} (x : Int64) (h : ¬ g = true) : gK g x = 5 := if_neg h
theorem gK_2 {g : Bool} {x : Int64} (h : g = true) (h2 : x.toInt = 1152921504606846976) : gK g x = 2 := (if_pos h).trans (if_pos h2)
theorem gK_0 {g : Bool} {x : Int64} (h : g = true) (h2 : ¬ x.toInt = 1152921504606846976) : gK g x = 0 := (if_pos h).trans (if_neg h2)
theorem far_eq {x : Int64} (h : x.toInt = 1152921504606846976) : x = 1152921504606846976 := Int64.toInt_inj.mp (by rw [h]; rfl)
theorem tmM_1 {ms : Nat → Int64} {i : Nat} {b : Int32} (h : ¬ b = 0) : ms (156 + i) = tmM ms i b := (if_neg h).symm
theorem tmM_2 {ms : Nat → Int64} {i : Nat} {b : Int32} (h : b = 0) (h2 : (ms ((13 * i) + 12)).toInt = 1152921504606846976) : ms ((13 * i) + 12) = tmM ms i b := by
  unfold tmM ngF; rw [if_pos h, if_pos h2]; exact far_eq h2
theorem tmM_3 {ms : Nat → Int64} {i : Nat} {b : Int32} (h : b = 0) (h2 : ¬ (ms ((13 * i) + 12)).toInt = 1152921504606846976) : -(ms ((13 * i) + 12)) = tmM ms i b := by
  unfold tmM ngF; rw [if_pos h, if_neg h2]
/-- apart: the bound itself tells whether there is an end -/
def apX (ms : Nat → Int64) (i j : Nat) (b : Int32) : Int64 := if b = 0 then ms ((13 * j) + i) else ms ((13 * i) + j)
def apS (x : Int64) (b : Int32) : Int64 := if b = 0 then -x else x
theorem apX_0 {ms : Nat → Int64} {i j : Nat} {b : Int32} (h : b = 0) : ms ((13 * j) + i) = apX ms i j b := (if_pos h).symm
theorem apX_1 {ms : Nat → Int64} {i j : Nat} {b : Int32} (h : ¬ b = 0) : ms ((13 * i) + j) = apX ms i j b := (if_neg h).symm
theorem apS_0 {x : Int64} {b : Int32} (h : b = 0) : -x = apS x b := (if_pos h).symm
theorem apS_1 {x : Int64} {b : Int32} (h : ¬ b = 0) : x = apS x b := (if_neg h).symm
theorem quK_t {g : Bool} (h : g = true) : (if g = true then 2 else 0) = 2 := if_pos h
def qgK (g : Bool) : Nat := if g = true then 2 else 0
theorem qgK_2 {g : Bool} (h : g = true) : qgK g = 2 := if_pos h
theorem qgK_0 {g : Bool} (h : ¬ g = true) : qgK g = 0 := if_neg h
