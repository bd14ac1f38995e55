/-! pure words of the times of the desk -/
def gbT (m0 : Nat → Int64) (su sl : Nat → Int64) (xo : Int32) : Nat → Nat → Int64
  | 0 => m0
  | t + 1 => if nI t = xo then gbT m0 su sl xo t else amF (amF (gbT m0 su sl xo t) ((0 * 13) + (t + 1)) (su t)) (((t + 1) * 13) + 0) (-(sl t))
theorem gbT_y {m0 su sl : Nat → Int64} {xo : Int32} {t : Nat} (h : nI t = xo) : gbT m0 su sl xo (t + 1) = gbT m0 su sl xo t := if_pos h
theorem gbT_n {m0 su sl : Nat → Int64} {xo : Int32} {t : Nat} (h : ¬ nI t = xo) : gbT m0 su sl xo (t + 1) = amF (amF (gbT m0 su sl xo t) ((0 * 13) + (t + 1)) (su t)) (((t + 1) * 13) + 0) (-(sl t)) := if_neg h
def gbI (m0 : Nat → Int64) (an bn : Nat → Nat) (ta tb td : Nat → Int32) (xo : Int32) : Nat → Nat → Int64
  | 0 => m0
  | i + 1 => if ta i = xo then gbI m0 an bn ta tb td xo i else if tb i = xo then gbI m0 an bn ta tb td xo i else amF (gbI m0 an bn ta tb td xo i) (((bn i + 1) * 13) + (an i + 1)) (-(td i)).toInt64
theorem gbI_1 {m0 : Nat → Int64} {an bn : Nat → Nat} {ta tb td : Nat → Int32} {xo : Int32} {i : Nat} (h : ta i = xo) : gbI m0 an bn ta tb td xo (i + 1) = gbI m0 an bn ta tb td xo i := if_pos h
theorem gbI_2 {m0 : Nat → Int64} {an bn : Nat → Nat} {ta tb td : Nat → Int32} {xo : Int32} {i : Nat} (h : ¬ ta i = xo) (h2 : tb i = xo) : gbI m0 an bn ta tb td xo (i + 1) = gbI m0 an bn ta tb td xo i := (if_neg h).trans (if_pos h2)
theorem gbI_3 {m0 : Nat → Int64} {an bn : Nat → Nat} {ta tb td : Nat → Int32} {xo : Int32} {i : Nat} (h : ¬ ta i = xo) (h2 : ¬ tb i = xo) : gbI m0 an bn ta tb td xo (i + 1) = amF (gbI m0 an bn ta tb td xo i) (((bn i + 1) * 13) + (an i + 1)) (-(td i)).toInt64 := (if_neg h).trans (if_neg h2)
def gbA (ms : Nat → Int64) (cf cl ch : Nat → Nat → Int32) (cn jc : Nat → Nat) (tk tr : Nat → Int32) (tn : Nat) (an bn : Nat → Nat) (ta tb td : Nat → Int32) (im : Nat) (xo : Int32) : Nat → Int64 :=
  gbI (gbT (lzF ms (tn + 1)) (fun t => spC cf cl ch cn jc tk tr t 1) (fun t => spC cf cl ch cn jc tk tr t 0) xo tn) an bn ta tb td xo im
def tgP (m : Nat → Int64) (N : Nat) (rv : Int32) (g : Nat → Int64) : Prop := (rv = 1 ∧ g = tiF m N N ∧ tOK m N N) ∨ (rv = 0 ∧ ∃ v, v < N ∧ tOK m N v ∧ anyNeg (tiF m N (v + 1)) N = true)
theorem tgP_nar {m : Nat → Int64} {N : Nat} {rv : Int32} {g : Nat → Int64} (h : tgP m N rv g) : narrow .boolean (.int rv) = .int rv := by
  rcases h with h | h <;> rw [h.1] <;> rfl
def tmE (ms : Nat → Int64) (i : Nat) (b : Int32) : Int64 := if b = 0 then -(ms (((i + 1) * 13) + 0)) else ms ((0 * 13) + (i + 1))
def apE (ms : Nat → Int64) (i j : Nat) (b : Int32) : Int64 := if b = 0 then -(ms (((j + 1) * 13) + (i + 1))) else ms (((i + 1) * 13) + (j + 1))
def eK (x : Int64) : Nat := if isE x then 0 else 2
def tlR (wt : Nat → Int32) (g : Nat → Int64) (wn i : Nat) : Prop := 2 * i + 1 < wn ∧ isE (tmE g i 0) ∧ isE (tmE g i 1) ∧ (wt (2 * i)).toInt64.toInt = (tmE g i 0).toInt ∧ (wt (2 * i + 1)).toInt64.toInt = (tmE g i 1).toInt
theorem all_s {P : Nat → Prop} {k : Nat} (h : ∀ j, j < k → P j) (hk : P k) : ∀ j, j < k + 1 → P j := by
  intro j hj
  rcases Nat.lt_or_ge j k with q | q
  · exact h j q
  · have e : j = k := by omega
    subst e; exact hk
