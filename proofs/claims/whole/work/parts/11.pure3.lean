/-! pure words of the LEAST STORIES -/
abbrev psB (g2 g3 g4 th te : Int32) : Prop := (g2 &&& (th ^^^ (-1))) &&& (g4 ^^^ (-1)) = 0 ∧ te &&& ((g2 ||| g3) ^^^ (-1)) = 0
def prOf (g1 g2 g3 g4 th mi fo : Int32) (tm : Nat → Int32) (tn : Nat) : Int32 := (g1 + mi * popc (((g3 &&& (g2 ^^^ (-1))) &&& (th ^^^ (-1))) &&& (g4 ^^^ (-1)))) + fo * nI (hmn tm (g2 ||| g3) tn)
abbrev enK (z : Nat) (cc cost : Int32) : Prop := 0 < z ∧ cc.toInt < cost.toInt
abbrev enL (z : Nat) (cc cost : Int32) : Prop := 0 < z ∧ cost.toInt < cc.toInt
def enZ (z : Nat) (cc cost : Int32) : Nat := if enK z cc cost then z else if enL z cc cost then 1 else z + 1
def enR (rows : Nat → Int32) (z : Nat) (cc bits cost : Int32) : Nat → Int32 := if enK z cc cost then rows else if enL z cc cost then upd rows 0 bits else upd rows z bits
def enC (z : Nat) (cc cost : Int32) : Int32 := if enK z cc cost then cc else cost
theorem enZ_le (z : Nat) (cc cost : Int32) : enZ z cc cost ≤ z + 1 := by unfold enZ; split; omega; split <;> omega
def frF (ok : Nat → Bool) (co : Nat → Int32) (r0 : Nat → Int32) (c0 : Int32) : Nat → (Nat → Int32) × Nat × Int32
  | 0 => (r0, 0, c0)
  | k + 1 => if ok k then (enR (frF ok co r0 c0 k).1 (frF ok co r0 c0 k).2.1 (frF ok co r0 c0 k).2.2 (nI k) (co k), enZ (frF ok co r0 c0 k).2.1 (frF ok co r0 c0 k).2.2 (co k), enC (frF ok co r0 c0 k).2.1 (frF ok co r0 c0 k).2.2 (co k)) else frF ok co r0 c0 k
theorem frF_s (ok : Nat → Bool) (co : Nat → Int32) (r0 : Nat → Int32) (c0 : Int32) (k : Nat) : frF ok co r0 c0 (k + 1) = if ok k then (enR (frF ok co r0 c0 k).1 (frF ok co r0 c0 k).2.1 (frF ok co r0 c0 k).2.2 (nI k) (co k), enZ (frF ok co r0 c0 k).2.1 (frF ok co r0 c0 k).2.2 (co k), enC (frF ok co r0 c0 k).2.1 (frF ok co r0 c0 k).2.2 (co k)) else frF ok co r0 c0 k := rfl
theorem frF_y {ok : Nat → Bool} (co : Nat → Int32) (r0 : Nat → Int32) (c0 : Int32) {k : Nat} (h : ok k = true) : frF ok co r0 c0 (k + 1) = (enR (frF ok co r0 c0 k).1 (frF ok co r0 c0 k).2.1 (frF ok co r0 c0 k).2.2 (nI k) (co k), enZ (frF ok co r0 c0 k).2.1 (frF ok co r0 c0 k).2.2 (co k), enC (frF ok co r0 c0 k).2.1 (frF ok co r0 c0 k).2.2 (co k)) := by rw [frF_s, if_pos h]
theorem frF_n {ok : Nat → Bool} (co : Nat → Int32) (r0 : Nat → Int32) (c0 : Int32) {k : Nat} (h : ¬ ok k = true) : frF ok co r0 c0 (k + 1) = frF ok co r0 c0 k := by rw [frF_s, if_neg h]
theorem frF_le (ok : Nat → Bool) (co : Nat → Int32) (r0 : Nat → Int32) (c0 : Int32) : ∀ k, (frF ok co r0 c0 k).2.1 ≤ k
  | 0 => Nat.le_refl _
  | k + 1 => by
    have ih := frF_le ok co r0 c0 k
    by_cases h : ok k = true
    · rw [frF_y co r0 c0 h]
      exact Nat.le_trans (enZ_le _ _ _) (Nat.succ_le_succ ih)
    · rw [frF_n co r0 c0 h]; omega
def okS (kn : Int32) (da dm dw : Nat → Int32) (th te : Int32) : Nat → Bool := fun k => decide (nI k &&& (kn ^^^ (-1)) = 0 ∧ psB (tog da (nI k) 10) (tog dm (nI k) 10) (tog dw (nI k) 10) th te)
theorem okS_t {kn : Int32} {da dm dw : Nat → Int32} {th te : Int32} {k : Nat} (h1 : nI k &&& (kn ^^^ (-1)) = 0) (h2 : psB (tog da (nI k) 10) (tog dm (nI k) 10) (tog dw (nI k) 10) th te) : okS kn da dm dw th te k = true := decide_eq_true ⟨h1, h2⟩
theorem okS_f {kn : Int32} {da dm dw : Nat → Int32} {th te : Int32} {k : Nat} (h1 : ¬ (nI k &&& (kn ^^^ (-1)) = 0)) : ¬ okS kn da dm dw th te k = true := fun z => h1 (of_decide_eq_true z).1
theorem okS_g {kn : Int32} {da dm dw : Nat → Int32} {th te : Int32} {k : Nat} (h1 : ¬ psB (tog da (nI k) 10) (tog dm (nI k) 10) (tog dw (nI k) 10) th te) : ¬ okS kn da dm dw th te k = true := fun z => h1 (of_decide_eq_true z).2
def coS (df da dm dw : Nat → Int32) (th mi fo : Int32) (tm : Nat → Int32) (tn : Nat) : Nat → Int32 := fun k => prOf (feeS df (nI k) 10) (tog da (nI k) 10) (tog dm (nI k) 10) (tog dw (nI k) 10) th mi fo tm tn
def iaF (rows : Nat → Int32) : Nat → Int32
  | 0 => 1023
  | i + 1 => iaF rows i &&& rows i
def isF (rows : Nat → Int32) : Nat → Int32
  | 0 => 0
  | i + 1 => isF rows i ||| rows i
def lfS (da dm dw : Nat → Int32) (b : Int32) : Int32 := (tog da b 10 ||| tog dm b 10) &&& (tog dw b 10 ^^^ (-1))
def lvJ (f : Nat → Int32) (x : Int32) : Nat → Nat → Int32
  | 0 => f
  | j + 1 => upd (lvJ f x j) j (lvJ f x j j + ((x >>> (nI j &&& 31)) &&& 1))
def lvF (lv0 : Nat → Int32) (da dm dw rows : Nat → Int32) : Nat → Nat → Int32
  | 0 => fillF 0 lv0 16
  | i + 1 => lvJ (lvF lv0 da dm dw rows i) (lfS da dm dw (rows i)) 16
/-- how many of the first i STORIES leave a MARK -/
def lvC (da dm dw rows : Nat → Int32) (mq : Nat) : Nat → Int32
  | 0 => 0
  | i + 1 => lvC da dm dw rows mq i + ((lfS da dm dw (rows i) >>> (nI mq &&& 31)) &&& 1)
theorem lvJ_ok (f : Nat → Int32) (x : Int32) : ∀ (k j : Nat), lvJ f x k j = if j < k then f j + ((x >>> (nI j &&& 31)) &&& 1) else f j
  | 0, j => by rw [if_neg (by omega)]; rfl
  | k + 1, j => by
    show upd (lvJ f x k) k _ j = _
    unfold upd
    by_cases e : j = k
    · subst e
      rw [if_pos rfl, if_pos (by omega), lvJ_ok f x j j, if_neg (by omega)]
    · rw [if_neg e, lvJ_ok f x k j]
      by_cases z : j < k
      · rw [if_pos z, if_pos (by omega)]
      · rw [if_neg z, if_neg (by omega)]
theorem lvF_ok (lv0 da dm dw rows : Nat → Int32) : ∀ (i mq : Nat), mq < 16 → lvF lv0 da dm dw rows i mq = lvC da dm dw rows mq i
  | 0, mq, h => by
    show fillF _ _ _ _ = _
    unfold fillF
    rw [if_pos h]; rfl
  | i + 1, mq, h => by
    show lvJ _ _ _ _ = _
    rw [lvJ_ok, if_pos h, lvF_ok lv0 da dm dw rows i mq h]; rfl
/-- the LEAST STORIES are as the DEEDS, TRACES and prices have them -/
def LSok (rows lv : Nat → Int32) (z : Nat) (cc ia is : Int32) (kn : Int32) (df da dm dw : Nat → Int32) (th te mi fo : Int32) (tm : Nat → Int32) (tn : Nat) : Prop :=
  (∃ (r0 : Nat → Int32) (c0 : Int32), rows = (frF (okS kn da dm dw th te) (coS df da dm dw th mi fo tm tn) r0 c0 1024).1 ∧ z = (frF (okS kn da dm dw th te) (coS df da dm dw th mi fo tm tn) r0 c0 1024).2.1 ∧ cc = (frF (okS kn da dm dw th te) (coS df da dm dw th mi fo tm tn) r0 c0 1024).2.2) ∧
  ia = iaF rows z ∧ is = isF rows z ∧ ∀ mq, mq < 16 → lv mq = lvC da dm dw rows mq z
