/-! pure words of the desk: findings, codes of the acts -/
theorem aKld {p : Program} {l : Launch} {e : Env} {R : Room} {s : State} {m : MethodId} {args : Array Value} {below : List Frame} {meth : Method} {c : Code} {H : Heap} {locs : List Loc} {cells slots : Nat} {Q : State → Prop} {cc : ByteArray} {pc : Nat} {ls : Array Slot} {rest : List Value} {D : va_G} {cl : List vw_C} {a : Nat} {tys : List (ClassId × FieldType)} {ws : va_W} (hexec : p.tables.exec = Jvm.exec) (hb : c.code = cc) (hK : va_K D cl tys s) (hP : va_P D cl ws H) (q0 t0 : Nat) {cA : ClassId} {C : String} {n : Nat} {f : Nat → Option Nat} (ha : ws[q0]? = some (a, .inl (cA, n, .inr (.inr (.inr (.inr f)))))) (ht : tys[t0]? = some (cA, .object C)) {i : Int32} {k a2 : Nat} (hi : i = nI k) (hk : k < n) (hn : n < 2 ^ 31) (hq : f k = some a2) (hdg : decode cc pc = .ok (.aaload, 1))
    (kk : W p l e R s m args below meth c H locs cells slots Q (F0 m (pc + 1) ls (.ref a2 :: rest))) : W p l e R s m args below meth c H locs cells slots Q (F0 m pc ls (.int i :: .ref a :: rest)) := by
  subst hi
  refine va_aldq hexec hb hK hP q0 t0 ha ht (vp_in_nI hk hn) hdg ?_
  rw [nI_clamp (by omega), hq]
  exact kk
def ckA (x0 x1 x2 x3 : Nat) : Nat → Option Nat := fun i => if i = 0 then some x0 else if i = 1 then some x1 else if i = 2 then some x2 else if i = 3 then some x3 else none
def lowF (k : Nat) : Int64 := (-1000000000000) - (nI k).toInt64
def fnd (fo : Nat → Int32) (k : Nat) : Nat → Int32 := upd fo k (fo k + 1)
/-- an act's answer and its finding, by its code (0: none) -/
def rz (k : Nat) (v : Int64) : Int64 := if k = 0 then v else lowF k
def fz (fo : Nat → Int32) (k : Nat) : Nat → Int32 := if k = 0 then fo else fnd fo k
abbrev isE (x : Int64) : Prop := (-1152921504606846976) < x.toInt ∧ x.toInt < 1152921504606846976
abbrev okRd (x : Int32) : Prop := 0 ≤ x.toInt ∧ x.toInt ≤ 1000000
abbrev okSh (x : Int32) : Prop := (-100000) ≤ x.toInt ∧ x.toInt ≤ 100000
abbrev okPr (x : Int32) : Prop := 0 ≤ x.toInt ∧ x.toInt ≤ 1000
abbrev okMk (x : Int32) : Prop := 0 ≤ x.toInt ∧ x.toInt ≤ 65535
def pcK (f : Nat → Int32) (n : Nat) (x y w : Int32) : Nat := if ¬ (okRd x ∧ okSh y ∧ okSh w ∧ y.toInt ≤ w.toInt) then 1 else if ¬ (n = 0 ∨ (f (n - 1)).toInt < x.toInt) then 1 else if 5 ≤ n then 4 else 0
def ofK (f : Nat → Int32) (n : Nat) (x : Int32) : Nat := if ¬ okRd x then 1 else if plOf f x n = none then 2 else 0
def ofV (f lo hi : Nat → Int32) (n : Nat) (x b : Int32) : Int32 := match plOf f x n with
  | none => 0
  | some k => if b = 0 then lo k else hi k
def trK (n : Nat) (x1 x2 x3 x4 : Int32) : Nat := if ¬ ((0 ≤ x1.toInt ∧ x1.toInt ≤ 2) ∧ (0 ≤ x2.toInt ∧ x2.toInt ≤ 3) ∧ okRd x3 ∧ (0 ≤ x4.toInt ∧ x4.toInt ≤ 15)) then 1 else if 12 ≤ n then 4 else 0
def abV (k c r d : Int32) (x : Int32) : Int32 := if x = 0 then k else if x = 1 then c else if x = 2 then r else d
def asK (kd x : Int32) : Nat := if ¬ (0 ≤ x.toInt ∧ x.toInt ≤ 2) then 1 else if x = 0 then 0 else if x = kd then 0 else 3
def tiK (m i j : Nat) (d : Int32) : Nat := if i = j then 1 else if ¬ okSh d then 1 else if 24 ≤ m then 4 else 0
theorem oI_m1 {o : Option Nat} (h : oI o = -1) (hb : ∀ k, o = some k → k < 2 ^ 31) : o = none := by
  cases o with
  | none => rfl
  | some k =>
    have h : nI k = -1 := h
    have := nI_toInt (hb k rfl)
    rw [h] at this
    exact absurd this (by have : (-1 : Int32).toInt = -1 := by decide
                          omega)
theorem oI_some {o : Option Nat} (h : ¬ oI o = -1) : ∃ k, o = some k := by
  cases o with
  | none => exact absurd rfl h
  | some k => exact ⟨k, rfl⟩
/-- the end of a SPAN: clock jc i of the TRACE -/
def spV (cf cl ch : Nat → Nat → Int32) (cn : Nat → Nat) (jc : Nat → Nat) (tk tr : Nat → Int32) (i : Nat) (b : Int32) : Option Int64 := match plOf (cf (jc i)) (tr i) (cn (jc i)) with
  | none => none
  | some k => if ¬ b = 0 ∧ tk i = 1 then none else some ((tr i).toInt64 + (if b = 0 then cl (jc i) k else ch (jc i) k).toInt64)
def spC (cf cl ch : Nat → Nat → Int32) (cn : Nat → Nat) (jc : Nat → Nat) (tk tr : Nat → Int32) (i : Nat) (b : Int32) : Int64 := match spV cf cl ch cn jc tk tr i b with
  | none => if b = 0 then (-1152921504606846976) else 1152921504606846976
  | some v => v
theorem tsw4 (x : Int32) : (x.toInt < 0 ∨ 3 < x.toInt) ∨ x = 0 ∨ x = 1 ∨ x = 2 ∨ x = 3 := by
  simp only [← Int32.toInt_inj, show (0 : Int32).toInt = 0 from rfl, show (1 : Int32).toInt = 1 from rfl, show (2 : Int32).toInt = 2 from rfl, show (3 : Int32).toInt = 3 from rfl]
  omega
theorem tsw5 (x : Int32) : (x.toInt < 0 ∨ 4 < x.toInt) ∨ x = 0 ∨ x = 1 ∨ x = 2 ∨ x = 3 ∨ x = 4 := by
  simp only [← Int32.toInt_inj, show (0 : Int32).toInt = 0 from rfl, show (1 : Int32).toInt = 1 from rfl, show (2 : Int32).toInt = 2 from rfl, show (3 : Int32).toInt = 3 from rfl, show (4 : Int32).toInt = 4 from rfl]
  omega
theorem rz0 (v : Int64) : v = rz 0 v := rfl
section SPC
variable {cf cl ch : Nat → Nat → Int32} {cn : Nat → Nat} {jc : Nat → Nat} {tk tr : Nat → Int32} {i k : Nat} {b : Int32}
theorem spC_n0 (h : plOf (cf (jc i)) (tr i) (cn (jc i)) = none) (hb : b = 0) : spC cf cl ch cn jc tk tr i b = -1152921504606846976 := by
  unfold spC spV; rw [h]; exact if_pos hb
theorem spC_n1 (h : plOf (cf (jc i)) (tr i) (cn (jc i)) = none) (hb : ¬ b = 0) : spC cf cl ch cn jc tk tr i b = 1152921504606846976 := by
  unfold spC spV; rw [h]; exact if_neg hb
theorem spC_c (h : plOf (cf (jc i)) (tr i) (cn (jc i)) = some k) (hb : ¬ b = 0) (ht : tk i = 1) : spC cf cl ch cn jc tk tr i b = 1152921504606846976 := by
  unfold spC spV; rw [h]; dsimp only; rw [if_pos ⟨hb, ht⟩]; exact if_neg hb
theorem spC_k (h : plOf (cf (jc i)) (tr i) (cn (jc i)) = some k) (hc : ¬ (¬ b = 0 ∧ tk i = 1)) : spC cf cl ch cn jc tk tr i b = (tr i).toInt64 + (if b = 0 then cl (jc i) k else ch (jc i) k).toInt64 := by
  unfold spC spV; rw [h]; dsimp only; rw [if_neg hc]
end SPC
def drK (n : Nat) : Nat := if n = 0 then 2 else 0
def abK (x : Int32) : Nat := if 0 ≤ x.toInt ∧ x.toInt ≤ 3 then 0 else 1
def teK (wn : Nat) : Nat := if 30 ≤ wn then 4 else 0
def ctK (x : Int32) : Nat := if 0 ≤ x.toInt ∧ x.toInt ≤ 4 then 0 else 1
def ctV (a0 a1 a2 a3 a4 x : Int32) : Int32 := if x = 0 then a0 else if x = 1 then a1 else if x = 2 then a2 else if x = 3 then a3 else a4
def deK (p1 p2 p3 p4 : Int32) : Nat := if okPr p1 ∧ okMk p2 ∧ okMk p3 ∧ okMk p4 then 0 else 1
def prK (p1 p2 : Int32) : Nat := if okPr p1 ∧ okPr p2 then 0 else 1
abbrev bit0 (x : Int32) (i : Nat) : Prop := (x >>> (nI i &&& 31)) &&& 1 = 0
def coK (x kn g2 g3 g4 th te : Int32) : Nat := if ¬ (x &&& (kn ^^^ (-1)) = 0) then 1 else if psB g2 g3 g4 th te then 0 else 5
def zK (z : Nat) : Nat := if z = 0 then 2 else 0
def syK (z i : Nat) : Nat := if i < z then 0 else 2
def suV (ia is : Int32) (i : Nat) : Int64 := if ¬ bit0 ia i then 1 else if ¬ bit0 is i then 0 else -1
def pdB (z : Nat) (lv : Nat → Int32) (i : Nat) : Int32 := if (nI z) - (lv i) < lv i then (nI z) - (lv i) else lv i
def askF (th : Int32) (pb : Nat → Int32) : Nat → Option Nat × Int32
  | 0 => (none, -1)
  | i + 1 => if ¬ bit0 th i then askF th pb i else if (pb i).toInt ≤ (askF th pb i).2.toInt then askF th pb i else (some i, pb i)
theorem askF_1 {th : Int32} {pb : Nat → Int32} {i : Nat} (h : ¬ bit0 th i) : askF th pb (i + 1) = askF th pb i := by show (if _ then _ else _) = _; rw [if_pos h]
theorem askF_2 {th : Int32} {pb : Nat → Int32} {i : Nat} (h : bit0 th i) (h2 : (pb i).toInt ≤ (askF th pb i).2.toInt) : askF th pb (i + 1) = askF th pb i := by show (if _ then _ else _) = _; rw [if_neg (fun z => z h), if_pos h2]
theorem askF_3 {th : Int32} {pb : Nat → Int32} {i : Nat} (h : bit0 th i) (h2 : ¬ (pb i).toInt ≤ (askF th pb i).2.toInt) : askF th pb (i + 1) = (some i, pb i) := by show (if _ then _ else _) = _; rw [if_neg (fun z => z h), if_neg h2]
theorem askF_lt {th : Int32} {pb : Nat → Int32} : ∀ {n k : Nat}, (askF th pb n).1 = some k → k < n
  | 0, k, h => by cases h
  | n + 1, k, h => by
    by_cases h1 : bit0 th n
    · by_cases h2 : (pb n).toInt ≤ (askF th pb n).2.toInt
      · rw [askF_2 h1 h2] at h; have := askF_lt h; omega
      · rw [askF_3 h1 h2] at h; cases h; omega
    · rw [askF_1 h1] at h; have := askF_lt h; omega
def aqK (z : Nat) (o : Option Nat) : Nat := if z = 0 then 2 else if o = none then 2 else 0
theorem LSok_z {rows lv : Nat → Int32} {z : Nat} {cc ia is kn : Int32} {df da dm dw : Nat → Int32} {th te mi fo : Int32} {tm : Nat → Int32} {tn : Nat} (h : LSok rows lv z cc ia is kn df da dm dw th te mi fo tm tn) : z ≤ 1024 := by
  obtain ⟨⟨r0, c0, -, hz, -⟩, -⟩ := h
  rw [hz]; exact frF_le _ _ _ _ _
theorem tt_eq {i j n : Nat} (hi : i < n) (hj : j < n) (hn : n ≤ 12) (h : ¬ ((0 ≤ (i : Int) ∧ (i : Int) < (n : Int)) ∧ (0 ≤ (j : Int) ∧ (j : Int) < (n : Int)) ∧ ¬ nI i = nI j)) : i = j := by
  rcases Nat.lt_trichotomy i j with q | q | q
  · exact absurd ⟨⟨by omega, by omega⟩, ⟨by omega, by omega⟩, fun z => absurd ((nI_eq (by omega) (by omega)).mp z) (by omega)⟩ h
  · exact q
  · exact absurd ⟨⟨by omega, by omega⟩, ⟨by omega, by omega⟩, fun z => absurd ((nI_eq (by omega) (by omega)).mp z) (by omega)⟩ h
