/-! pure words of the reference -/
theorem arrV_cg (cI : ClassId) {N : Nat} {f g : Nat → Value} (h : ∀ k, k < N → f k = g k) : arrV cI N f = arrV cI N g := by
  show ({ cls := cI, slots := Array.ofFn (n := N) fun j => f j.val, vm := .none } : Cell) = { cls := cI, slots := Array.ofFn (n := N) fun j => g j.val, vm := .none }
  have e : (fun j : Fin N => f j.val) = fun j : Fin N => g j.val := funext fun j => h j.val j.isLt
  rw [e]
theorem cgJ {D : va_G} {cl : List vw_C} {ws : va_W} {H : Heap} (hP : va_P D cl ws H) (q : Nat) {a n : Nat} {cA : ClassId} {f g : Nat → Int64} (h : ws[q]? = some (a, .inl (cA, n, .inr (.inl f)))) (hfg : ∀ k, k < n → f k = g k) : va_P D cl (ws.set q (a, .inl (cA, n, .inr (.inl g)))) H := by
  intro k x hx
  by_cases e : k = q
  · subst e
    have hl : k < ws.length := (List.getElem?_eq_some_iff.mp h).1
    rw [List.getElem?_set_self hl] at hx
    cases hx
    have h1 : H[a]? = some (vp_cell cA (n, .inr (.inl f))) := hP k _ h
    show H[a]? = some (vp_cell cA (n, .inr (.inl g)))
    rw [h1, vp_cell_l, vp_cell_l, arrV_cg cA (fun k hk => by rw [hfg k hk])]
  · rw [List.getElem?_set_ne (fun z => e z.symm)] at hx
    exact hP k x hx
theorem cgI {D : va_G} {cl : List vw_C} {ws : va_W} {H : Heap} (hP : va_P D cl ws H) (q : Nat) {a n : Nat} {cA : ClassId} {f g : Nat → Int32} (h : ws[q]? = some (a, .inl (cA, n, .inl f))) (hfg : ∀ k, k < n → f k = g k) : va_P D cl (ws.set q (a, .inl (cA, n, .inl g))) H := by
  intro k x hx
  by_cases e : k = q
  · subst e
    have hl : k < ws.length := (List.getElem?_eq_some_iff.mp h).1
    rw [List.getElem?_set_self hl] at hx
    cases hx
    have h1 : H[a]? = some (vp_cell cA (n, .inl f)) := hP k _ h
    show H[a]? = some (vp_cell cA (n, .inl g))
    rw [h1, vp_cell_i, vp_cell_i, arrV_cg cA (fun k hk => by rw [hfg k hk])]
  · rw [List.getElem?_set_ne (fun z => e z.symm)] at hx
    exact hP k x hx
def pnI (cn : Nat → Nat) : Nat → Int32 := fun k => nI (cn k)
theorem pnI_hit (cn : Nat → Nat) (j n : Nat) : pnI (va_up cn j n) j = nI n := by show nI (va_up cn j n j) = nI n; unfold va_up; rw [if_pos rfl]
theorem pnI_upd (cn : Nat → Nat) (j n : Nat) : upd (pnI cn) j (nI n) = pnI (va_up cn j n) := by
  funext k
  unfold upd pnI va_up
  by_cases e : k = j
  · rw [if_pos e, if_pos e]
  · rw [if_neg e, if_neg e]
/-- the reference's place of a PIECE -/
def plM (fr : Nat → Int32) (j : Nat) (r : Int32) (k : Nat) : Int32 := oI ((plOf (fun q => fr ((5 * j) + q)) r k).map (fun q => (5 * j) + q))
theorem plM_y {fr : Nat → Int32} {j : Nat} {r : Int32} {k : Nat} (h : (fr ((5 * j) + k)).toInt ≤ r.toInt) : plM fr j r (k + 1) = nI ((5 * j) + k) := by
  unfold plM; rw [plOf_s, if_pos h]; rfl
theorem plM_n {fr : Nat → Int32} {j : Nat} {r : Int32} {k : Nat} (h : ¬ (fr ((5 * j) + k)).toInt ≤ r.toInt) : plM fr j r (k + 1) = plM fr j r k := by
  unfold plM; rw [plOf_s, if_neg h]
theorem plM_0 {fr : Nat → Int32} {j : Nat} {r : Int32} {k : Nat} (h : plOf (fun q => fr ((5 * j) + q)) r k = none) : plM fr j r k = -1 := by unfold plM; rw [h]; rfl
theorem plM_1 {fr : Nat → Int32} {j : Nat} {r : Int32} {k q : Nat} (h : plOf (fun q => fr ((5 * j) + q)) r k = some q) : plM fr j r k = nI ((5 * j) + q) := by unfold plM; rw [h]; rfl
/-- the end of a SPAN in the reference -/
def spX (fr lw hg : Nat → Int32) (cn jc : Nat → Nat) (tk tr : Nat → Int32) (i : Nat) (b : Int32) : Int64 := match plOf (fun q => fr ((5 * jc i) + q)) (tr i) (cn (jc i)) with
  | none => 1152921504606846976
  | some k => if ¬ b = 0 ∧ tk i = 1 then 1152921504606846976 else (tr i + (if b = 0 then lw ((5 * jc i) + k) else hg ((5 * jc i) + k))).toInt64
section SPX
variable {fr lw hg : Nat → Int32} {cn jc : Nat → Nat} {tk tr : Nat → Int32} {i k : Nat} {b : Int32}
theorem spX_n (h : plOf (fun q => fr ((5 * jc i) + q)) (tr i) (cn (jc i)) = none) : spX fr lw hg cn jc tk tr i b = 1152921504606846976 := by unfold spX; rw [h]
theorem spX_c (h : plOf (fun q => fr ((5 * jc i) + q)) (tr i) (cn (jc i)) = some k) (hb : ¬ b = 0) (ht : tk i = 1) : spX fr lw hg cn jc tk tr i b = 1152921504606846976 := by unfold spX; rw [h]; exact if_pos ⟨hb, ht⟩
theorem spX_l (h : plOf (fun q => fr ((5 * jc i) + q)) (tr i) (cn (jc i)) = some k) (hb : b = 0) : spX fr lw hg cn jc tk tr i b = (tr i + lw ((5 * jc i) + k)).toInt64 := by
  unfold spX; rw [h]; dsimp only; rw [if_neg (fun z => z.1 hb), if_pos hb]
theorem spX_h (h : plOf (fun q => fr ((5 * jc i) + q)) (tr i) (cn (jc i)) = some k) (hb : ¬ b = 0) (ht : ¬ tk i = 1) : spX fr lw hg cn jc tk tr i b = (tr i + hg ((5 * jc i) + k)).toInt64 := by
  unfold spX; rw [h]; dsimp only; rw [if_neg (fun z => ht z.2), if_neg hb]
end SPX
/-- drop: the TIES from the last on -/
def drD (t : Int32) : Nat → (Nat → Int32) × (Nat → Int32) × (Nat → Int32) × Nat → (Nat → Int32) × (Nat → Int32) × (Nat → Int32) × Nat
  | 0, s => s
  | i + 1, s => if s.1 i = t ∨ s.2.1 i = t then drD t i (rmS s.1 i s.2.2.2, rmS s.2.1 i s.2.2.2, rmS s.2.2.1 i s.2.2.2, s.2.2.2 - 1) else drD t i s
theorem drD_y {t : Int32} {i n : Nat} {a b d : Nat → Int32} {r : (Nat → Int32) × (Nat → Int32) × (Nat → Int32) × Nat} (h : drD t (i + 1) (a, b, d, n) = r) (h1 : a i = t ∨ b i = t) : drD t i (rmS a i n, rmS b i n, rmS d i n, n - 1) = r := by rw [← h]; exact (if_pos h1).symm
theorem drD_n {t : Int32} {i n : Nat} {a b d : Nat → Int32} {r : (Nat → Int32) × (Nat → Int32) × (Nat → Int32) × Nat} (h : drD t (i + 1) (a, b, d, n) = r) (h1 : ¬ a i = t) (h2 : ¬ b i = t) : drD t i (a, b, d, n) = r := by rw [← h]; exact (if_neg (fun z => z.elim h1 h2)).symm
def fK (x : Int64) : Nat := if x.toInt = 1152921504606846976 then 2 else 0
