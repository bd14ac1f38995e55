/-! times, without any machine: numbers with 'no bound' (none), closed matrices, the shortest ways -/
def oA : Option Int → Option Int → Option Int
  | some x, some y => some (x + y)
  | _, _ => none
/-- a is at most b (none: no bound) -/
def oL (a b : Option Int) : Prop := ∀ y, b = some y → ∃ x, a = some x ∧ x ≤ y
theorem oL_rf (a : Option Int) : oL a a := fun y h => ⟨y, h, Int.le_refl y⟩
theorem oL_tr {a b c : Option Int} (h1 : oL a b) (h2 : oL b c) : oL a c := by
  intro z hz
  obtain ⟨y, hy, hyz⟩ := h2 z hz
  obtain ⟨x, hx, hxy⟩ := h1 y hy
  exact ⟨x, hx, Int.le_trans hxy hyz⟩
theorem oL_none (a : Option Int) : oL a none := fun y h => by cases h
theorem oL_some {x y : Int} (h : x ≤ y) : oL (some x) (some y) := fun z hz => by cases hz; exact ⟨x, rfl, h⟩
theorem oL_as {a b : Option Int} (h1 : oL a b) (h2 : oL b a) : a = b := by
  cases b with
  | none =>
    cases a with
    | none => rfl
    | some x => obtain ⟨y, hy, -⟩ := h2 x rfl; cases hy
  | some y =>
    obtain ⟨x, hx, hxy⟩ := h1 y rfl
    subst hx
    obtain ⟨y', hy', h3⟩ := h2 x rfl
    cases hy'
    rw [Int.le_antisymm hxy h3]
theorem oA_mono {a b c d : Option Int} (h1 : oL a b) (h2 : oL c d) : oL (oA a c) (oA b d) := by
  cases b with
  | none => exact oL_none _
  | some y =>
    cases d with
    | none => exact oL_none _
    | some z =>
      obtain ⟨x, hx, h3⟩ := h1 y rfl
      obtain ⟨u, hu, h4⟩ := h2 z rfl
      subst hx; subst hu
      exact oL_some (by omega)
theorem oA_as (a b c : Option Int) : oA (oA a b) c = oA a (oA b c) := by
  cases a <;> cases b <;> cases c <;> simp [oA, Int.add_assoc]
def oM : Option Int → Option Int → Option Int
  | none, b => b
  | some x, none => some x
  | some x, some y => some (if x ≤ y then x else y)
theorem oM_l (a b : Option Int) : oL (oM a b) a := by
  cases a with
  | none => exact oL_none _
  | some x =>
    cases b with
    | none => exact oL_rf _
    | some y => refine oL_some ?_; split <;> omega
theorem oM_r (a b : Option Int) : oL (oM a b) b := by
  cases b with
  | none => exact oL_none _
  | some y =>
    cases a with
    | none => exact oL_rf _
    | some x => refine oL_some ?_; split <;> omega
theorem oM_or (a b : Option Int) : oM a b = a ∨ oM a b = b := by
  cases a with
  | none => exact Or.inr rfl
  | some x =>
    cases b with
    | none => exact Or.inl rfl
    | some y =>
      by_cases h : x ≤ y
      · exact Or.inl (by simp [oM, h])
      · exact Or.inr (by simp [oM, h])
theorem oM_of {a b : Option Int} (h : oL a b) : oM a b = a := by
  rcases oM_or a b with e | e
  · exact e
  · rw [e]; exact oL_as (by rw [← e]; exact oM_l a b) h
/-- D is closed over w, on n nodes -/
def Cl (n : Nat) (w D : Nat → Nat → Option Int) : Prop := (∀ i j, i < n → j < n → oL (D i j) (w i j)) ∧ ∀ i j k, i < n → j < n → k < n → oL (D i j) (oA (D i k) (D k j))
def nnD (n : Nat) (D : Nat → Nat → Option Int) : Prop := ∀ i, i < n → oL (some 0) (D i i)
def stp (m : Nat) (D : Nat → Nat → Option Int) (i j : Nat) : Option Int := oM (D i j) (oA (D i m) (D m j))
def fwO (w : Nat → Nat → Option Int) : Nat → Nat → Nat → Option Int
  | 0 => w
  | m + 1 => stp m (fwO w m)
theorem fwO_S {n : Nat} {w D : Nat → Nat → Option Int} (h : Cl n w D) : ∀ (m : Nat), m ≤ n → ∀ i j, i < n → j < n → oL (D i j) (fwO w m i j)
  | 0, _, i, j, hi, hj => h.1 i j hi hj
  | m + 1, hm, i, j, hi, hj => by
    have ih := fwO_S h m (by omega)
    show oL (D i j) (oM (fwO w m i j) (oA (fwO w m i m) (fwO w m m j)))
    rcases oM_or (fwO w m i j) (oA (fwO w m i m) (fwO w m m j)) with e | e
    · rw [e]; exact ih i j hi hj
    · rw [e]; exact oL_tr (h.2 i j m hi hj (by omega)) (oA_mono (ih i m hi (by omega)) (ih m j (by omega) hj))
theorem fwO_le (w : Nat → Nat → Option Int) (i j : Nat) : ∀ m, oL (fwO w m i j) (w i j)
  | 0 => oL_rf _
  | m + 1 => oL_tr (oM_l _ _) (fwO_le w i j m)
theorem oA_0l {a b : Option Int} (h : oL (some 0) a) : oL b (oA a b) := by
  cases a with
  | none => exact oL_none _
  | some x =>
    cases b with
    | none => exact oL_none _
    | some y =>
      obtain ⟨u, hu, h2⟩ := h x rfl
      cases hu
      exact oL_some (by omega)
theorem oA_0r {a b : Option Int} (h : oL (some 0) b) : oL a (oA a b) := by
  cases b with
  | none => cases a <;> exact oL_none _
  | some x =>
    cases a with
    | none => exact oL_none _
    | some y =>
      obtain ⟨u, hu, h2⟩ := h x rfl
      cases hu
      exact oL_some (by omega)
/-- with a diagonal that isn't below 0, row and column m stay -/
theorem stp_r {m : Nat} {D : Nat → Nat → Option Int} (h : oL (some 0) (D m m)) (j : Nat) : stp m D m j = D m j := oM_of (oA_0l h)
theorem stp_c {m : Nat} {D : Nat → Nat → Option Int} (h : oL (some 0) (D m m)) (i : Nat) : stp m D i m = D i m := oM_of (oA_0r h)
theorem fwO_T {n : Nat} {w : Nat → Nat → Option Int} : ∀ (m : Nat), m ≤ n → (∀ q, q < m → nnD n (fwO w q)) → ∀ i j k, i < n → j < n → k < m → oL (fwO w m i j) (oA (fwO w m i k) (fwO w m k j))
  | 0, _, _, i, j, k, _, _, hk => absurd hk (by omega)
  | m + 1, hm, hd, i, j, k, hi, hj, hk => by
    have ih := fwO_T (w := w) m (by omega) (fun q hq => hd q (by omega))
    have hmm := hd m (by omega) m (by omega)
    have e1 : ∀ a b, oL (fwO w (m + 1) a b) (fwO w m a b) := fun a b => oM_l _ _
    have e2 : ∀ a b, oL (fwO w (m + 1) a b) (oA (fwO w m a m) (fwO w m m b)) := fun a b => oM_r _ _
    by_cases ek : k = m
    · subst ek
      rw [show fwO w (k + 1) i k = fwO w k i k from stp_c hmm i, show fwO w (k + 1) k j = fwO w k k j from stp_r hmm j]
      exact e2 i j
    · have hkm : k < m := by omega
      have hkn : k < n := by omega
      rcases oM_or (fwO w m i k) (oA (fwO w m i m) (fwO w m m k)) with a | a <;> rcases oM_or (fwO w m k j) (oA (fwO w m k m) (fwO w m m j)) with b | b
      · rw [show fwO w (m + 1) i k = fwO w m i k from a, show fwO w (m + 1) k j = fwO w m k j from b]
        exact oL_tr (e1 i j) (ih i j k hi hj hkm)
      · rw [show fwO w (m + 1) i k = fwO w m i k from a, show fwO w (m + 1) k j = _ from b, ← oA_as]
        exact oL_tr (e2 i j) (oA_mono (ih i m k hi (by omega) hkm) (oL_rf _))
      · rw [show fwO w (m + 1) i k = _ from a, show fwO w (m + 1) k j = fwO w m k j from b, oA_as]
        exact oL_tr (e2 i j) (oA_mono (oL_rf _) (ih m j k (by omega) hj hkm))
      · rw [show fwO w (m + 1) i k = _ from a, show fwO w (m + 1) k j = _ from b, oA_as, ← oA_as (fwO w m m k)]
        refine oL_tr (e2 i j) (oA_mono (oL_rf _) ?_)
        refine oL_tr (oA_0l (oL_tr hmm (ih m m k (by omega) (by omega) hkm))) (oL_rf _)
/-- all went well: the last matrix is closed, and the greatest such -/
theorem fwO_good {n : Nat} {w : Nat → Nat → Option Int} (hd : ∀ q, q ≤ n → nnD n (fwO w q)) : Cl n w (fwO w n) ∧ nnD n (fwO w n) ∧ ∀ D, Cl n w D → ∀ i j, i < n → j < n → oL (D i j) (fwO w n i j) :=
  ⟨⟨fun i j _ _ => fwO_le w i j n, fun i j k hi hj hk => fwO_T n (Nat.le_refl n) (fun q hq => hd q (by omega)) i j k hi hj hk⟩, hd n (Nat.le_refl n), fun D hD i j hi hj => fwO_S hD n (Nat.le_refl n) i j hi hj⟩
/-- a diagonal below 0 anywhere on the way: nothing closed has none -/
theorem fwO_bad {n m : Nat} {w : Nat → Nat → Option Int} (hm : m ≤ n) (h : ¬ nnD n (fwO w m)) : ¬ ∃ D, Cl n w D ∧ nnD n D := by
  rintro ⟨D, hC, hN⟩
  exact h (fun i hi => oL_tr (hN i hi) (fwO_S hC m hm i i hi hi))
def GoodW (n : Nat) (w : Nat → Nat → Option Int) : Prop := ∃ D, Cl n w D ∧ nnD n D
/-- the same bounds under other names of the nodes, beside nodes without bounds: the same answers -/
def Emb (n N : Nat) (f : Nat → Nat) (w v : Nat → Nat → Option Int) : Prop :=
  (∀ i, i < n → f i < N) ∧ (∀ i j, i < n → j < n → f i = f j → i = j) ∧ (∀ i j, i < n → j < n → v (f i) (f j) = w i j) ∧ (∀ x y, x < N → y < N → x ≠ y → (∀ i, i < n → f i ≠ x) ∨ (∀ i, i < n → f i ≠ y) → v x y = none) ∧ ∀ x, x < N → (∀ i, i < n → f i ≠ x) → v x x = some 0
theorem Emb_down {n N : Nat} {f : Nat → Nat} {w v D : Nat → Nat → Option Int} (h : Emb n N f w v) (hD : Cl N v D) : Cl n w (fun i j => D (f i) (f j)) :=
  ⟨fun i j hi hj => by rw [← h.2.2.1 i j hi hj]; exact hD.1 _ _ (h.1 i hi) (h.1 j hj), fun i j k hi hj hk => hD.2 _ _ _ (h.1 i hi) (h.1 j hj) (h.1 k hk)⟩
theorem Emb_up {n N : Nat} {f : Nat → Nat} {w v D : Nat → Nat → Option Int} (h : Emb n N f w v) (hD : Cl n w D) : ∃ E, Cl N v E ∧ (∀ i j, i < n → j < n → E (f i) (f j) = D i j) ∧ (nnD n D → nnD N E) := by
  classical
  let g : Nat → Option Nat := fun x => if hx : ∃ i, i < n ∧ f i = x then some hx.choose else none
  have gf : ∀ i, i < n → g (f i) = some i := by
    intro i hi
    have hx : ∃ k, k < n ∧ f k = f i := ⟨i, hi, rfl⟩
    show (if hx : ∃ k, k < n ∧ f k = f i then some hx.choose else none) = some i
    rw [dif_pos hx]
    exact congrArg some (h.2.1 _ _ hx.choose_spec.1 hi hx.choose_spec.2)
  have gs : ∀ x i, g x = some i → i < n ∧ f i = x := by
    intro x i e
    by_cases hx : ∃ k, k < n ∧ f k = x
    · have e2 : g x = some hx.choose := dif_pos hx
      rw [e2] at e
      cases e
      exact hx.choose_spec
    · have e2 : g x = none := dif_neg hx
      rw [e2] at e; cases e
  have gn : ∀ x, g x = none → ∀ i, i < n → f i ≠ x := by
    intro x e i hi e2
    rw [← e2, gf i hi] at e; cases e
  let E : Nat → Nat → Option Int := fun x y => match g x, g y with
    | some i, some j => D i j
    | _, _ => if x = y then some 0 else none
  have Ef : ∀ i j, i < n → j < n → E (f i) (f j) = D i j := by
    intro i j hi hj
    show (match g (f i), g (f j) with | some i, some j => D i j | _, _ => _) = _
    rw [gf i hi, gf j hj]
  have E1 : ∀ x y, g x = none → E x y = if x = y then some 0 else none := by
    intro x y e
    show (match g x, g y with | some i, some j => D i j | _, _ => _) = _
    rw [e]
  have E2 : ∀ x y, g y = none → E x y = if x = y then some 0 else none := by
    intro x y e
    show (match g x, g y with | some i, some j => D i j | _, _ => _) = _
    rw [e]
    cases g x <;> rfl
  refine ⟨E, ⟨fun x y hx hy => ?_, fun x y z hx hy hz => ?_⟩, Ef, fun hN x hx => ?_⟩
  · cases ex : g x with
    | none =>
      rw [E1 x y ex]
      by_cases e : x = y
      · subst e; rw [if_pos rfl, h.2.2.2.2 x hx (gn x ex)]; exact oL_rf _
      · rw [h.2.2.2.1 x y hx hy e (Or.inl (gn x ex))]; exact oL_none _
    | some i =>
      cases ey : g y with
      | none =>
        rw [E2 x y ey]
        by_cases e : x = y
        · subst e; rw [ex] at ey; cases ey
        · rw [h.2.2.2.1 x y hx hy e (Or.inr (gn y ey))]; exact oL_none _
      | some j =>
        obtain ⟨hi, rfl⟩ := gs x i ex
        obtain ⟨hj, rfl⟩ := gs y j ey
        rw [Ef i j hi hj, h.2.2.1 i j hi hj]; exact hD.1 i j hi hj
  · cases ez : g z with
    | none =>
      rw [E2 x z ez, E1 z y ez]
      by_cases e : x = z
      · subst e
        by_cases e2 : x = y
        · subst e2; rw [if_pos rfl, E1 x x ez, if_pos rfl]; exact oL_some (by omega)
        · rw [if_neg e2]; cases (if x = x then some (0 : Int) else none) <;> exact oL_none _
      · rw [if_neg e]; exact oL_none _
    | some k =>
      obtain ⟨hk, rfl⟩ := gs z k ez
      cases ex : g x with
      | none =>
        rw [E1 x (f k) ex, if_neg (fun e => by rw [e, ez] at ex; cases ex)]; exact oL_none _
      | some i =>
        cases ey : g y with
        | none =>
          rw [E2 (f k) y ey, if_neg (fun e => by rw [← e, ez] at ey; cases ey)]
          cases E x (f k) <;> exact oL_none _
        | some j =>
          obtain ⟨hi, rfl⟩ := gs x i ex
          obtain ⟨hj, rfl⟩ := gs y j ey
          rw [Ef i j hi hj, Ef i k hi hk, Ef k j hk hj]; exact hD.2 i j k hi hj hk
  · cases ex : g x with
    | none => rw [E1 x x ex, if_pos rfl]; exact oL_rf _
    | some i =>
      obtain ⟨hi, rfl⟩ := gs x i ex
      rw [Ef i i hi hi]; exact hN i hi
theorem Emb_good {n N : Nat} {f : Nat → Nat} {w v : Nat → Nat → Option Int} (h : Emb n N f w v) : GoodW n w ↔ GoodW N v := by
  constructor
  · rintro ⟨D, hC, hN⟩
    obtain ⟨E, hE, -, hEN⟩ := Emb_up h hC
    exact ⟨E, hE, hEN hN⟩
  · rintro ⟨E, hC, hN⟩
    exact ⟨_, Emb_down h hC, fun i hi => hN (f i) (h.1 i hi)⟩
/-- the greatest closed matrices agree -/
theorem Emb_eq {n N : Nat} {f : Nat → Nat} {w v D E : Nat → Nat → Option Int} (h : Emb n N f w v) (hD : Cl n w D) (hDg : ∀ D', Cl n w D' → ∀ i j, i < n → j < n → oL (D' i j) (D i j)) (hE : Cl N v E) (hEg : ∀ D', Cl N v D' → ∀ i j, i < N → j < N → oL (D' i j) (E i j)) : ∀ i j, i < n → j < n → D i j = E (f i) (f j) := by
  intro i j hi hj
  obtain ⟨E', hE', hf, -⟩ := Emb_up h hD
  refine oL_as ?_ ?_
  · have := hEg E' hE' (f i) (f j) (h.1 i hi) (h.1 j hj)
    rwa [hf i j hi hj] at this
  · exact hDg _ (Emb_down h hE) i j hi hj
