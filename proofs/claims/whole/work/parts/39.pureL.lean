/-! the quarrel, without any machine: walks -/
def sS (w : Nat → Nat → Option Int) (i j : Nat) : Option Int := if i = j then none else oM (w (i + 1) (j + 1)) (oA (w (i + 1) 0) (w 0 (j + 1)))
def wl (s : Nat → Nat → Option Int) : Nat → List Nat → Nat → Option Int
  | i, [], j => s i j
  | i, v :: p, j => oA (s i v) (wl s v p j)
theorem wl_app (s : Nat → Nat → Option Int) : ∀ (p : List Nat) (i v : Nat) (q : List Nat) (j : Nat), wl s i (p ++ v :: q) j = oA (wl s i p v) (wl s v q j)
  | [], _, _, _, _ => rfl
  | u :: p, i, v, q, j => by
    show oA (s i u) (wl s u (p ++ v :: q) j) = oA (oA (s i u) (wl s u p v)) (wl s v q j)
    rw [wl_app s p, oA_as]
theorem oA_cm (a b : Option Int) : oA a b = oA b a := by
  cases a <;> cases b <;> simp [oA, Int.add_comm]
theorem oA_some {a b : Option Int} {z : Int} (h : oA a b = some z) : ∃ x y, a = some x ∧ b = some y ∧ x + y = z := by
  cases a with
  | none => cases h
  | some x =>
    cases b with
    | none => cases h
    | some y => exact ⟨x, y, rfl, rfl, Option.some.inj h⟩
theorem oM_lt {a b : Option Int} {x : Int} (h : oM a b = some x) : a = some x ∨ b = some x := by
  rcases oM_or a b with e | e
  · exact Or.inl (e.symm.trans h)
  · exact Or.inr (e.symm.trans h)
/-- a closed walk of d + 1 steps within U, from i, below 0 -/
def NC (s : Nat → Nat → Option Int) (U : Nat → Bool) (d i : Nat) : Prop := ∃ p x, p.length = d ∧ U i = true ∧ (∀ v, v ∈ p → U v = true) ∧ wl s i p i = some x ∧ x < 0
theorem NC_mono {s : Nat → Nat → Option Int} {U V : Nat → Bool} {d i : Nat} (h : ∀ v, U v = true → V v = true) : NC s U d i → NC s V d i := by
  rintro ⟨p, x, h1, h2, h3, h4, h5⟩
  exact ⟨p, x, h1, h i h2, fun v hv => h v (h3 v hv), h4, h5⟩
theorem wl_rot {s : Nat → Nat → Option Int} {i v : Nat} {p : List Nat} {x : Int} (h : wl s i p i = some x) (hv : v ∈ p) : ∃ q, q.length = p.length ∧ (∀ u, u ∈ q → u = i ∨ u ∈ p) ∧ wl s v q v = some x := by
  obtain ⟨a, b, rfl⟩ := List.append_of_mem hv
  refine ⟨b ++ i :: a, ?_, ?_, ?_⟩
  · simp only [List.length_append, List.length_cons]; omega
  · intro u hu
    simp only [List.mem_append, List.mem_cons] at hu ⊢
    rcases hu with hu | hu | hu
    · exact Or.inr (Or.inr (Or.inr hu))
    · exact Or.inl hu
    · exact Or.inr (Or.inl hu)
  · rw [wl_app] at h ⊢
    rw [oA_cm]; exact h
def cnt (U : Nat → Bool) : Nat → Nat
  | 0 => 0
  | k + 1 => cnt U k + (if U k = true then 1 else 0)
theorem cnt_s (U : Nat → Bool) (k : Nat) : cnt U (k + 1) = cnt U k + (if U k = true then 1 else 0) := rfl
theorem cnt_mono {U V : Nat → Bool} : ∀ {n : Nat}, (∀ v, v < n → U v = true → V v = true) → cnt U n ≤ cnt V n
  | 0, _ => Nat.le_refl _
  | n + 1, h => by
    have ih := cnt_mono (n := n) (fun v hv => h v (by omega))
    rw [cnt_s, cnt_s]
    by_cases c : U n = true
    · rw [if_pos c, if_pos (h n (by omega) c)]; omega
    · rw [if_neg c]; split <;> omega
theorem cnt_eq {U V : Nat → Bool} : ∀ {n : Nat}, (∀ v, v < n → U v = true → V v = true) → cnt V n ≤ cnt U n → ∀ v, v < n → V v = true → U v = true
  | 0, _, _, v, hv, _ => absurd hv (by omega)
  | n + 1, h, hc, v, hv, hV => by
    have m := cnt_mono (n := n) (fun v hv => h v (by omega))
    rw [cnt_s, cnt_s] at hc
    by_cases c : U n = true
    · rw [if_pos c, if_pos (h n (by omega) c)] at hc
      rcases Nat.lt_or_ge v n with q | q
      · exact cnt_eq (fun v hv => h v (by omega)) (by omega) v q hV
      · have e : v = n := by omega
        rw [e]; exact c
    · rw [if_neg c] at hc
      by_cases d : V n = true
      · rw [if_pos d] at hc; omega
      · rw [if_neg d] at hc
        rcases Nat.lt_or_ge v n with q | q
        · exact cnt_eq (fun v hv => h v (by omega)) (by omega) v q hV
        · have e : v = n := by omega
          exact absurd (e ▸ hV) d
theorem cnt_le (U : Nat → Bool) : ∀ n, cnt U n ≤ n
  | 0 => Nat.le_refl _
  | n + 1 => by rw [cnt_s]; have := cnt_le U n; split <;> omega
theorem cnt_rm {U : Nat → Bool} {a : Nat} : ∀ {n : Nat}, a < n → U a = true → cnt U n = cnt (fun v => U v && !decide (v = a)) n + 1
  | 0, h, _ => absurd h (by omega)
  | n + 1, h, ha => by
    rw [cnt_s, cnt_s]
    by_cases e : a = n
    · subst e
      have e1 : cnt U a = cnt (fun v => U v && !decide (v = a)) a := by
        refine Nat.le_antisymm (cnt_mono (fun v hv z => ?_)) (cnt_mono (fun v hv z => ?_))
        · show (U v && !decide (v = a)) = true
          rw [z, decide_eq_false (by omega)]; rfl
        · have z : (U v && !decide (v = a)) = true := z
          rw [Bool.and_eq_true] at z; exact z.1
      rw [if_pos ha, if_neg (by show ¬ (U a && !decide (a = a)) = true; rw [decide_eq_true rfl, ha]; decide), e1]
    · have ih := cnt_rm (n := n) (by omega) ha
      have e2 : (U n && !decide (n = a)) = U n := by rw [decide_eq_false (by omega)]; cases U n <;> rfl
      show _ = _ + (if (U n && !decide (n = a)) = true then 1 else 0) + 1
      rw [e2, ih]; omega
theorem cnt_nodup : ∀ {l : List Nat} {U : Nat → Bool} {n : Nat}, l.Nodup → (∀ v, v ∈ l → v < n ∧ U v = true) → l.length ≤ cnt U n
  | [], _, _, _, _ => Nat.zero_le _
  | a :: l, U, n, hd, h => by
    obtain ⟨h1, h2⟩ := List.nodup_cons.mp hd
    obtain ⟨a1, a2⟩ := h a (List.mem_cons_self)
    rw [cnt_rm a1 a2]
    have := cnt_nodup (l := l) (U := fun v => U v && !decide (v = a)) (n := n) h2 (fun v hv => ⟨(h v (List.mem_cons_of_mem _ hv)).1, by
      show (U v && !decide (v = a)) = true
      rw [(h v (List.mem_cons_of_mem _ hv)).2, decide_eq_false (p := v = a) (fun e => h1 (e ▸ hv))]; rfl⟩)
    show l.length + 1 ≤ _
    omega
theorem cnt_list : ∀ (l : List Nat) (n : Nat), cnt (fun v => decide (v ∈ l)) n ≤ l.length
  | [], n => by
    have : ∀ n, cnt (fun v => decide (v ∈ ([] : List Nat))) n = 0 := by
      intro n
      induction n with
      | zero => rfl
      | succ n ih => rw [cnt_s, ih, if_neg (by simp)]
    rw [this]; exact Nat.zero_le _
  | a :: l, n => by
    have ih := cnt_list l n
    have step : ∀ n, cnt (fun v => decide (v ∈ a :: l)) n ≤ cnt (fun v => decide (v ∈ l)) n + (if a < n then 1 else 0) := by
      intro n
      induction n with
      | zero => exact Nat.zero_le _
      | succ n ih2 =>
        rw [cnt_s, cnt_s]
        by_cases c : n ∈ a :: l
        · rw [if_pos (decide_eq_true c)]
          by_cases d : n ∈ l
          · rw [if_pos (decide_eq_true d)]
            have : (if a < n then 1 else 0) ≤ (if a < n + 1 then 1 else 0) := by split <;> split <;> omega
            omega
          · have e : n = a := by rcases List.mem_cons.mp c with e | e; exact e; exact absurd e d
            rw [if_neg (fun z => d (of_decide_eq_true z))]
            rw [if_neg (by omega)] at ih2
            rw [if_pos (by omega)]
            omega
        · rw [if_neg (fun z => c (of_decide_eq_true z)), if_neg (fun z => c (List.mem_cons_of_mem _ (of_decide_eq_true z)))]
          have : (if a < n then 1 else 0) ≤ (if a < n + 1 then 1 else 0) := by split <;> split <;> omega
          omega
    have := step n
    show _ ≤ l.length + 1
    have z : (if a < n then 1 else 0) ≤ 1 := by split <;> omega
    omega
/-- the nodes of such a walk -/
theorem NC_set {s : Nat → Nat → Option Int} {U : Nat → Bool} {d i : Nat} (h : NC s U d i) : ∃ V : Nat → Bool, (∀ v, V v = true → NC s V d v ∧ U v = true) ∧ V i = true ∧ ∀ n, cnt V n ≤ d + 1 := by
  obtain ⟨p, x, h1, h2, h3, h4, h5⟩ := h
  refine ⟨fun v => decide (v ∈ i :: p), fun v hv => ?_, decide_eq_true List.mem_cons_self, fun n => ?_⟩
  · have hv := of_decide_eq_true hv
    rcases List.mem_cons.mp hv with e | e
    · subst e
      exact ⟨⟨p, x, h1, decide_eq_true List.mem_cons_self, fun u hu => decide_eq_true (List.mem_cons_of_mem _ hu), h4, h5⟩, h2⟩
    · obtain ⟨q, q1, q2, q3⟩ := wl_rot h4 e
      refine ⟨⟨q, x, q1.trans h1, decide_eq_true hv, fun u hu => decide_eq_true ?_, q3, h5⟩, h3 v e⟩
      rcases q2 u hu with z | z
      · rw [z]; exact List.mem_cons_self
      · exact List.mem_cons_of_mem _ z
  · have := cnt_list (i :: p) n
    rw [List.length_cons, h1] at this
    exact this
theorem dup_split : ∀ (p : List Nat), ¬ p.Nodup → ∃ a v b c, p = a ++ v :: (b ++ v :: c)
  | [], h => absurd List.nodup_nil h
  | u :: p, h => by
    by_cases c : u ∈ p
    · obtain ⟨b, c, e⟩ := List.append_of_mem c
      exact ⟨[], u, b, c, by rw [e]; rfl⟩
    · obtain ⟨a, v, b, c2, e⟩ := dup_split p (fun z => h (List.nodup_cons.mpr ⟨c, z⟩))
      exact ⟨u :: a, v, b, c2, by rw [e]; rfl⟩
/-- the shortest such walk meets no node twice -/
theorem NC_nodup {s : Nat → Nat → Option Int} {U : Nat → Bool} : ∀ (d : Nat) {i : Nat}, NC s U d i → ∃ j p x, p.length ≤ d ∧ (j :: p).Nodup ∧ U j = true ∧ (∀ v, v ∈ p → U v = true) ∧ wl s j p j = some x ∧ x < 0 := by
  intro d
  induction d using Nat.strongRecOn with
  | ind d ih =>
    intro i h
    obtain ⟨p, x, h1, h2, h3, h4, h5⟩ := h
    by_cases c : (i :: p).Nodup
    · exact ⟨i, p, x, by omega, c, h2, h3, h4, h5⟩
    · have shorter : ∀ d', d' < d → ∀ j, NC s U d' j → ∃ j p x, p.length ≤ d ∧ (j :: p).Nodup ∧ U j = true ∧ (∀ v, v ∈ p → U v = true) ∧ wl s j p j = some x ∧ x < 0 := by
        intro d' hd' j hj
        obtain ⟨j, p, x, z1, z2⟩ := ih d' hd' hj
        exact ⟨j, p, x, by omega, z2⟩
      by_cases e : i ∈ p
      · obtain ⟨q, r, rfl⟩ := List.append_of_mem e
        rw [wl_app] at h4
        obtain ⟨y, z, y1, z1, yz⟩ := oA_some h4
        simp only [List.length_append, List.length_cons] at h1
        by_cases hy : y < 0
        · exact shorter q.length (by omega) i ⟨q, y, rfl, h2, fun v hv => h3 v (List.mem_append_left _ hv), y1, hy⟩
        · exact shorter r.length (by omega) i ⟨r, z, rfl, h2, fun v hv => h3 v (List.mem_append_right _ (List.mem_cons_of_mem _ hv)), z1, by omega⟩
      · obtain ⟨a, v, b, c2, rfl⟩ := dup_split p (fun z => c (List.nodup_cons.mpr ⟨e, z⟩))
        rw [wl_app, wl_app] at h4
        obtain ⟨y, z, y1, z1, yz⟩ := oA_some h4
        obtain ⟨t, u, t1, u1, tu⟩ := oA_some z1
        simp only [List.length_append, List.length_cons] at h1
        have hv : U v = true := h3 v (List.mem_append_right _ List.mem_cons_self)
        by_cases ht : t < 0
        · exact shorter b.length (by omega) v ⟨b, t, rfl, hv, fun q hq => h3 q (List.mem_append_right _ (List.mem_cons_of_mem _ (List.mem_append_left _ hq))), t1, ht⟩
        · refine shorter (a ++ v :: c2).length (by simp only [List.length_append, List.length_cons]; omega) i ⟨a ++ v :: c2, y + u, rfl, h2, fun q hq => ?_, ?_, by omega⟩
          · rcases List.mem_append.mp hq with z | z
            · exact h3 q (List.mem_append_left _ z)
            · rcases List.mem_cons.mp z with w | w
              · rw [w]; exact hv
              · exact h3 q (List.mem_append_right _ (List.mem_cons_of_mem _ (List.mem_append_right _ (List.mem_cons_of_mem _ w))))
          · rw [wl_app, y1, u1]; rfl
/-- sets with such a walk have at least d + 1 nodes; those with just as many are all on it -/
theorem NC_small {s : Nat → Nat → Option Int} {A V : Nat → Bool} {n d d0 i0 : Nat} (hVA : ∀ v, V v = true → A v = true) (hVn : ∀ v, V v = true → v < n) (hmin : ∀ d', d' < d → ∀ i, ¬ NC s A d' i) (h : NC s V d0 i0) : d + 1 ≤ cnt V n ∧ (cnt V n ≤ d + 1 → ∀ v, V v = true → NC s V d v) := by
  obtain ⟨j, p, x, -, h2, h3, h4, h5, h6⟩ := NC_nodup d0 h
  have hin : ∀ v, v ∈ j :: p → v < n ∧ V v = true := by
    intro v hv
    have : V v = true := by
      rcases List.mem_cons.mp hv with e | e
      · rw [e]; exact h3
      · exact h4 v e
    exact ⟨hVn v this, this⟩
  have l1 := cnt_nodup h2 hin
  have l2 : d ≤ p.length := by
    refine Nat.le_of_not_lt (fun z => hmin p.length z j ⟨p, x, rfl, hVA j h3, fun v hv => hVA v (h4 v hv), h5, h6⟩)
  rw [List.length_cons] at l1
  refine ⟨by omega, fun hc v hv => ?_⟩
  have e : p.length = d := by omega
  have mem : v ∈ j :: p := by
    refine Classical.byContradiction (fun z => ?_)
    have := cnt_nodup (List.nodup_cons.mpr ⟨z, h2⟩) (fun u hu => by
      rcases List.mem_cons.mp hu with y | y
      · rw [y]; exact ⟨hVn v hv, hv⟩
      · exact hin u y)
    rw [List.length_cons, List.length_cons] at this
    omega
  rcases List.mem_cons.mp mem with y | y
  · rw [y]; exact ⟨p, x, e, h3, h4, h5, h6⟩
  · obtain ⟨q, q1, q2, q3⟩ := wl_rot h5 y
    refine ⟨q, x, q1.trans e, hv, fun u hu => ?_, q3, h6⟩
    rcases q2 u hu with z | z
    · rw [z]; exact h3
    · exact h4 u z
