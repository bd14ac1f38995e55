/-! the quarrel: no good times just if some closed walk is below 0 -/
def rs (w : Nat → Nat → Option Int) (U : Nat → Bool) (p q : Nat) : Option Int := if p = q then some 0 else if (p = 0 ∨ U (p - 1) = true) ∧ (q = 0 ∨ U (q - 1) = true) then w p q else none
section QRL
variable {w : Nat → Nat → Option Int} {U : Nat → Bool}
theorem rs_in {p q : Nat} (h : p ≠ q) (hp : p = 0 ∨ U (p - 1) = true) (hq : q = 0 ∨ U (q - 1) = true) : rs w U p q = w p q := (if_neg h).trans (if_pos ⟨hp, hq⟩)
theorem wl_D0 {D : Nat → Nat → Option Int} (hU : ∀ v, U v = true → v < 12) (hC : Cl 13 (rs w U) D) {i j : Nat} {x : Int} (hi : U i = true) (hj : U j = true) (h : sS w i j = some x) : oL (D (i + 1) (j + 1)) (some x) := by
  have li := hU i hi
  have lj := hU j hj
  unfold sS at h
  by_cases e : i = j
  · rw [if_pos e] at h; cases h
  · rw [if_neg e] at h
    rcases oM_lt h with z | z
    · rw [← z, ← rs_in (U := U) (w := w) (by omega : i + 1 ≠ j + 1) (Or.inr hi) (Or.inr hj)]
      exact hC.1 _ _ (by omega) (by omega)
    · rw [← z, ← rs_in (U := U) (w := w) (by omega : i + 1 ≠ 0) (Or.inr hi) (Or.inl rfl), ← rs_in (U := U) (w := w) (by omega : 0 ≠ j + 1) (Or.inl rfl) (Or.inr hj)]
      exact oL_tr (hC.2 _ _ 0 (by omega) (by omega) (by omega)) (oA_mono (hC.1 _ _ (by omega) (by omega)) (hC.1 _ _ (by omega) (by omega)))
theorem wl_D {D : Nat → Nat → Option Int} (hU : ∀ v, U v = true → v < 12) (hC : Cl 13 (rs w U) D) : ∀ (p : List Nat) (i j : Nat) (x : Int), U i = true → U j = true → (∀ v, v ∈ p → U v = true) → wl (sS w) i p j = some x → oL (D (i + 1) (j + 1)) (some x)
  | [], i, j, x, hi, hj, _, h => wl_D0 hU hC hi hj h
  | v :: p, i, j, x, hi, hj, hp, h => by
    have li := hU i hi
    have lj := hU j hj
    have hv := hp v List.mem_cons_self
    have lv := hU v hv
    obtain ⟨a, b, h1, h2, h3⟩ := oA_some (show oA (sS w i v) (wl (sS w) v p j) = some x from h)
    have k1 := wl_D0 hU hC hi hv h1
    have k2 := wl_D hU hC p v j b hv hj (fun u hu => hp u (List.mem_cons_of_mem _ hu)) h2
    have := oL_tr (hC.2 (i + 1) (j + 1) (v + 1) (by omega) (by omega) (by omega)) (oA_mono k1 k2)
    rw [show oA (some a) (some b) = some x from by rw [← h3]; rfl] at this
    exact this
theorem NC_bad (hU : ∀ v, U v = true → v < 12) {d i : Nat} (h : NC (sS w) U d i) : ¬ GoodW 13 (rs w U) := by
  rintro ⟨D, hC, hN⟩
  obtain ⟨p, x, -, h2, h3, h4, h5⟩ := h
  have k := wl_D hU hC p i i x h2 h2 h3 h4
  obtain ⟨y, hy, hyx⟩ := oL_tr (hN (i + 1) (by have := hU i h2; omega)) k x rfl
  cases hy; omega
def QQ (w : Nat → Nat → Option Int) (U : Nat → Bool) (a b : Nat) (y : Int) : Prop := (a = b ∧ 0 ≤ y) ∨ ∃ p x, (∀ v, v ∈ p → U v = true) ∧ wl (sS w) a p b = some x ∧ x ≤ y
def St (w : Nat → Nat → Option Int) (i a : Nat) (u : Int) : Prop := (i = a + 1 ∧ u = 0) ∨ (i = 0 ∧ w 0 (a + 1) = some u)
def En (w : Nat → Nat → Option Int) (j b : Nat) (l : Int) : Prop := (j = b + 1 ∧ l = 0) ∨ (j = 0 ∧ w (b + 1) 0 = some l)
def PP (w : Nat → Nat → Option Int) (U : Nat → Bool) (i j : Nat) (x : Int) : Prop := (i = j ∧ 0 ≤ x) ∨ ∃ a b u y l, U a = true ∧ U b = true ∧ St w i a u ∧ QQ w U a b y ∧ En w j b l ∧ u + y + l ≤ x
theorem QQ_tr {a b c : Nat} {y z : Int} (hb : U b = true) (h1 : QQ w U a b y) (h2 : QQ w U b c z) : QQ w U a c (y + z) := by
  rcases h1 with ⟨e1, k1⟩ | ⟨p, x, hp, hx, hl⟩
  · subst e1
    rcases h2 with ⟨e2, k2⟩ | ⟨q, x2, hq, hx2, hl2⟩
    · exact Or.inl ⟨e2, by omega⟩
    · exact Or.inr ⟨q, x2, hq, hx2, by omega⟩
  · rcases h2 with ⟨e2, k2⟩ | ⟨q, x2, hq, hx2, hl2⟩
    · subst e2
      exact Or.inr ⟨p, x, hp, hx, by omega⟩
    · refine Or.inr ⟨p ++ b :: q, x + x2, fun v hv => ?_, ?_, by omega⟩
      · rcases List.mem_append.mp hv with z | z
        · exact hp v z
        · rcases List.mem_cons.mp z with y | y
          · rw [y]; exact hb
          · exact hq v y
      · rw [wl_app, hx, hx2]; rfl
/-- over node 0 -/
theorem QQ_0 (h0 : ∀ t, U t = true → oL (some 0) (oA (w (t + 1) 0) (w 0 (t + 1)))) {b a : Nat} {l u : Int} (hb : U b = true) (h1 : w (b + 1) 0 = some l) (h2 : w 0 (a + 1) = some u) : QQ w U b a (l + u) := by
  by_cases e : b = a
  · subst e
    have := h0 b hb
    rw [h1, h2] at this
    obtain ⟨x, hx, hl⟩ := this (l + u) rfl
    cases hx
    exact Or.inl ⟨rfl, hl⟩
  · have k : oL (sS w b a) (some (l + u)) := by
      unfold sS
      rw [if_neg e, h1, h2]
      exact oM_r _ _
    obtain ⟨x, hx, hl⟩ := k _ rfl
    exact Or.inr ⟨[], x, fun _ z => (by cases z), hx, hl⟩
theorem PP_tr (h0 : ∀ t, U t = true → oL (some 0) (oA (w (t + 1) 0) (w 0 (t + 1)))) {i j k : Nat} {x y : Int} (h1 : PP w U i k x) (h2 : PP w U k j y) : PP w U i j (x + y) := by
  rcases h1 with ⟨e1, k1⟩ | ⟨a, b, u, m, l, ha, hb, hs, hq, he, hx⟩
  · subst e1
    rcases h2 with ⟨e2, k2⟩ | ⟨a', b', u', m', l', ha', hb', hs', hq', he', hx'⟩
    · exact Or.inl ⟨e2, by omega⟩
    · exact Or.inr ⟨a', b', u', m', l', ha', hb', hs', hq', he', by omega⟩
  · rcases h2 with ⟨e2, k2⟩ | ⟨a', b', u', m', l', ha', hb', hs', hq', he', hx'⟩
    · subst e2
      exact Or.inr ⟨a, b, u, m, l, ha, hb, hs, hq, he, by omega⟩
    · have mid : QQ w U b a' (l + u') := by
        rcases he with ⟨z1, z2⟩ | ⟨z1, z2⟩
        · rcases hs' with ⟨y1, y2⟩ | ⟨y1, y2⟩
          · exact Or.inl ⟨by omega, by omega⟩
          · omega
        · rcases hs' with ⟨y1, y2⟩ | ⟨y1, y2⟩
          · omega
          · exact QQ_0 h0 hb z2 y2
      exact Or.inr ⟨a, b', u, m + (l + u') + m', l', ha, hb', hs, QQ_tr ha' (QQ_tr hb hq mid) hq', he', by omega⟩
theorem PP_rs {i j : Nat} {x : Int} (h : rs w U i j = some x) : PP w U i j x := by
  unfold rs at h
  by_cases e : i = j
  · rw [if_pos e] at h; cases h; exact Or.inl ⟨e, Int.le_refl _⟩
  · rw [if_neg e] at h
    by_cases c : (i = 0 ∨ U (i - 1) = true) ∧ (j = 0 ∨ U (j - 1) = true)
    · rw [if_pos c] at h
      rcases i with _ | a
      · rcases j with _ | b
        · exact absurd rfl e
        · have hb : U b = true := c.2.resolve_left (by omega)
          exact Or.inr ⟨b, b, x, 0, 0, hb, hb, Or.inr ⟨rfl, h⟩, Or.inl ⟨rfl, Int.le_refl _⟩, Or.inl ⟨rfl, rfl⟩, by omega⟩
      · have ha : U a = true := c.1.resolve_left (by omega)
        rcases j with _ | b
        · exact Or.inr ⟨a, a, 0, 0, x, ha, ha, Or.inl ⟨rfl, rfl⟩, Or.inl ⟨rfl, Int.le_refl _⟩, Or.inr ⟨rfl, h⟩, by omega⟩
        · have hb : U b = true := c.2.resolve_left (by omega)
          have k : oL (sS w a b) (some x) := by
            unfold sS
            rw [if_neg (by omega), ← h]
            exact oM_l _ _
          obtain ⟨y, hy, hl⟩ := k _ rfl
          exact Or.inr ⟨a, b, 0, y, 0, ha, hb, Or.inl ⟨rfl, rfl⟩, Or.inr ⟨[], y, fun _ z => (by cases z), hy, Int.le_refl _⟩, Or.inl ⟨rfl, rfl⟩, by omega⟩
    · rw [if_neg c] at h; cases h
theorem PP_fw (h0 : ∀ t, U t = true → oL (some 0) (oA (w (t + 1) 0) (w 0 (t + 1)))) : ∀ (m : Nat) (i j : Nat) (x : Int), fwO (rs w U) m i j = some x → PP w U i j x
  | 0, _, _, _, h => PP_rs h
  | m + 1, i, j, x, h => by
    rcases oM_lt (show oM (fwO (rs w U) m i j) (oA (fwO (rs w U) m i m) (fwO (rs w U) m m j)) = some x from h) with z | z
    · exact PP_fw h0 m i j x z
    · obtain ⟨y1, y2, e1, e2, e3⟩ := oA_some z
      rw [← e3]
      exact PP_tr h0 (PP_fw h0 m i m y1 e1) (PP_fw h0 m m j y2 e2)
theorem PP_neg (h0 : ∀ t, U t = true → oL (some 0) (oA (w (t + 1) 0) (w 0 (t + 1)))) {i : Nat} {x : Int} (h : PP w U i i x) (hx : x < 0) : ∃ d j, NC (sS w) U d j := by
  have fin : ∀ a y, U a = true → QQ w U a a y → y < 0 → ∃ d j, NC (sS w) U d j := by
    rintro a y ha (⟨-, z⟩ | ⟨p, v, hp, hv, hl⟩) hy
    · omega
    · exact ⟨p.length, a, p, v, rfl, ha, hp, hv, by omega⟩
  rcases h with ⟨-, z⟩ | ⟨a, b, u, y, l, ha, hb, hs, hq, he, hl⟩
  · omega
  · rcases hs with ⟨s1, s2⟩ | ⟨s1, s2⟩
    · rcases he with ⟨t1, t2⟩ | ⟨t1, t2⟩
      · have e : b = a := by omega
        rw [e] at hq
        exact fin a y ha hq (by omega)
      · omega
    · rcases he with ⟨t1, t2⟩ | ⟨t1, t2⟩
      · omega
      · exact fin a (y + (l + u)) ha (QQ_tr hb hq (QQ_0 h0 hb t2 s2)) (by omega)
theorem bad_iff (hU : ∀ v, U v = true → v < 12) (h0 : ∀ t, U t = true → oL (some 0) (oA (w (t + 1) 0) (w 0 (t + 1)))) : ¬ GoodW 13 (rs w U) ↔ ∃ d i, NC (sS w) U d i := by
  constructor
  · intro h
    refine Classical.byContradiction (fun hn => h ?_)
    have gd := fwO_good (n := 13) (w := rs w U) (fun q hq i hi => by
      intro x hx
      refine ⟨0, rfl, ?_⟩
      refine Int.le_of_not_gt (fun hz => hn (PP_neg h0 (PP_fw h0 q i i x hx) hz)))
    exact ⟨_, gd.1, gd.2.1⟩
  · rintro ⟨d, i, h⟩
    exact NC_bad hU h
end QRL
/-- a part of the TRACES -/
theorem wTF_sub {lo up : Nat → Option Int} {A U : Nat → Bool} {an bn : Nat → Nat} {tv : Nat → Int} {im : Nat} (hUA : ∀ v, U v = true → A v = true) (hd : ∀ i, i < im → an i ≠ bn i) : ∀ k, k ≤ im → ∀ p q, wTF lo up U an bn tv k p q = rs (wTF lo up A an bn tv k) U p q
  | 0, _, p, q => by
    show w0F lo up U p q = rs (w0F lo up A) U p q
    unfold rs w0F
    by_cases e : p = q
    · rw [if_pos e, if_pos e]
    · rw [if_neg e, if_neg e, if_neg e]
      by_cases p0 : p = 0
      · rw [if_pos p0, if_pos p0]
        by_cases c : U (q - 1) = true
        · rw [if_pos c, if_pos ⟨Or.inl p0, Or.inr c⟩, if_pos (hUA _ c)]
        · rw [if_neg c, if_neg (fun z => z.2.elim (fun y => e (by omega)) c)]
      · rw [if_neg p0, if_neg p0]
        by_cases q0 : q = 0
        · rw [if_pos q0, if_pos q0]
          by_cases c : U (p - 1) = true
          · rw [if_pos c, if_pos ⟨Or.inr c, Or.inl q0⟩, if_pos (hUA _ c)]
          · rw [if_neg c, if_neg (fun z => z.1.elim p0 c)]
        · rw [if_neg q0, if_neg q0]
          split <;> rfl
  | k + 1, hk, p, q => by
    have ih := wTF_sub (lo := lo) (up := up) (tv := tv) hUA hd k (by omega) p q
    have hne := hd k (by omega)
    rw [wTF_s]
    unfold rs
    unfold rs at ih
    by_cases e : p = q
    · rw [if_pos e] at ih ⊢
      rw [if_neg (fun z => hne (by omega))]; exact ih
    · rw [if_neg e] at ih ⊢
      rw [wTF_s]
      by_cases c : (U (an k) = true ∧ U (bn k) = true) ∧ p = bn k + 1 ∧ q = an k + 1
      · have ci : (p = 0 ∨ U (p - 1) = true) ∧ (q = 0 ∨ U (q - 1) = true) := by
          obtain ⟨⟨c1, c2⟩, c3, c4⟩ := c
          rw [c3, c4]
          exact ⟨Or.inr c2, Or.inr c1⟩
        rw [if_pos c, if_pos ci, if_pos ⟨⟨hUA _ c.1.1, hUA _ c.1.2⟩, c.2⟩, ih, if_pos ci]
      · rw [if_neg c, ih]
        by_cases ci : (p = 0 ∨ U (p - 1) = true) ∧ (q = 0 ∨ U (q - 1) = true)
        · rw [if_pos ci, if_pos ci, if_neg (fun z => c ⟨?_, z.2⟩)]
          obtain ⟨c1, c2⟩ := ci
          obtain ⟨-, c3, c4⟩ := z
          rw [c3] at c1
          rw [c4] at c2
          exact ⟨c2.resolve_left (by omega), c1.resolve_left (by omega)⟩
        · rw [if_neg ci, if_neg ci]
