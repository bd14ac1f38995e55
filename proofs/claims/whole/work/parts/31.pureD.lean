/-! the reference's shortest ways are those of part A -/
def vM (x : Int64) : Option Int := if x.toInt = 1152921504606846976 then none else some x.toInt
def mM (ms : Nat → Int64) (i j : Nat) : Option Int := vM (ms ((13 * i) + j))
theorem vM_n {x : Int64} (h : x.toInt = 1152921504606846976) : vM x = none := if_pos h
theorem vM_s {x : Int64} (h : ¬ x.toInt = 1152921504606846976) : vM x = some x.toInt := if_neg h
def BdM (B : Int) (ms : Nat → Int64) : Prop := ∀ i j, i < 13 → j < 13 → ∀ x, mM ms i j = some x → -B ≤ x ∧ x ≤ B
def mS (ms : Nat → Int64) (m p q : Nat) : Int64 :=
  if (ms ((13 * p) + m)).toInt = 1152921504606846976 then ms ((13 * p) + q) else if (ms ((13 * m) + q)).toInt = 1152921504606846976 then ms ((13 * p) + q) else if (ms ((13 * p) + q)).toInt ≤ (ms ((13 * p) + m) + ms ((13 * m) + q)).toInt then ms ((13 * p) + q) else ms ((13 * p) + m) + ms ((13 * m) + q)
theorem fwS_at (ms : Nat → Int64) (m k r : Nat) : fwS ms m k r = if r = k then (if (ms (((k / 13) * 13) + m)).toInt = 1152921504606846976 then ms k else if (ms ((13 * m) + (k % 13))).toInt = 1152921504606846976 then ms k else if (ms k).toInt ≤ (ms (((k / 13) * 13) + m) + ms ((13 * m) + (k % 13))).toInt then ms k else ms (((k / 13) * 13) + m) + ms ((13 * m) + (k % 13))) else ms r := by
  unfold fwS
  by_cases e : r = k
  · subst e
    rw [if_pos rfl]
    split
    · rfl
    · split
      · rfl
      · split
        · rfl
        · rw [updL_hit]
  · rw [if_neg e]
    split
    · rfl
    · split
      · rfl
      · split
        · rfl
        · rw [updL_ne _ _ e]
theorem fwK_ok {ms : Nat → Int64} {m : Nat} (hm : m < 13) (hrow : ∀ q, q < 13 → mS ms m m q = ms ((13 * m) + q)) (hcol : ∀ p, p < 13 → mS ms m p m = ms ((13 * p) + m)) : ∀ (k : Nat), k ≤ 169 → ∀ r, r < 169 → fwK ms m k r = if r < k then mS ms m (r / 13) (r % 13) else ms r
  | 0, _, r, hr => by rw [if_neg (by omega)]; rw [fwK]
  | k + 1, hk, r, hr => by
    have ih := fwK_ok hm hrow hcol k (by omega)
    have e1 : fwK ms m k (((k / 13) * 13) + m) = ms ((13 * (k / 13)) + m) := by
      rw [ih _ (by omega)]
      have d1 : ((k / 13) * 13 + m) / 13 = k / 13 := by omega
      have d2 : ((k / 13) * 13 + m) % 13 = m := by omega
      rw [d1, d2, hcol (k / 13) (by omega), show (k / 13) * 13 + m = 13 * (k / 13) + m by omega]
      split <;> rfl
    have e2 : fwK ms m k ((13 * m) + (k % 13)) = ms ((13 * m) + (k % 13)) := by
      rw [ih _ (by omega)]
      have d1 : ((13 * m) + (k % 13)) / 13 = m := by omega
      have d2 : ((13 * m) + (k % 13)) % 13 = k % 13 := by omega
      rw [d1, d2, hrow (k % 13) (by omega)]
      split <;> rfl
    have e3 : fwK ms m k k = ms k := by rw [ih k (by omega), if_neg (by omega)]
    rw [fwK_s, fwS_at, e1, e2, e3]
    by_cases e : r = k
    · subst e
      rw [if_pos rfl, show (if r < r + 1 then mS ms m (r / 13) (r % 13) else ms r) = mS ms m (r / 13) (r % 13) from if_pos (by omega)]
      unfold mS
      rw [show 13 * (r / 13) + r % 13 = r by omega]
    · rw [if_neg e, ih r hr]
      by_cases z : r < k
      · rw [if_pos z, if_pos (by omega)]
      · rw [if_neg z, if_neg (by omega)]
theorem mS_v {ms : Nat → Int64} {B : Int} {m p q : Nat} (hB : B ≤ 1000000000000000) (hb : BdM B ms) (hm : m < 13) (hp : p < 13) (hq : q < 13) : vM (mS ms m p q) = stp m (mM ms) p q ∧ ∀ x, vM (mS ms m p q) = some x → -(2 * B) ≤ x ∧ x ≤ 2 * B := by
  have b1 : ∀ x, mM ms p m = some x → -B ≤ x ∧ x ≤ B := hb p m hp hm
  have b2 : ∀ x, mM ms m q = some x → -B ≤ x ∧ x ≤ B := hb m q hm hq
  have b3 : ∀ x, mM ms p q = some x → -B ≤ x ∧ x ≤ B := hb p q hp hq
  unfold stp mM at *
  unfold mS
  by_cases c1 : (ms ((13 * p) + m)).toInt = 1152921504606846976
  · rw [if_pos c1, vM_n c1]
    refine ⟨?_, fun x hx => ?_⟩
    · cases vM (ms ((13 * p) + q)) <;> rfl
    · have := b3 x hx; omega
  · rw [if_neg c1]
    rw [vM_s c1] at b1 ⊢
    have d1 := b1 _ rfl
    by_cases c2 : (ms ((13 * m) + q)).toInt = 1152921504606846976
    · rw [if_pos c2, vM_n c2]
      refine ⟨?_, fun x hx => ?_⟩
      · cases vM (ms ((13 * p) + q)) <;> rfl
      · have := b3 x hx; omega
    · rw [if_neg c2]
      rw [vM_s c2] at b2 ⊢
      have d2 := b2 _ rfl
      have es : (ms ((13 * p) + m) + ms ((13 * m) + q)).toInt = (ms ((13 * p) + m)).toInt + (ms ((13 * m) + q)).toInt := addL_in (by omega) (by omega)
      by_cases c3 : (ms ((13 * p) + q)).toInt ≤ (ms ((13 * p) + m) + ms ((13 * m) + q)).toInt
      · rw [if_pos c3]
        have c4 : ¬ (ms ((13 * p) + q)).toInt = 1152921504606846976 := by omega
        rw [vM_s c4]
        refine ⟨?_, fun x hx => ?_⟩
        · show _ = some (if _ then _ else _)
          rw [if_pos (by omega)]
        · cases hx; have := b3 _ (vM_s c4); omega
      · rw [if_neg c3, vM_s (by omega), es]
        refine ⟨?_, fun x hx => ?_⟩
        · by_cases c4 : (ms ((13 * p) + q)).toInt = 1152921504606846976
          · rw [vM_n c4]; rfl
          · rw [vM_s c4]
            show _ = some (if _ then _ else _)
            rw [if_neg (by omega)]
        · cases hx; omega
theorem nn_atM {ms : Nat → Int64} {v : Nat} (h : oL (some 0) (mM ms v v)) : 0 ≤ (ms ((13 * v) + v)).toInt := by
  unfold mM at h
  by_cases c : (ms ((13 * v) + v)).toInt = 1152921504606846976
  · omega
  · rw [vM_s c] at h
    obtain ⟨x, hx, h2⟩ := h _ rfl
    cases hx; exact h2
theorem nn_ofM {ms : Nat → Int64} {i : Nat} (h : 0 ≤ (ms ((13 * i) + i)).toInt) : oL (some 0) (mM ms i i) := by
  unfold mM
  by_cases c : (ms ((13 * i) + i)).toInt = 1152921504606846976
  · rw [vM_n c]; exact oL_none _
  · rw [vM_s c]; exact oL_some h
theorem fwK_v {ms : Nat → Int64} {B : Int} {m : Nat} (hm : m < 13) (hB0 : 0 ≤ B) (hB : B ≤ 1000000000000000) (hb : BdM B ms) (hd : oL (some 0) (mM ms m m)) : (∀ p q, p < 13 → q < 13 → mM (fwK ms m 169) p q = stp m (mM ms) p q) ∧ BdM (2 * B) (fwK ms m 169) := by
  have h0 := nn_atM hd
  have hrow : ∀ q, q < 13 → mS ms m m q = ms ((13 * m) + q) := by
    intro q hq
    unfold mS
    split
    · rfl
    · split
      · rfl
      · rename_i c1 c2
        have d1 := hb m m hm hm _ (vM_s c1)
        have d2 := hb m q hm hq _ (vM_s c2)
        rw [if_pos (by rw [addL_in (by omega) (by omega)]; omega)]
  have hcol : ∀ p, p < 13 → mS ms m p m = ms ((13 * p) + m) := by
    intro p hp
    unfold mS
    split
    · rfl
    · split
      · rfl
      · rename_i c1 c2
        have d1 := hb p m hp hm _ (vM_s c1)
        have d2 := hb m m hm hm _ (vM_s c2)
        rw [if_pos (by rw [addL_in (by omega) (by omega)]; omega)]
  have key : ∀ p q, p < 13 → q < 13 → fwK ms m 169 ((13 * p) + q) = mS ms m p q := by
    intro p q hp hq
    have hr : (13 * p) + q < 169 := by omega
    rw [fwK_ok hm hrow hcol 169 (Nat.le_refl _) _ hr, if_pos hr]
    have d1 : ((13 * p) + q) / 13 = p := by omega
    have d2 : ((13 * p) + q) % 13 = q := by omega
    rw [d1, d2]
  refine ⟨fun p q hp hq => ?_, fun p q hp hq x hx => ?_⟩
  · show vM _ = _
    rw [key p q hp hq]; exact (mS_v hB hb hm hp hq).1
  · have hx : vM (fwK ms m 169 ((13 * p) + q)) = some x := hx
    rw [key p q hp hq] at hx
    exact (mS_v hB hb hm hp hq).2 x hx
theorem fwS_le (ms : Nat → Int64) (m k r : Nat) : (fwS ms m k r).toInt ≤ (ms r).toInt := by
  rw [fwS_at]
  by_cases e : r = k
  · subst e
    rw [if_pos rfl]
    split
    · exact Int.le_refl _
    · split
      · exact Int.le_refl _
      · split
        · exact Int.le_refl _
        · omega
  · rw [if_neg e]; exact Int.le_refl _
theorem fwK_le (ms : Nat → Int64) (m r : Nat) : ∀ k, (fwK ms m k r).toInt ≤ (ms r).toInt
  | 0 => by rw [fwK]; exact Int.le_refl _
  | k + 1 => by rw [fwK_s]; exact Int.le_trans (fwS_le _ _ _ _) (fwK_le ms m r k)
theorem fwV_le (ms : Nat → Int64) (r a : Nat) : ∀ b, (fwV ms (a + b) r).toInt ≤ (fwV ms a r).toInt
  | 0 => Int.le_refl _
  | b + 1 => by rw [show a + (b + 1) = (a + b) + 1 from rfl, fwV_s]; exact Int.le_trans (fwK_le _ _ _ _) (fwV_le ms r a b)
theorem fwV_v {ms : Nat → Int64} (hb : BdM 2000000 ms) : ∀ v, v ≤ 13 → (∀ q, q < v → nnD 13 (mM (fwV ms q))) → (∀ p q, p < 13 → q < 13 → mM (fwV ms v) p q = fwO (mM ms) v p q) ∧ BdM (p2 v * 2000000) (fwV ms v)
  | 0, _, _ => ⟨fun _ _ _ _ => by rw [fwV]; rfl, fun i j hi hj x hx => by rw [fwV] at hx; have := hb i j hi hj x hx; have e : p2 0 = 1 := rfl; rw [e]; omega⟩
  | v + 1, hv, hok => by
    have ih := fwV_v hb v (by omega) (fun q hq => hok q (by omega))
    have l1 := p2_le (a := v) (b := 13) (by omega)
    have l2 := p2_pos v
    have e13 : p2 13 = 8192 := by decide
    obtain ⟨k1, k2⟩ := fwK_v (show v < 13 by omega) (by omega) (by omega) ih.2 (hok v (by omega) v (by omega))
    refine ⟨fun p q hp hq => ?_, fun i j hi hj x hx => ?_⟩
    · rw [fwV_s, k1 p q hp hq]
      show oM _ (oA _ _) = oM _ (oA _ _)
      rw [ih.1 p q hp hq, ih.1 p v hp (by omega), ih.1 v q (by omega) hq]
    · rw [fwV_s] at hx
      have := k2 i j hi hj x hx
      have e : p2 (v + 1) = 2 * p2 v := rfl
      rw [e]; omega
/-- tellBounds: true and the greatest closed matrix, or false and there is none -/
theorem allNN_w {ms g : Nat → Int64} {n : Nat} (hn : n = 13) (hg : g = fwV ms n) (hb : BdM 2000000 ms) (h0 : nnD 13 (mM ms)) :
    (allNN g 13 = true → Cl 13 (mM ms) (mM g) ∧ nnD 13 (mM g) ∧ (∀ D, Cl 13 (mM ms) D → ∀ i j, i < 13 → j < 13 → oL (D i j) (mM g i j)) ∧ BdM 20000000000 g) ∧ (¬ allNN g 13 = true → ¬ GoodW 13 (mM ms)) := by
  subst hg
  refine ⟨fun h => ?_, fun h hG => ?_⟩
  · have hnn := allNN_iff.mp h
    have all : ∀ q, q ≤ 13 → nnD 13 (mM (fwV ms q)) := by
      intro q hq i hi
      refine nn_ofM ?_
      have l := fwV_le ms ((13 * i) + i) q (n - q)
      rw [show q + (n - q) = n by omega] at l
      have := hnn i hi
      omega
    obtain ⟨k1, k2⟩ := fwV_v hb n (by omega) (fun q hq => all q (by omega))
    have gd0 : ∀ r, r = 13 → Cl 13 (mM ms) (fwO (mM ms) r) ∧ nnD 13 (fwO (mM ms) r) ∧ ∀ D, Cl 13 (mM ms) D → ∀ i j, i < 13 → j < 13 → oL (D i j) (fwO (mM ms) r i j) := by
      intro r hr
      have z := fwO_good (n := r) (w := mM ms) (fun q hq i hi => by rw [← (fwV_v hb q (by omega) (fun u hu => all u (by omega))).1 i i (by omega) (by omega)]; exact all q (by omega) i (by omega))
      refine ⟨⟨fun i j hi hj => z.1.1 i j (by omega) (by omega), fun i j k hi hj hk => z.1.2 i j k (by omega) (by omega) (by omega)⟩, fun i hi => z.2.1 i (by omega), fun D hD i j hi hj => z.2.2 D ⟨fun i j hi hj => hD.1 i j (by omega) (by omega), fun i j k hi hj hk => hD.2 i j k (by omega) (by omega) (by omega)⟩ i j (by omega) (by omega)⟩
    have gd := gd0 n hn
    refine ⟨⟨fun i j hi hj => ?_, fun i j k hi hj hk => ?_⟩, fun i hi => ?_, fun D hD i j hi hj => ?_, fun i j hi hj x hx => ?_⟩
    · rw [k1 i j hi hj]; exact gd.1.1 i j hi hj
    · rw [k1 i j hi hj, k1 i k hi hk, k1 k j hk hj]; exact gd.1.2 i j k hi hj hk
    · rw [k1 i i hi hi]; exact gd.2.1 i hi
    · rw [k1 i j hi hj]; exact gd.2.2 D hD i j hi hj
    · have := k2 i j hi hj x hx
      have e13 : p2 13 = 8192 := by decide
      have l3 := p2_le (a := n) (b := 13) (by omega)
      have l2 := p2_pos n
      omega
  · have step : ∀ q, q ≤ 13 → ∀ u, u ≤ q → nnD 13 (mM (fwV ms u)) := by
      intro q
      induction q with
      | zero =>
        intro _ u hu
        have e : u = 0 := by omega
        subst e; rw [fwV]; exact h0
      | succ q ih =>
        intro hq u hu
        rcases Nat.lt_or_ge u (q + 1) with z | z
        · exact ih (by omega) u (by omega)
        · have e : u = q + 1 := by omega
          subst e
          have k := (fwV_v hb (q + 1) hq (fun r hr => ih (by omega) r (by omega))).1
          intro i hi
          rw [k i i hi hi]
          refine Classical.byContradiction (fun hz => ?_)
          exact fwO_bad (n := 13) (m := q + 1) (w := mM ms) hq (fun y => hz (y i hi)) hG
    exact h (allNN_iff.mpr (fun i hi => nn_atM (step n (by omega) n (Nat.le_refl _) i hi)))
