/-! the quarrel: the class's walks -/
def okB (B : Int) (x : Int64) : Prop := x.toInt = 1152921504606846976 ∨ (-B ≤ x.toInt ∧ x.toInt ≤ B)
theorem okB_v {B : Int} {x : Int64} (hB : B < 1152921504606846976) (h : okB B x) : (x.toInt = 1152921504606846976 ∧ vC x = none) ∨ ((-B ≤ x.toInt ∧ x.toInt ≤ B) ∧ vC x = some x.toInt) := by
  rcases h with h | h
  · exact Or.inl ⟨h, vC_n (by omega)⟩
  · exact Or.inr ⟨h, vC_s (by omega)⟩
theorem vC_inv {x : Int64} {y : Int} (h : vC x = some y) : x.toInt = y ∧ ¬ 1152921504606846976 ≤ x.toInt := by
  by_cases c : 1152921504606846976 ≤ x.toInt
  · rw [vC_n c] at h; cases h
  · rw [vC_s c] at h; cases h; exact ⟨rfl, c⟩
/-- the steps -/
theorem st_v {ms : Nat → Int64} {w : Nat → Nat → Option Int} {n : Nat} (h : ∀ p q, p ≤ n → q ≤ n → mC ms p q = w p q ∧ okC (ms ((p * 13) + q))) {i j : Nat} (hi : i < n) (hj : j < n) : vC (stM ms i j) = sS w i j ∧ okB 4000000 (stM ms i j) := by
  unfold stM sS
  by_cases e : i = j
  · rw [if_pos e, if_pos e]; exact ⟨vC_n (by rw [nb_i]; omega), Or.inl nb_i⟩
  · rw [if_neg e, if_neg e]
    obtain ⟨a1, a2⟩ := h (i + 1) (j + 1) (by omega) (by omega)
    obtain ⟨b1, b2⟩ := h (i + 1) 0 (by omega) (by omega)
    obtain ⟨c1, c2⟩ := h 0 (j + 1) (by omega) (by omega)
    have so : vC (stO ms i j) = oA (w (i + 1) 0) (w 0 (j + 1)) ∧ okB 4000000 (stO ms i j) := by
      unfold stO
      unfold mC at b1 c1
      rw [← b1, ← c1]
      rcases okC_vC b2 with ⟨x1, x2⟩ | ⟨x1, x2⟩
      · rw [if_neg (fun z => z.1 (by omega)), x2]; exact ⟨vC_n (by rw [nb_i]; omega), Or.inl nb_i⟩
      · rcases okC_vC c2 with ⟨y1, y2⟩ | ⟨y1, y2⟩
        · rw [if_neg (fun z => z.2 (by omega)), x2, y2]; exact ⟨vC_n (by rw [nb_i]; omega), Or.inl nb_i⟩
        · rw [if_pos ⟨by omega, by omega⟩, x2, y2]
          have es := addL_in (x := ms ((i + 1) * 13 + 0)) (y := ms (0 * 13 + (j + 1))) (by omega) (by omega)
          refine ⟨?_, Or.inr (by omega)⟩
          rw [vC_s (by omega), es]; rfl
    unfold mC at a1
    rw [← a1, ← so.1]
    unfold mnL
    rcases okC_vC a2 with ⟨x1, x2⟩ | ⟨x1, x2⟩ <;> rcases okB_v (by omega) so.2 with ⟨y1, y2⟩ | ⟨y1, y2⟩
    · rw [if_neg (fun z => by have := Int64.lt_iff_toInt_lt.mp z; omega), x2, y2]; exact ⟨rfl, Or.inl x1⟩
    · rw [if_pos (Int64.lt_iff_toInt_lt.mpr (by omega)), x2, y2]; exact ⟨rfl, Or.inr y1⟩
    · rw [if_neg (fun z => by have := Int64.lt_iff_toInt_lt.mp z; omega), x2, y2]; exact ⟨rfl, Or.inr (by omega)⟩
    · rw [x2, y2]
      by_cases c : stO ms i j < ms ((i + 1) * 13 + (j + 1))
      · have c2 := Int64.lt_iff_toInt_lt.mp c
        rw [if_pos c, y2]
        refine ⟨?_, Or.inr y1⟩
        show _ = some (if _ then _ else _)
        rw [if_neg (by omega)]
      · have c2 : ¬ (stO ms i j).toInt < (ms ((i + 1) * 13 + (j + 1))).toInt := fun z => c (Int64.lt_iff_toInt_lt.mpr z)
        rw [if_neg c, x2]
        refine ⟨?_, Or.inr (by omega)⟩
        show _ = some (if _ then _ else _)
        rw [if_pos (by omega)]
section WLK
variable {ST : Nat → Nat → Int64} {s : Nat → Nat → Option Int} {b : Int32} {n : Nat}
/-- one more step, over the first k nodes -/
theorem lwE_ok {W : Nat → Nat → Int64} {B : Int} (hB0 : 0 ≤ B) (hB : B ≤ 100000000) (hS : ∀ i j, i < n → j < n → vC (ST i j) = s i j ∧ okB 4000000 (ST i j)) (hn : n ≤ 12) {a t : Nat} (ha : a < n) (ht : t < n) (hW : ∀ v, v < n → okB B (W a v)) :
    ∀ k, k ≤ n → okB (B + 4000000) (lwE W ST b a t k) ∧ (∀ x, vC (lwE W ST b a t k) = some x → bitB b t = true ∧ ∃ v y z, v < k ∧ vC (W a v) = some y ∧ s v t = some z ∧ y + z = x) ∧ ∀ v y z, v < k → bitB b t = true → vC (W a v) = some y → s v t = some z → ∃ x, vC (lwE W ST b a t k) = some x ∧ x ≤ y + z
  | 0, _ => by
    refine ⟨Or.inl nb_i, fun x hx => ?_, fun v y z hv => absurd hv (by omega)⟩
    rw [show lwE W ST b a t 0 = 1152921504606846976 from rfl, vC_n (by rw [nb_i]; omega)] at hx; cases hx
  | k + 1, hk => by
    obtain ⟨i1, i2, i3⟩ := lwE_ok hB0 hB hS hn ha ht hW k (by omega)
    have hw := hW k (by omega)
    obtain ⟨s1, s2⟩ := hS k t (by omega) ht
    have eE : lwE W ST b a t (k + 1) = if 1152921504606846976 ≤ (W a k).toInt then lwE W ST b a t k else lwS (lwE W ST b a t k) (W a k) (ST k t) b t := rfl
    by_cases c : 1152921504606846976 ≤ (W a k).toInt
    · rw [eE, if_pos c]
      refine ⟨i1, fun x hx => ?_, fun v y z hv hb h1 h2 => ?_⟩
      · obtain ⟨j1, v, y, z, j2, j3⟩ := i2 x hx
        exact ⟨j1, v, y, z, by omega, j3⟩
      · rcases Nat.lt_or_ge v k with q | q
        · exact i3 v y z q hb h1 h2
        · have e : v = k := by omega
          subst e
          rw [vC_n c] at h1; cases h1
    · rw [eE, if_neg c]
      unfold lwS
      have hw2 : -B ≤ (W a k).toInt ∧ (W a k).toInt ≤ B := by rcases hw with z | z; omega; exact z
      by_cases d : ¬ (b >>> (nI t &&& 31)) &&& 1 = 0 ∧ ¬ 1152921504606846976 ≤ (ST k t).toInt ∧ ¬ (lwE W ST b a t k).toInt ≤ (W a k + ST k t).toInt
      · rw [if_pos d]
        have sb : -4000000 ≤ (ST k t).toInt ∧ (ST k t).toInt ≤ 4000000 := by rcases s2 with z | z; exact absurd (by omega) d.2.1; exact z
        have es := addL_in (x := W a k) (y := ST k t) (by omega) (by omega)
        have ev : vC (W a k + ST k t) = some ((W a k).toInt + (ST k t).toInt) := by rw [vC_s (by omega), es]
        have bt : bitB b t = true := (bit0_f (by omega)).mp d.1
        refine ⟨Or.inr (by omega), fun x hx => ?_, fun v y z hv hb h1 h2 => ?_⟩
        · rw [ev] at hx
          cases hx
          refine ⟨bt, k, (W a k).toInt, (ST k t).toInt, by omega, vC_s c, ?_, rfl⟩
          rw [← s1]; exact vC_s d.2.1
        · refine ⟨_, ev, ?_⟩
          rcases Nat.lt_or_ge v k with q | q
          · obtain ⟨x, hx, hl⟩ := i3 v y z q hb h1 h2
            have := (vC_inv hx).1
            have := d.2.2
            omega
          · have e : v = k := by omega
            subst e
            have e1 := (vC_inv h1).1
            rw [← s1] at h2
            have e2 := (vC_inv h2).1
            omega
      · rw [if_neg d]
        refine ⟨?_, fun x hx => ?_, fun v y z hv hb h1 h2 => ?_⟩
        · exact i1
        · obtain ⟨j1, v, y, z, j2, j3⟩ := i2 x hx
          exact ⟨j1, v, y, z, by omega, j3⟩
        · rcases Nat.lt_or_ge v k with q | q
          · exact i3 v y z q hb h1 h2
          · have e : v = k := by omega
            subst e
            have e1 := (vC_inv h1).1
            rw [← s1] at h2
            obtain ⟨e2, e3⟩ := vC_inv h2
            have sb : -4000000 ≤ (ST v t).toInt ∧ (ST v t).toInt ≤ 4000000 := by rcases s2 with z | z; omega; exact z
            have es := addL_in (x := W a v) (y := ST v t) (by omega) (by omega)
            have d3 : (lwE W ST b a t v).toInt ≤ (W a v + ST v t).toInt := Classical.byContradiction (fun z => d ⟨(bit0_f (by omega)).mpr hb, e3, z⟩)
            refine ⟨(lwE W ST b a t v).toInt, vC_s (by omega), by omega⟩
theorem concat_of {l : List Nat} {d : Nat} (h : l.length = d + 1) : ∃ q v, l = q ++ [v] ∧ q.length = d := by
  have hne : l ≠ [] := by intro z; rw [z] at h; cases h
  refine ⟨l.dropLast, l.getLast hne, (List.dropLast_concat_getLast hne).symm, ?_⟩
  rw [List.length_dropLast, h]; rfl
/-- the class's walks of d + 1 steps within b -/
theorem wk_ok (hS : ∀ i j, i < n → j < n → vC (ST i j) = s i j ∧ okB 4000000 (ST i j)) (hn : n ≤ 12) (hb : ∀ v, bitB b v = true → v < n) : ∀ (d : Nat), d ≤ 12 → ∀ i j, i < n → j < n → okB (((d : Int) + 1) * 4000000) (wkP ST b n d i j) ∧
    (∀ x, vC (wkP ST b n d i j) = some x → bitB b i = true ∧ bitB b j = true ∧ ∃ p, p.length = d ∧ (∀ v, v ∈ p → bitB b v = true) ∧ wl s i p j = some x) ∧
    ∀ p x, p.length = d → bitB b i = true → bitB b j = true → (∀ v, v ∈ p → bitB b v = true) → wl s i p j = some x → ∃ y, vC (wkP ST b n d i j) = some y ∧ y ≤ x
  | 0, _, i, j, hi, hj => by
    show okB _ (swM ST b i j) ∧ (∀ x, vC (swM ST b i j) = some x → _) ∧ ∀ p x, _ → _ → _ → _ → _ → ∃ y, vC (swM ST b i j) = some y ∧ y ≤ x
    unfold swM
    obtain ⟨s1, s2⟩ := hS i j hi hj
    by_cases c : ¬ (b >>> (nI i &&& 31)) &&& 1 = 0 ∧ ¬ (b >>> (nI j &&& 31)) &&& 1 = 0
    · rw [if_pos c]
      refine ⟨?_, fun x hx => ⟨(bit0_f (by omega)).mp c.1, (bit0_f (by omega)).mp c.2, [], rfl, fun v z => (by cases z), ?_⟩, fun p x hp _ _ _ hx => ?_⟩
      · rcases s2 with z | z
        · exact Or.inl z
        · exact Or.inr (by omega)
      · show s i j = _; rw [← s1]; exact hx
      · have : p = [] := List.eq_nil_of_length_eq_zero hp
        subst this
        exact ⟨x, s1.trans hx, Int.le_refl _⟩
    · rw [if_neg c]
      refine ⟨Or.inl nb_i, fun x hx => ?_, fun p x hp h1 h2 _ hx => ?_⟩
      · rw [vC_n (by rw [nb_i]; omega)] at hx; cases hx
      · exact absurd ⟨(bit0_f (by omega)).mpr h1, (bit0_f (by omega)).mpr h2⟩ c
  | d + 1, hd, i, j, hi, hj => by
    have ih := wk_ok hS hn hb d (by omega)
    obtain ⟨k1, k2, k3⟩ := lwE_ok (b := b) (W := wkP ST b n d) (B := ((d : Int) + 1) * 4000000) (by omega) (by omega) hS hn hi hj (fun v hv => (ih i v hi hv).1) n (Nat.le_refl _)
    show okB _ (lwE (wkP ST b n d) ST b i j n) ∧ (∀ x, vC (lwE (wkP ST b n d) ST b i j n) = some x → _) ∧ ∀ p x, _ → _ → _ → _ → _ → ∃ y, vC (lwE (wkP ST b n d) ST b i j n) = some y ∧ y ≤ x
    refine ⟨?_, fun x hx => ?_, fun p x hp h1 h2 h3 hx => ?_⟩
    · rcases k1 with z | z
      · exact Or.inl z
      · exact Or.inr (by omega)
    · obtain ⟨j1, v, y, z, j2, j3, j4, j5⟩ := k2 x hx
      obtain ⟨m1, m2, p, m3, m4, m5⟩ := (ih i v hi j2).2.1 y j3
      refine ⟨m1, j1, p ++ [v], by rw [List.length_append, m3]; rfl, fun u hu => ?_, ?_⟩
      · rcases List.mem_append.mp hu with q | q
        · exact m4 u q
        · rw [List.mem_singleton.mp q]; exact m2
      · rw [wl_app, m5]
        show oA (some y) (s v j) = _
        rw [j4, ← j5]; rfl
    · obtain ⟨q, v, rfl, hq⟩ := concat_of hp
      rw [wl_app] at hx
      obtain ⟨y, z, y1, z1, yz⟩ := oA_some hx
      have hv : bitB b v = true := h3 v (List.mem_append_right _ List.mem_cons_self)
      have lv := hb v hv
      obtain ⟨y', m1, m2⟩ := (ih i v hi lv).2.2 q y hq h1 hv (fun u hu => h3 u (List.mem_append_left _ hu)) y1
      obtain ⟨x', n1, n2⟩ := k3 v y' z lv h2 m1 z1
      exact ⟨x', n1, by omega⟩
theorem sb_bit (M : Nat → Nat → Int64) {i : Nat} (hi : i < 32) : ∀ k, k ≤ 32 → bitB (sbM M k) i = decide (i < k ∧ (M i i).toInt < 0)
  | 0, _ => by rw [decide_eq_false (by omega)]; exact bitB_0 i
  | k + 1, hk => by
    have ih := sb_bit M hi k (by omega)
    rw [sbM_s]
    by_cases c : (M k k).toInt < 0
    · rw [if_pos c, bitB_or, ih, bitB_1 k (by omega) i hi]
      by_cases e : i = k
      · subst e
        rw [decide_eq_true (p := i = i) rfl, Bool.or_true]
        exact (decide_eq_true ⟨by omega, c⟩).symm
      · rw [decide_eq_false e, Bool.or_false]
        exact decide_eq_decide.mpr ⟨fun z => ⟨by omega, z.2⟩, fun z => ⟨by omega, z.2⟩⟩
    · rw [if_neg c, ih]
      refine decide_eq_decide.mpr ⟨fun z => ⟨by omega, z.2⟩, fun z => ⟨?_, z.2⟩⟩
      rcases Nat.lt_or_ge i k with q | q
      · exact q
      · have e : i = k := by omega
        exact absurd (e ▸ z.2) c
theorem bitB_big (x : Int32) {i : Nat} (h : 32 ≤ i) : bitB x i = false := BitVec.getLsbD_of_ge _ _ h
/-- starts of closed walks below 0 -/
theorem ora_iff (hS : ∀ i j, i < n → j < n → vC (ST i j) = s i j ∧ okB 4000000 (ST i j)) (hn : n ≤ 12) (hb : ∀ v, bitB b v = true → v < n) {d : Nat} (hd : d ≤ 12) (i : Nat) : bitB (oraM ST n b d) i = true ↔ NC s (bitB b) d i := by
  rcases Nat.lt_or_ge i 32 with hi | hi
  · unfold oraM
    rw [sb_bit _ hi n (by omega), decide_eq_true_iff]
    constructor
    · rintro ⟨h1, h2⟩
      obtain ⟨k1, k2, k3⟩ := wk_ok hS hn hb d hd i i h1 h1
      obtain ⟨m1, m2, p, m3, m4, m5⟩ := k2 (wkP ST b n d i i).toInt (vC_s (by omega))
      exact ⟨p, _, m3, m1, m4, m5, h2⟩
    · rintro ⟨p, x, h1, h2, h3, h4, h5⟩
      have l := hb i h2
      obtain ⟨y, m1, m2⟩ := (wk_ok hS hn hb d hd i i l l).2.2 p x h1 h2 h2 h3 h4
      have := (vC_inv m1).1
      exact ⟨l, by omega⟩
  · rw [bitB_big _ hi]
    constructor
    · intro z; cases z
    · rintro ⟨p, x, h1, h2, -⟩
      have := hb i h2
      omega
end WLK
