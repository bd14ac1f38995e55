/-! the class's shortest ways are those of pure part A -/
def vC (x : Int64) : Option Int := if 1152921504606846976 ≤ x.toInt then none else some x.toInt
def mC (ms : Nat → Int64) (i j : Nat) : Option Int := vC (ms ((i * 13) + j))
theorem vC_n {x : Int64} (h : 1152921504606846976 ≤ x.toInt) : vC x = none := if_pos h
theorem vC_s {x : Int64} (h : ¬ 1152921504606846976 ≤ x.toInt) : vC x = some x.toInt := if_neg h
theorem ix13 {i j a b : Nat} (hj : j < 13) (hb : b < 13) (h : (i * 13) + j = (a * 13) + b) : i = a ∧ j = b := by omega
theorem addL_in {x y : Int64} (h1 : -9223372036854775808 ≤ x.toInt + y.toInt) (h2 : x.toInt + y.toInt < 9223372036854775808) : (x + y).toInt = x.toInt + y.toInt := by
  rw [Int64.toInt_add]
  exact Int.bmod_eq_of_le (by omega) (by omega)
/-- finite entries are at most B -/
def BdC (B : Int) (n : Nat) (ms : Nat → Int64) : Prop := ∀ i j, i < n → j < n → ∀ x, mC ms i j = some x → -B ≤ x ∧ x ≤ B
def trE (cur x s : Int64) : Int64 := if ¬ 1152921504606846976 ≤ s.toInt ∧ ¬ cur.toInt ≤ (x + s).toInt then x + s else cur
theorem trS_at (ms : Nat → Int64) (a v : Nat) (x : Int64) (t p q : Nat) (hq : q < 13) (ht : t < 13) : trS ms a v x t ((p * 13) + q) = if p = a ∧ q = t then trE (ms ((a * 13) + t)) x (ms ((v * 13) + t)) else ms ((p * 13) + q) := by
  unfold trS trE
  by_cases c : ¬ 1152921504606846976 ≤ (ms ((v * 13) + t)).toInt ∧ ¬ (ms ((a * 13) + t)).toInt ≤ (x + ms ((v * 13) + t)).toInt
  · rw [if_pos c, if_pos c]
    by_cases e : p = a ∧ q = t
    · obtain ⟨rfl, rfl⟩ := e; rw [if_pos ⟨rfl, rfl⟩, updL_hit]
    · rw [if_neg e, updL_ne _ _ (fun z => e (ix13 hq ht z))]
  · rw [if_neg c, if_neg c]
    by_cases e : p = a ∧ q = t
    · obtain ⟨rfl, rfl⟩ := e; rw [if_pos ⟨rfl, rfl⟩]
    · rw [if_neg e]
theorem trF_s (ms : Nat → Int64) (a v : Nat) (x : Int64) (t : Nat) : trF ms a v x (t + 1) = trS (trF ms a v x t) a v x t := by rw [trF]
theorem trF_ok1 {ms : Nat → Int64} {a v : Nat} {x : Int64} (hav : a ≠ v) : ∀ (k : Nat), k ≤ 13 → ∀ p q, q < 13 → trF ms a v x k ((p * 13) + q) = if p = a ∧ q < k then trE (ms ((a * 13) + q)) x (ms ((v * 13) + q)) else ms ((p * 13) + q)
  | 0, _, p, q, hq => by rw [if_neg (by omega)]; rfl
  | k + 1, hk, p, q, hq => by
    have ih := trF_ok1 (ms := ms) (x := x) hav k (by omega)
    have ea : trF ms a v x k ((a * 13) + k) = ms ((a * 13) + k) := by rw [ih a k (by omega), if_neg (by omega)]
    have ev : trF ms a v x k ((v * 13) + k) = ms ((v * 13) + k) := by rw [ih v k (by omega), if_neg (fun z => hav z.1.symm)]
    rw [trF_s, trS_at _ _ _ _ _ _ _ hq (by omega), ea, ev, ih p q hq]
    by_cases e : p = a ∧ q = k
    · obtain ⟨rfl, rfl⟩ := e
      rw [if_pos ⟨rfl, rfl⟩, if_pos ⟨rfl, by omega⟩]
    · rw [if_neg e]
      by_cases z : p = a ∧ q < k
      · rw [if_pos z, if_pos ⟨z.1, by omega⟩]
      · rw [if_neg z, if_neg (by omega)]
theorem trF_ok2 {ms : Nat → Int64} {v n : Nat} {x : Int64} (hx : ∀ q, q < n → ¬ 1152921504606846976 ≤ (ms ((v * 13) + q)).toInt → (ms ((v * 13) + q)).toInt ≤ (x + ms ((v * 13) + q)).toInt) : ∀ (k : Nat), k ≤ 13 → k ≤ n → ∀ p q, q < 13 → trF ms v v x k ((p * 13) + q) = ms ((p * 13) + q)
  | 0, _, _, p, q, hq => rfl
  | k + 1, hk, hn, p, q, hq => by
    have ih := trF_ok2 hx k (by omega) (by omega)
    rw [trF_s, trS_at _ _ _ _ _ _ _ hq (by omega), ih v k (by omega), ih p q hq]
    by_cases e : p = v ∧ q = k
    · obtain ⟨rfl, rfl⟩ := e
      rw [if_pos ⟨rfl, rfl⟩]
      unfold trE
      by_cases c : 1152921504606846976 ≤ (ms ((p * 13) + q)).toInt
      · rw [if_neg (fun z => z.1 c)]
      · rw [if_neg (fun z => z.2 (hx q (by omega) c))]
    · rw [if_neg e]
/-- one step by v, entry by entry -/
def stC (ms : Nat → Int64) (v p q : Nat) : Int64 := if (ms ((p * 13) + v)).toInt < 1152921504606846976 then trE (ms ((p * 13) + q)) (ms ((p * 13) + v)) (ms ((v * 13) + q)) else ms ((p * 13) + q)
theorem viF_s (ms : Nat → Int64) (v N a : Nat) : viF ms v N (a + 1) = rwF (viF ms v N a) a v N := by rw [viF]
theorem viF_ok {ms : Nat → Int64} {v N : Nat} (hN : N ≤ 13) (hv : v < N) (hrow : ∀ q, q < N → stC ms v v q = ms ((v * 13) + q)) (hcol : ∀ p, p < N → stC ms v p v = ms ((p * 13) + v)) (hdg : (ms ((v * 13) + v)).toInt < 1152921504606846976 → ∀ q, q < N → ¬ 1152921504606846976 ≤ (ms ((v * 13) + q)).toInt → (ms ((v * 13) + q)).toInt ≤ (ms ((v * 13) + v) + ms ((v * 13) + q)).toInt) :
    ∀ (k : Nat), k ≤ N → ∀ p q, p < N → q < N → viF ms v N k ((p * 13) + q) = if p < k then stC ms v p q else ms ((p * 13) + q)
  | 0, _, p, q, hp, hq => by rw [if_neg (by omega)]; rfl
  | k + 1, hk, p, q, hp, hq => by
    have ih := viF_ok hN hv hrow hcol hdg k (by omega)
    have rv : ∀ q, q < N → viF ms v N k ((v * 13) + q) = ms ((v * 13) + q) := by
      intro q hq
      rw [ih v q hv hq]
      split
      · exact hrow q hq
      · rfl
    have rk : ∀ q, q < N → viF ms v N k ((k * 13) + q) = ms ((k * 13) + q) := fun q hq => by rw [ih k q (by omega) hq, if_neg (by omega)]
    rw [viF_s]
    unfold rwF
    rw [rk v hv]
    by_cases c : (ms ((k * 13) + v)).toInt < 1152921504606846976
    · rw [if_pos c]
      by_cases e : k = v
      · subst e
        rw [trF_ok2 (n := N) (fun q hq hf => by rw [rk q hq]; rw [rk q hq] at hf; exact hdg c q hq hf) N hN (Nat.le_refl N) p q (by omega), ih p q hp hq]
        by_cases z : p < k
        · rw [if_pos z, if_pos (by omega)]
        · rw [if_neg z]
          by_cases z2 : p = k
          · subst z2; rw [if_pos (by omega), hrow q hq]
          · rw [if_neg (by omega)]
      · rw [trF_ok1 e N hN p q (by omega), rk q hq, rv q hq, ih p q hp hq]
        by_cases z : p = k
        · subst z
          rw [if_pos ⟨rfl, hq⟩, if_pos (by omega)]
          unfold stC; rw [if_pos c]
        · rw [if_neg (fun y => z y.1)]
          by_cases z2 : p < k
          · rw [if_pos z2, if_pos (by omega)]
          · rw [if_neg z2, if_neg (by omega)]
    · rw [if_neg c, ih p q hp hq]
      by_cases z : p = k
      · subst z
        rw [if_neg (by omega), if_pos (by omega)]
        unfold stC; rw [if_neg c]
      · by_cases z2 : p < k
        · rw [if_pos z2, if_pos (by omega)]
        · rw [if_neg z2, if_neg (by omega)]
/-- a step's entry, in numbers -/
theorem stC_v {ms : Nat → Int64} {B : Int} {N v p q : Nat} (hB : B ≤ 1000000000000000) (hb : BdC B N ms) (hv : v < N) (hp : p < N) (hq : q < N) : vC (stC ms v p q) = stp v (mC ms) p q ∧ (∀ x, vC (stC ms v p q) = some x → -(2 * B) ≤ x ∧ x ≤ 2 * B) := by
  have b1 : ∀ x, mC ms p v = some x → -B ≤ x ∧ x ≤ B := hb p v hp hv
  have b2 : ∀ x, mC ms v q = some x → -B ≤ x ∧ x ≤ B := hb v q hv hq
  have b3 : ∀ x, mC ms p q = some x → -B ≤ x ∧ x ≤ B := hb p q hp hq
  unfold stp mC at *
  unfold stC
  by_cases c1 : (ms ((p * 13) + v)).toInt < 1152921504606846976
  · rw [if_pos c1]
    rw [vC_s (show ¬ 1152921504606846976 ≤ (ms ((p * 13) + v)).toInt by omega)] at b1 ⊢
    have d1 := b1 _ rfl
    unfold trE
    by_cases c2 : 1152921504606846976 ≤ (ms ((v * 13) + q)).toInt
    · rw [if_neg (fun z => z.1 c2), vC_n c2]
      refine ⟨?_, fun x hx => ?_⟩
      · cases vC (ms ((p * 13) + q)) <;> rfl
      · have := b3 x hx; omega
    · rw [vC_s c2] at b2 ⊢
      have d2 := b2 _ rfl
      have es : (ms ((p * 13) + v) + ms ((v * 13) + q)).toInt = (ms ((p * 13) + v)).toInt + (ms ((v * 13) + q)).toInt := addL_in (by omega) (by omega)
      by_cases c3 : (ms ((p * 13) + q)).toInt ≤ (ms ((p * 13) + v) + ms ((v * 13) + q)).toInt
      · rw [if_neg (fun z => z.2 c3)]
        have c4 : ¬ 1152921504606846976 ≤ (ms ((p * 13) + q)).toInt := by omega
        rw [vC_s c4]
        refine ⟨?_, fun x hx => ?_⟩
        · show _ = some (if _ then _ else _)
          rw [if_pos (by omega)]
        · cases hx; have := b3 _ (vC_s c4); omega
      · rw [if_pos ⟨c2, c3⟩, vC_s (by omega), es]
        refine ⟨?_, fun x hx => ?_⟩
        · by_cases c4 : 1152921504606846976 ≤ (ms ((p * 13) + q)).toInt
          · rw [vC_n c4]; rfl
          · rw [vC_s c4]
            show _ = some (if _ then _ else _)
            rw [if_neg (by omega)]
        · cases hx; omega
  · rw [if_neg c1]
    rw [vC_n (show 1152921504606846976 ≤ (ms ((p * 13) + v)).toInt by omega)]
    refine ⟨?_, fun x hx => ?_⟩
    · cases vC (ms ((p * 13) + q)) <;> rfl
    · have := b3 x hx; omega
theorem nn_at {ms : Nat → Int64} {v : Nat} (h : oL (some 0) (mC ms v v)) : 0 ≤ (ms ((v * 13) + v)).toInt := by
  unfold mC at h
  by_cases c : 1152921504606846976 ≤ (ms ((v * 13) + v)).toInt
  · omega
  · rw [vC_s c] at h
    obtain ⟨x, hx, h2⟩ := h _ rfl
    cases hx; exact h2
/-- one round of the class by v is a step of part A -/
theorem viF_v {ms : Nat → Int64} {B : Int} {v N : Nat} (hN : N ≤ 13) (hv : v < N) (hB0 : 0 ≤ B) (hB : B ≤ 1000000000000000) (hb : BdC B N ms) (hd : oL (some 0) (mC ms v v)) : (∀ p q, p < N → q < N → mC (viF ms v N N) p q = stp v (mC ms) p q) ∧ BdC (2 * B) N (viF ms v N N) := by
  have h0 := nn_at hd
  have hdg : (ms ((v * 13) + v)).toInt < 1152921504606846976 → ∀ q, q < N → ¬ 1152921504606846976 ≤ (ms ((v * 13) + q)).toInt → (ms ((v * 13) + q)).toInt ≤ (ms ((v * 13) + v) + ms ((v * 13) + q)).toInt := by
    intro hf q hq hq2
    have d1 := hb v v hv hv _ (vC_s (show ¬ 1152921504606846976 ≤ (ms ((v * 13) + v)).toInt by omega))
    have d2 := hb v q hv hq _ (vC_s hq2)
    rw [addL_in (by omega) (by omega)]
    omega
  have hrow : ∀ q, q < N → stC ms v v q = ms ((v * 13) + q) := by
    intro q hq
    unfold stC
    by_cases c : (ms ((v * 13) + v)).toInt < 1152921504606846976
    · rw [if_pos c]
      unfold trE
      by_cases c2 : 1152921504606846976 ≤ (ms ((v * 13) + q)).toInt
      · rw [if_neg (fun z => z.1 c2)]
      · rw [if_neg (fun z => z.2 (hdg c q hq c2))]
    · rw [if_neg c]
  have hcol : ∀ p, p < N → stC ms v p v = ms ((p * 13) + v) := by
    intro p hp
    unfold stC
    by_cases c : (ms ((p * 13) + v)).toInt < 1152921504606846976
    · rw [if_pos c]
      unfold trE
      by_cases c2 : 1152921504606846976 ≤ (ms ((v * 13) + v)).toInt
      · rw [if_neg (fun z => z.1 c2)]
      · have d1 := hb v v hv hv _ (vC_s c2)
        have d2 := hb p v hp hv _ (vC_s (show ¬ 1152921504606846976 ≤ (ms ((p * 13) + v)).toInt by omega))
        rw [if_neg (fun z => z.2 (by rw [addL_in (by omega) (by omega)]; omega))]
    · rw [if_neg c]
  have key : ∀ p q, p < N → q < N → viF ms v N N ((p * 13) + q) = stC ms v p q := fun p q hp hq => by rw [viF_ok hN hv hrow hcol hdg N (Nat.le_refl N) p q hp hq, if_pos hp]
  refine ⟨fun p q hp hq => ?_, fun p q hp hq x hx => ?_⟩
  · show vC _ = _
    rw [key p q hp hq]; exact (stC_v hB hb hv hp hq).1
  · have hx : vC (viF ms v N N ((p * 13) + q)) = some x := hx
    rw [key p q hp hq] at hx
    exact (stC_v hB hb hv hp hq).2 x hx
