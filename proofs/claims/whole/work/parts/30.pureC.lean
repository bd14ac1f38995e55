/-! what settleTimes tells, in the words of part A -/
def p2 : Nat → Int
  | 0 => 1
  | n + 1 => 2 * p2 n
theorem p2_pos : ∀ n, 0 < p2 n
  | 0 => by decide
  | n + 1 => by have := p2_pos n; show 0 < 2 * p2 n; omega
theorem p2_le : ∀ {a b : Nat}, a ≤ b → p2 a ≤ p2 b
  | a, 0, h => by have e : a = 0 := by omega
                  subst e; exact Int.le_refl _
  | a, b + 1, h => by
    rcases Nat.lt_or_ge a (b + 1) with q | q
    · have := p2_le (a := a) (b := b) (by omega)
      have h2 := p2_pos b
      show p2 a ≤ 2 * p2 b
      omega
    · have e : a = b + 1 := by omega
      subst e; exact Int.le_refl _
theorem tiF_s (m : Nat → Int64) (N v : Nat) : tiF m N (v + 1) = viF (tiF m N v) v N N := by rw [tiF]
theorem nn_of {ms : Nat → Int64} {i : Nat} (h : 0 ≤ (ms ((i * 13) + i)).toInt) : oL (some 0) (mC ms i i) := by
  unfold mC
  by_cases c : 1152921504606846976 ≤ (ms ((i * 13) + i)).toInt
  · rw [vC_n c]; exact oL_none _
  · rw [vC_s c]; exact oL_some h
theorem anyNeg_nn {ms : Nat → Int64} {N : Nat} (h : ¬ anyNeg ms N = true) : nnD N (mC ms) := fun i hi => nn_of (anyNeg_no h i hi)
theorem tiF_v {m : Nat → Int64} {N : Nat} (hN : N ≤ 13) (hb : BdC 2000000 N m) (h0 : nnD N (mC m)) : ∀ v, v ≤ N → tOK m N v → (∀ p q, p < N → q < N → mC (tiF m N v) p q = fwO (mC m) v p q) ∧ BdC (p2 v * 2000000) N (tiF m N v)
  | 0, _, _ => ⟨fun _ _ _ _ => rfl, fun i j hi hj x hx => by have := hb i j hi hj x hx; have e : p2 0 = 1 := rfl; rw [e]; omega⟩
  | v + 1, hv, hok => by
    have ih := tiF_v hN hb h0 v (by omega) (fun w hw => hok w (by omega))
    have hd : oL (some 0) (mC (tiF m N v) v v) := by
      cases v with
      | zero => exact h0 0 (by omega)
      | succ u => exact anyNeg_nn (hok u (by omega)) (u + 1) (by omega)
    have l1 := p2_le (a := v) (b := 13) (by omega)
    have l2 := p2_pos v
    have e13 : p2 13 = 8192 := by decide
    obtain ⟨k1, k2⟩ := viF_v hN (show v < N by omega) (by omega) (by omega) ih.2 hd
    refine ⟨fun p q hp hq => ?_, fun i j hi hj x hx => ?_⟩
    · rw [tiF_s, k1 p q hp hq]
      show oM _ (oA _ _) = oM _ (oA _ _)
      rw [ih.1 p q hp hq, ih.1 p v hp (by omega), ih.1 v q (by omega) hq]
    · rw [tiF_s] at hx
      have := k2 i j hi hj x hx
      have e : p2 (v + 1) = 2 * p2 v := rfl
      rw [e]; omega
theorem tOK_le {m : Nat → Int64} {N v u : Nat} (h : tOK m N v) (hu : u ≤ v) : tOK m N u := fun w hw => h w (by omega)
theorem tiF_nn {m : Nat → Int64} {N : Nat} (hN : N ≤ 13) (hb : BdC 2000000 N m) (h0 : nnD N (mC m)) {v : Nat} (hv : v ≤ N) (hok : tOK m N v) : nnD N (fwO (mC m) v) := by
  intro i hi
  rw [← (tiF_v hN hb h0 v hv hok).1 i i hi hi]
  cases v with
  | zero => exact h0 i hi
  | succ u => exact anyNeg_nn (hok u (by omega)) i hi
/-- settleTimes: 1 and the greatest closed matrix, or 0 and there is none -/
theorem tgP_v {m g : Nat → Int64} {N : Nat} {rv : Int32} (hN : N ≤ 13) (hb : BdC 2000000 N m) (h0 : nnD N (mC m)) (h : tgP m N rv g) :
    (rv = 1 ∧ Cl N (mC m) (mC g) ∧ nnD N (mC g) ∧ (∀ D, Cl N (mC m) D → ∀ i j, i < N → j < N → oL (D i j) (mC g i j)) ∧ BdC 20000000000 N g) ∨ (rv = 0 ∧ ¬ GoodW N (mC m)) := by
  rcases h with ⟨h1, h2, h3⟩ | ⟨h1, v, hv, hok, hneg⟩
  · left
    subst h2
    obtain ⟨k1, k2⟩ := tiF_v hN hb h0 N (Nat.le_refl N) h3
    have gd := fwO_good (n := N) (w := mC m) (fun q hq => tiF_nn hN hb h0 hq (tOK_le h3 hq))
    refine ⟨h1, ⟨fun i j hi hj => ?_, fun i j k hi hj hk => ?_⟩, fun i hi => ?_, fun D hD i j hi hj => ?_, fun i j hi hj x hx => ?_⟩
    · rw [k1 i j hi hj]; exact gd.1.1 i j hi hj
    · rw [k1 i j hi hj, k1 i k hi hk, k1 k j hk hj]; exact gd.1.2 i j k hi hj hk
    · rw [k1 i i hi hi]; exact gd.2.1 i hi
    · rw [k1 i j hi hj]; exact gd.2.2 D hD i j hi hj
    · have := k2 i j hi hj x hx
      have l1 := p2_le (a := N) (b := 13) hN
      have e13 : p2 13 = 8192 := by decide
      have l2 := p2_pos N
      omega
  · right
    refine ⟨h1, fun hG => ?_⟩
    have hok2 := hok
    have hd : oL (some 0) (mC (tiF m N v) v v) := by
      cases v with
      | zero => exact h0 0 (by omega)
      | succ u => exact anyNeg_nn (hok u (by omega)) (u + 1) (by omega)
    obtain ⟨i1, i2⟩ := tiF_v hN hb h0 v (by omega) hok
    have l1 := p2_le (a := v) (b := 13) (by omega)
    have l2 := p2_pos v
    have e13 : p2 13 = 8192 := by decide
    obtain ⟨k1, -⟩ := viF_v hN hv (by omega) (by omega) i2 hd
    obtain ⟨i, hi, hn⟩ := anyNeg_ex hneg
    rw [tiF_s] at hn
    refine fwO_bad (n := N) (m := v + 1) (w := mC m) (by omega) (fun hz => ?_) hG
    have hz := hz i hi
    have e : fwO (mC m) (v + 1) i i = mC (viF (tiF m N v) v N N) i i := by
      rw [k1 i i hi hi]
      show oM _ (oA _ _) = oM _ (oA _ _)
      rw [i1 i i hi hi, i1 i v hi hv, i1 v i hv hi]
    rw [e] at hz
    have := nn_at hz
    omega
