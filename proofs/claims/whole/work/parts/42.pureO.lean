/-! THE QUARREL: the least of the shortest rings -/
theorem szK_cnt (x : Int32) : ∀ k, k ≤ 32 → szK x k = nI (cnt (bitB x) k)
  | 0, _ => rfl
  | k + 1, hk => by
    show szK x k + _ = nI (cnt (bitB x) k + _)
    rw [szK_cnt x k (by omega), bv_nI _ (by omega), nI_add]
theorem cnt_ext {U : Nat → Bool} {n : Nat} (hU : ∀ v, U v = true → v < n) : ∀ m, n ≤ m → cnt U m = cnt U n
  | 0, h => by rw [show n = 0 by omega]
  | m + 1, h => by
    rcases Nat.lt_or_ge m n with q | q
    · rw [show n = m + 1 by omega]
    · rw [cnt_s, cnt_ext hU m q, if_neg (fun z => by have := hU m z; omega)]; rfl
theorem bitB_nat (x : Int32) (i : Nat) : bitB x i = x.toBitVec.toNat.testBit i := rfl
theorem nI_bv (q : Nat) (h : q < 2 ^ 32) : (nI q).toBitVec.toNat = q := by
  have e : (nI q).toBitVec = BitVec.ofNat 32 q := rfl
  rw [e, BitVec.toNat_ofNat]
  exact Nat.mod_eq_of_lt h
theorem m16_bits {x : Int32} (h : ∀ v, bitB x v = true → v < 16) : m16 x := by
  refine ⟨x.toBitVec.toNat, ?_, i32_nI x⟩
  refine Nat.lt_pow_two_of_testBit (n := 16) _ (fun i hi => ?_)
  rw [← bitB_nat]
  cases e : bitB x i with
  | false => rfl
  | true => exact absurd (h i e) (by omega)
theorem pop_cnt {x : Int32} {n : Nat} (hn : n ≤ 16) (h : ∀ v, bitB x v = true → v < n) : (popc x).toInt = ((cnt (bitB x) n : Nat) : Int) := by
  rw [m16_pop (m16_bits (fun v hv => by have := h v hv; omega)), szK_cnt x 16 (by omega), cnt_ext h 16 hn]
  have := cnt_le (bitB x) n
  exact nI_toInt (by omega)
theorem sz_cnt {x : Int32} {n : Nat} (hn : n ≤ 16) (h : ∀ v, bitB x v = true → v < n) : (szK x 16).toInt = ((cnt (bitB x) n : Nat) : Int) := by
  rw [szK_cnt x 16 (by omega), cnt_ext h 16 hn]
  have := cnt_le (bitB x) n
  exact nI_toInt (by omega)
def Rg (s : Nat → Nat → Option Int) (d n : Nat) (V : Nat → Bool) : Prop := (∀ v, V v = true → v < n ∧ NC s V d v) ∧ (∃ i, V i = true) ∧ cnt V n ≤ d + 1
theorem bool_iff {a b : Bool} (h : a = true ↔ b = true) : a = b := by
  cases a <;> cases b <;> simp_all
section LRR
variable {ST : Nat → Nat → Int64} {s : Nat → Nat → Option Int} {n d : Nat}
theorem lr_stop (hmn : ∀ V : Nat → Bool, (∀ v, V v = true → v < n) → ∀ i, NC s V d i → d + 1 ≤ cnt V n) {kept : Int32} (hk : ∀ v, bitB kept v = true → v < n ∧ NC s (bitB kept) d v) (hne : ∃ i, bitB kept i = true) (hc : cnt (bitB kept) n ≤ d + 1) :
    Rg s d n (bitB kept) ∧ (∀ v, bitB kept v = true → bitB kept v = true) ∧
    ∀ V, Rg s d n V → (∀ v, V v = true → bitB kept v = true) → (∀ v, V v = bitB kept v) ∨ ∃ i, bitB kept i = false ∧ V i = true ∧ ∀ k, i < k → bitB kept k = V k := by
  refine ⟨⟨hk, hne, hc⟩, fun v h => h, fun V hV hs => Or.inl (fun v => bool_iff ⟨hs v, fun h => ?_⟩)⟩
  obtain ⟨i, hi⟩ := hV.2.1
  have l := hmn V (fun v hv => (hV.1 v hv).1) i (hV.1 i hi).2
  exact cnt_eq (n := n) (fun v _ => hs v) (by omega) v (hk v h).1 h
theorem lr_ok (hS : ∀ i j, i < n → j < n → vC (ST i j) = s i j ∧ okB 4000000 (ST i j)) (hn : n ≤ 12) (hd : d ≤ 12) (hmn : ∀ V : Nat → Bool, (∀ v, V v = true → v < n) → ∀ i, NC s V d i → d + 1 ≤ cnt V n) :
    ∀ (j : Nat), j ≤ n → ∀ kept : Int32, (∀ v, bitB kept v = true → v < n ∧ NC s (bitB kept) d v) → (∃ i, bitB kept i = true) →
    (∀ i, j ≤ i → bitB kept i = true → ∀ V, Rg s d n V → (∀ v, V v = true → bitB kept v = true) → V i = true) →
    Rg s d n (bitB (lrM ST n d j kept)) ∧ (∀ v, bitB (lrM ST n d j kept) v = true → bitB kept v = true) ∧
    ∀ V, Rg s d n V → (∀ v, V v = true → bitB kept v = true) → (∀ v, V v = bitB (lrM ST n d j kept) v) ∨ ∃ i, bitB (lrM ST n d j kept) i = false ∧ V i = true ∧ ∀ k, i < k → bitB (lrM ST n d j kept) k = V k
  | 0, _, kept, hk, hne, hc => by
    show Rg s d n (bitB kept) ∧ _
    refine lr_stop hmn hk hne ?_
    obtain ⟨i, hi⟩ := hne
    obtain ⟨V, h1, h2, h3⟩ := NC_set (hk i hi).2
    have hR : Rg s d n V := ⟨fun v hv => ⟨(hk v (h1 v hv).2).1, (h1 v hv).1⟩, ⟨i, h2⟩, h3 n⟩
    exact Nat.le_trans (cnt_mono (fun v _ hv => hc v (Nat.zero_le v) hv V hR (fun u hu => (h1 u hu).2))) (h3 n)
  | j + 1, hj, kept, hk, hne, hc => by
    have hp := pop_cnt (x := kept) (n := n) (by omega) (fun v hv => (hk v hv).1)
    by_cases c1 : (popc kept).toInt ≤ ((d + 1 : Nat) : Int)
    · have e : lrM ST n d (j + 1) kept = kept := by rw [lrM, if_pos c1]
      rw [e]
      exact lr_stop hmn hk hne (by omega)
    by_cases c2 : (kept >>> (nI j &&& 31)) &&& 1 = 0
    · have e : lrM ST n d (j + 1) kept = lrM ST n d j kept := by rw [lrM, if_neg c1, if_pos c2]
      rw [e]
      have b2 : bitB kept j = false := (bit_iff kept (by omega)).mp c2
      refine lr_ok hS hn hd hmn j (by omega) kept hk hne (fun i hi hb => ?_)
      rcases Nat.lt_or_ge j i with q | q
      · exact hc i q hb
      · have : i = j := by omega
        subst this; rw [b2] at hb; cases hb
    · obtain ⟨A, hA⟩ : ∃ A, A = kept &&& ((1 <<< (nI j &&& 31)) ^^^ (-1)) := ⟨_, rfl⟩
      have b2 : bitB kept j = true := by
        cases e : bitB kept j with
        | true => rfl
        | false => exact absurd ((bit_iff kept (by omega)).mpr e) c2
      have bA : ∀ v, bitB A v = true ↔ bitB kept v = true ∧ v ≠ j := by
        intro v
        rcases Nat.lt_or_ge v 32 with hv | hv
        · rw [hA, bitB_and, bitB_not _ hv, bitB_1 j (by omega) v hv, Bool.and_eq_true, Bool.not_eq_true', decide_eq_false_iff_not]
        · rw [bitB_big A hv, bitB_big kept hv]; simp
      have hb : ∀ v, bitB A v = true → v < n := fun v hv => (hk v ((bA v).mp hv).1).1
      have ho := fun i => ora_iff (s := s) (b := A) hS hn hb hd i
      by_cases c3 : oraM ST n A d = 0
      · have e : lrM ST n d (j + 1) kept = lrM ST n d j kept := by rw [lrM, if_neg c1, if_neg c2, ← hA, if_pos c3]
        rw [e]
        refine lr_ok hS hn hd hmn j (by omega) kept hk hne (fun i hi hbi V hV hs => ?_)
        rcases Nat.lt_or_ge j i with q | q
        · exact hc i q hbi V hV hs
        · have : i = j := by omega
          subst this
          refine Classical.byContradiction (fun hz => ?_)
          obtain ⟨i0, h0⟩ := hV.2.1
          have h1 := (ho i0).mpr (NC_mono (fun v hv => (bA v).mpr ⟨hs v hv, fun y => hz (by rw [← y]; exact hv)⟩) (hV.1 i0 h0).2)
          rw [c3, bitB_0] at h1
          cases h1
      · have e : lrM ST n d (j + 1) kept = lrM ST n d j (oraM ST n A d) := by rw [lrM, if_neg c1, if_neg c2, ← hA, if_neg c3]
        rw [e]
        obtain ⟨o, eo⟩ : ∃ o, o = oraM ST n A d := ⟨_, rfl⟩
        rw [← eo] at c3 ⊢
        have ho : ∀ i, bitB o i = true ↔ NC s (bitB A) d i := fun i => by rw [eo]; exact ho i
        have oA : ∀ v, bitB o v = true → bitB A v = true := by
          intro v hv
          obtain ⟨p, x, -, h2, -⟩ := (ho v).mp hv
          exact h2
        have oK : ∀ v, bitB o v = true → bitB kept v = true := fun v hv => ((bA v).mp (oA v hv)).1
        have oj : bitB o j = false := by
          cases e : bitB o j with
          | false => rfl
          | true => exact absurd rfl ((bA j).mp (oA j e)).2
        have ok : ∀ v, bitB o v = true → v < n ∧ NC s (bitB o) d v := by
          intro v hv
          refine ⟨hb v (oA v hv), ?_⟩
          obtain ⟨V, h1, h2, h3⟩ := NC_set ((ho v).mp hv)
          exact NC_mono (fun u hu => (ho u).mpr (NC_mono (fun z hz => (h1 z hz).2) (h1 u hu).1)) (h1 v h2).1
        have one : ∃ i, bitB o i = true := by
          refine Classical.byContradiction (fun hz => c3 (bitB_ext (fun i _ => ?_)))
          rw [bitB_0]
          cases e : bitB o i with
          | false => rfl
          | true => exact absurd ⟨i, e⟩ hz
        obtain ⟨r1, r2, r3⟩ := lr_ok hS hn hd hmn j (by omega) o ok one (fun i hi hbi V hV hs => by
          rcases Nat.lt_or_ge j i with q | q
          · exact hc i q (oK i hbi) V hV (fun v hv => oK v (hs v hv))
          · have : i = j := by omega
            subst this; rw [oj] at hbi; cases hbi)
        refine ⟨r1, fun v hv => oK v (r2 v hv), fun V hV hs => ?_⟩
        cases ej : V j with
        | false =>
          refine r3 V hV (fun v hv => (ho v).mpr (NC_mono (fun u hu => (bA u).mpr ⟨hs u hu, fun y => ?_⟩) (hV.1 v hv).2))
          rw [y, ej] at hu; cases hu
        | true =>
          refine Or.inr ⟨j, ?_, ej, fun k hk2 => bool_iff ⟨fun h => ?_, fun h => ?_⟩⟩
          · cases e2 : bitB (lrM ST n d j o) j with
            | false => rfl
            | true => rw [r2 j e2] at oj; cases oj
          · exact hc k hk2 (oK k (r2 k h)) V hV hs
          · exact hc k hk2 (hs k h) _ r1 (fun v hv => oK v (r2 v hv))
end LRR
