/-! THE QUARREL: class and reference agree -/
theorem NC_0 {w : Nat → Nat → Option Int} {U : Nat → Bool} {i : Nat} : ¬ NC (sS w) U 0 i := by
  rintro ⟨p, x, h1, -, -, h4, -⟩
  have e : p = [] := List.length_eq_zero_iff.mp h1
  subst e
  have h5 : sS w i i = some x := h4
  rw [sS, if_pos rfl] at h5
  cases h5
theorem NC_none {s : Nat → Nat → Option Int} {U A : Nat → Bool} {n : Nat} (hUA : ∀ v, U v = true → A v = true) (hA : ∀ v, A v = true → v < n) (h : ∀ d', d' < n → ∀ i, ¬ NC s A d' i) : ∀ d i, ¬ NC s U d i := by
  intro d i hN
  obtain ⟨j, p, x, -, h2, h3, h4, h5, h6⟩ := NC_nodup d hN
  have l := cnt_nodup (n := n) (U := A) h2 (fun v hv => by
    have : U v = true := by
      rcases List.mem_cons.mp hv with e | e
      · rw [e]; exact h3
      · exact h4 v e
    exact ⟨hA v (hUA v this), hUA v this⟩)
  have := cnt_le A n
  rw [List.length_cons] at l
  exact h p.length (by omega) j ⟨p, x, rfl, hUA j h3, fun v hv => hUA v (h4 v hv), h5, h6⟩
theorem sk_ok {ST : Nat → Nat → Int64} {s : Nat → Nat → Option Int} {n : Nat} {b : Int32} (hS : ∀ i j, i < n → j < n → vC (ST i j) = s i j ∧ okB 4000000 (ST i j)) (hn : n ≤ 12) (hb : ∀ v, bitB b v = true → v < n) :
    ∀ (jj d : Nat), d + jj ≤ 12 → (∀ d', d' < d → ∀ i, ¬ NC s (bitB b) d' i) →
    (skM ST n b jj d = 0 ∧ ∀ d', d' < d + jj → ∀ i, ¬ NC s (bitB b) d' i) ∨
    ∃ d2, d2 ≤ 12 ∧ (∀ d', d' < d2 → ∀ i, ¬ NC s (bitB b) d' i) ∧ (∃ i, NC s (bitB b) d2 i) ∧ skM ST n b jj d = lrM ST n d2 n (oraM ST n b d2)
  | 0, d, _, hm => Or.inl ⟨by rw [skM], fun d' hd => hm d' (by omega)⟩
  | jj + 1, d, hd, hm => by
    have ho := fun i => ora_iff (s := s) (b := b) hS hn hb (d := d) (by omega) i
    by_cases c : oraM ST n b d = 0
    · rw [skM_s, if_pos c]
      have hm2 : ∀ d', d' < d + 1 → ∀ i, ¬ NC s (bitB b) d' i := by
        intro d' hd' i hN
        rcases Nat.lt_or_ge d' d with q | q
        · exact hm d' q i hN
        · have e : d' = d := by omega
          subst e
          have := (ho i).mpr hN
          rw [c, bitB_0] at this
          cases this
      rcases sk_ok hS hn hb jj (d + 1) (by omega) hm2 with ⟨h1, h2⟩ | h
      · exact Or.inl ⟨h1, fun d' hd' => h2 d' (by omega)⟩
      · exact Or.inr h
    · rw [skM_s, if_neg c]
      refine Or.inr ⟨d, by omega, hm, ?_, rfl⟩
      refine Classical.byContradiction (fun hz => c (bitB_ext (fun i _ => ?_)))
      rw [bitB_0]
      cases e : bitB (oraM ST n b d) i with
      | false => rfl
      | true => exact absurd ⟨i, (ho i).mp e⟩ hz
theorem allB_bit {n : Nat} (hn : n < 13) (v : Nat) : bitB (allB n) v = decide (v < n) := by
  rcases Nat.lt_or_ge v 32 with h | h
  · have key : ∀ n, n < 13 → ∀ v, v < 32 → bitB (allB n) v = decide (v < n) := by decide +kernel
    exact key n hn v h
  · rw [bitB_big _ h, decide_eq_false (by omega)]
theorem powS_2 : ∀ n, powS n = 2 ^ n
  | 0 => rfl
  | n + 1 => by rw [powS, powS_2 n, Nat.pow_succ]; omega
theorem small_bits {n k : Nat} (hn : n < 13) (hk : k ≤ powS n - 1) : ∀ v, bitB (nI k) v = true → v < n := by
  intro v hv
  have hp := powS_le n hn
  have h0 : 0 < powS n := by rw [powS_2]; exact Nat.two_pow_pos n
  rw [bitB_nat, nI_bv k (by omega)] at hv
  refine Nat.lt_of_not_le (fun hz => ?_)
  have hlt : k < 2 ^ n := by rw [← powS_2]; omega
  have := Nat.testBit_lt_two_pow (x := k) (i := v) (Nat.lt_of_lt_of_le hlt (Nat.pow_le_pow_right (by omega) hz))
  rw [this] at hv
  cases hv
theorem bits_small {n : Nat} {x : Int32} (hn : n < 13) (h : ∀ v, bitB x v = true → v < n) : ∃ k, k ≤ powS n - 1 ∧ x = nI k := by
  refine ⟨x.toBitVec.toNat, ?_, i32_nI x⟩
  have : x.toBitVec.toNat < 2 ^ n := Nat.lt_pow_two_of_testBit (n := n) _ (fun i hi => by
    rw [← bitB_nat]
    cases e : bitB x i with
    | false => rfl
    | true => exact absurd (h i e) (by omega))
  rw [powS_2]; omega
/-- the reference's search -/
theorem qb_ok {gd : Int32 → Bool} {n : Nat} (hn : n < 13) (hbad : ¬ gd (nI (powS n - 1)) = true) : ∀ k, k ≤ powS n - 1 → ∃ q, q ≤ powS n - 1 ∧ qbF gd (nI (powS n - 1)) k = nI q ∧ ¬ gd (nI q) = true ∧ (q = powS n - 1 ∨ q < k) ∧
    ∀ k', k' < k → ¬ gd (nI k') = true → cnt (bitB (nI q)) n ≤ cnt (bitB (nI k')) n ∧ (q = powS n - 1 ∨ cnt (bitB (nI q)) n < cnt (bitB (nI k')) n ∨ q ≤ k')
  | 0, _ => ⟨powS n - 1, Nat.le_refl _, rfl, hbad, Or.inl rfl, fun k' h => absurd h (by omega)⟩
  | k + 1, hk => by
    obtain ⟨q, h1, h2, h3, h4, h5⟩ := qb_ok hn hbad k (by omega)
    have sq := sz_cnt (x := nI q) (n := n) (by omega) (small_bits hn h1)
    have sk := sz_cnt (x := nI k) (n := n) (by omega) (small_bits hn (by omega))
    by_cases c1 : (szK (qbF gd (nI (powS n - 1)) k) 16).toInt ≤ (szK (nI k) 16).toInt
    · refine ⟨q, h1, by rw [qbF_1 c1, h2], h3, h4.imp_right (fun z => by omega), fun k' hk' hb => ?_⟩
      rw [h2, sq, sk] at c1
      rcases Nat.lt_or_ge k' k with z | z
      · exact h5 k' z hb
      · have e : k' = k := by omega
        subst e
        exact ⟨by omega, h4.elim Or.inl (fun z => Or.inr (Or.inr (by omega)))⟩
    · by_cases c2 : gd (nI k) = true
      · refine ⟨q, h1, by rw [qbF_2 c1 c2, h2], h3, h4.imp_right (fun z => by omega), fun k' hk' hb => ?_⟩
        rcases Nat.lt_or_ge k' k with z | z
        · exact h5 k' z hb
        · have e : k' = k := by omega
          subst e
          exact absurd c2 hb
      · refine ⟨k, by omega, qbF_3 c1 c2, c2, Or.inr (by omega), fun k' hk' hb => ?_⟩
        rw [h2, sq, sk] at c1
        rcases Nat.lt_or_ge k' k with z | z
        · have := (h5 k' z hb).1
          exact ⟨by omega, Or.inr (Or.inl (by omega))⟩
        · have e : k' = k := by omega
          subst e
          exact ⟨Nat.le_refl _, Or.inr (Or.inr (Nat.le_refl _))⟩
theorem lt_tB {a b i : Nat} (h1 : a.testBit i = false) (h2 : b.testBit i = true) (h3 : ∀ j, i < j → a.testBit j = b.testBit j) : a < b := by
  have e : a / 2 ^ (i + 1) = b / 2 ^ (i + 1) := Nat.eq_of_testBit_eq (fun j => by
    rw [Nat.testBit_div_two_pow, Nat.testBit_div_two_pow]
    exact h3 _ (by omega))
  have la : a % 2 ^ (i + 1) < 2 ^ i := Nat.lt_pow_two_of_testBit _ (fun k hk => by
    rw [Nat.testBit_mod_two_pow]
    rcases Nat.lt_or_ge k (i + 1) with q | q
    · rw [show k = i by omega, h1, Bool.and_false]
    · rw [decide_eq_false (by omega), Bool.false_and])
  have lb : 2 ^ i ≤ b % 2 ^ (i + 1) := Nat.ge_two_pow_of_testBit (by rw [Nat.testBit_mod_two_pow, h2, decide_eq_true (by omega)]; rfl)
  have ea := Nat.div_add_mod a (2 ^ (i + 1))
  have eb := Nat.div_add_mod b (2 ^ (i + 1))
  rw [e] at ea
  revert ea eb la lb
  generalize 2 ^ (i + 1) * (b / 2 ^ (i + 1)) = X
  generalize a % 2 ^ (i + 1) = ma
  generalize b % 2 ^ (i + 1) = mb
  generalize 2 ^ i = P
  intros
  omega
theorem lex_lt {a b : Nat} (ha : a < 2 ^ 32) (hb : b < 2 ^ 32) {i : Nat} (h1 : bitB (nI a) i = false) (h2 : bitB (nI b) i = true) (h3 : ∀ k, i < k → bitB (nI a) k = bitB (nI b) k) : a < b := by
  refine lt_tB (i := i) ?_ ?_ (fun j hj => ?_)
  · rw [bitB_nat, nI_bv a ha] at h1; exact h1
  · rw [bitB_nat, nI_bv b hb] at h2; exact h2
  · have := h3 j hj
    rw [bitB_nat, bitB_nat, nI_bv a ha, nI_bv b hb] at this
    exact this
theorem ext_all {x y : Int32} (h : ∀ v, bitB x v = bitB y v) : x = y := bitB_ext (fun i _ => h i)
/-- both searches, over any test that tells the bad sets -/
theorem qu_core {ST : Nat → Nat → Int64} {w : Nat → Nat → Option Int} {n : Nat} {gd : Int32 → Bool} (hn : n ≤ 12) (hS : ∀ i j, i < n → j < n → vC (ST i j) = sS w i j ∧ okB 4000000 (ST i j)) (hg : ∀ x : Int32, (∀ v, bitB x v = true → v < n) → (gd x = true ↔ ¬ ∃ d i, NC (sS w) (bitB x) d i)) :
    (skM ST n (allB n) (n - 1) 1 = 0 ∧ gd (allB n) = true) ∨ (¬ skM ST n (allB n) (n - 1) 1 = 0 ∧ ¬ gd (allB n) = true ∧ skM ST n (allB n) (n - 1) 1 = qbF gd (allB n) (powS n - 1)) := by
  have ab := allB_bit (n := n) (by omega)
  have hb : ∀ v, bitB (allB n) v = true → v < n := fun v hv => by rw [ab] at hv; exact of_decide_eq_true hv
  have hba : ∀ v, v < n → bitB (allB n) v = true := fun v hv => by rw [ab]; exact decide_eq_true hv
  rcases sk_ok (s := sS w) hS hn hb (n - 1) 1 (by omega) (fun d' hd i => by rw [show d' = 0 by omega]; exact NC_0) with ⟨h1, h2⟩ | ⟨d, hd, hm, ⟨i0, hi0⟩, hsk⟩
  · refine Or.inl ⟨h1, (hg _ hb).mpr ?_⟩
    rintro ⟨d, i, hN⟩
    exact NC_none (fun v h => h) hb (fun d' hd' => h2 d' (by omega)) d i hN
  · have bad : ¬ gd (allB n) = true := fun z => (hg _ hb).mp z ⟨d, i0, hi0⟩
    have hmn : ∀ V : Nat → Bool, (∀ v, V v = true → v < n) → ∀ d0 i, NC (sS w) V d0 i → d + 1 ≤ cnt V n ∧ (cnt V n ≤ d + 1 → ∀ v, V v = true → NC (sS w) V d v) := fun V hV d0 i hN => NC_small (A := bitB (allB n)) (fun v hv => hba v (hV v hv)) hV hm hN
    have ho := fun i => ora_iff (s := sS w) (b := allB n) hS hn hb hd i
    obtain ⟨k1, k2, k3⟩ := lr_ok (s := sS w) hS hn hd (fun V hV i hN => (hmn V hV d i hN).1) n (Nat.le_refl _) (oraM ST n (allB n) d)
      (fun v hv => by
        have hN := (ho v).mp hv
        obtain ⟨V, a1, a2, a3⟩ := NC_set hN
        obtain ⟨p, x, q1, q2, -⟩ := hN
        exact ⟨hb v q2, NC_mono (fun u hu => (ho u).mpr (NC_mono (fun z hz => (a1 z hz).2) (a1 u hu).1)) (a1 v a2).1⟩)
      ⟨i0, (ho i0).mpr hi0⟩
      (fun i hi hbi => by
        obtain ⟨p, x, q1, q2, -⟩ := (ho i).mp hbi
        exact absurd (hb i q2) (by omega))
    rw [← hsk] at k1 k2 k3
    obtain ⟨K, eK⟩ : ∃ K, K = skM ST n (allB n) (n - 1) 1 := ⟨_, rfl⟩
    rw [← eK] at k1 k2 k3 ⊢
    obtain ⟨r1, ⟨iK, r2⟩, r3⟩ := k1
    have cK := (hmn (bitB K) (fun v hv => (r1 v hv).1) d iK (r1 iK r2).2).1
    have K0 : ¬ K = 0 := fun z => by rw [z, bitB_0] at r2; cases r2
    refine Or.inr ⟨K0, bad, ?_⟩
    have en := allB_n n (by omega)
    have hp := powS_le n (by omega)
    obtain ⟨q, g1, g2, g3, g4, g5⟩ := qb_ok (gd := gd) (n := n) (by omega) (by rw [← en]; exact bad) (powS n - 1) (Nat.le_refl _)
    rw [← en] at g2
    rw [g2]
    have bq := small_bits (n := n) (by omega) g1
    have badq : ∃ d i, NC (sS w) (bitB (nI q)) d i := Classical.byContradiction (fun z => g3 ((hg _ bq).mpr z))
    obtain ⟨dq, iq, hq⟩ := badq
    obtain ⟨cq1, cq2⟩ := hmn _ bq dq iq hq
    obtain ⟨kn, e1, e2⟩ := bits_small (n := n) (x := K) (by omega) (fun v hv => (r1 v hv).1)
    have badK : ¬ gd K = true := fun z => (hg _ (fun v hv => (r1 v hv).1)).mp z ⟨d, iK, (r1 iK r2).2⟩
    rcases Nat.lt_or_ge kn (powS n - 1) with c | c
    · obtain ⟨u1, u2⟩ := g5 kn c (by rw [← e2]; exact badK)
      rw [← e2] at u1 u2
      have cB : cnt (bitB (nI q)) n ≤ d + 1 := by omega
      have rB : Rg (sS w) d n (bitB (nI q)) := by
        refine ⟨fun v hv => ⟨bq v hv, cq2 cB v hv⟩, ?_, cB⟩
        obtain ⟨p, x, -, z, -⟩ := hq
        exact ⟨iq, z⟩
      rcases k3 _ rB (fun v hv => (ho v).mpr (NC_mono (fun u hu => hba u (bq u hu)) (rB.1 v hv).2)) with y | ⟨i, y1, y2, y3⟩
      · exact (ext_all y).symm
      · rw [e2] at y1 y3
        have lt := lex_lt (a := kn) (b := q) (by omega) (by omega) y1 y2 y3
        rcases u2 with z | z | z
        · refine (ext_all (fun v => bool_iff ⟨fun hv => ?_, fun hv => ?_⟩)).symm
          · exact cnt_eq (n := n) (U := bitB K) (V := bitB (nI q)) (fun u hu _ => by rw [z, ← en]; exact hba u hu) (by omega) v (bq v hv) hv
          · rw [z, ← en]; exact hba v (r1 v hv).1
        · omega
        · omega
    · have e3 : K = allB n := by rw [e2, en, show kn = powS n - 1 by omega]
      refine ext_all (fun v => bool_iff ⟨fun hv => ?_, fun hv => ?_⟩)
      · exact cnt_eq (n := n) (U := bitB (nI q)) (V := bitB K) (fun u hu _ => by rw [e3]; exact hba u hu) (by omega) v (r1 v hv).1 hv
      · rw [e3]; exact hba v (bq v hv)
