/-! stories: class and reference agree -/
theorem tog_eq (row : Nat → Int32) (b : Int32) : ∀ k, togM row b k = tog row b k
  | 0 => rfl
  | k + 1 => by
    rw [tog_s]
    by_cases c : (b >>> (nI k &&& 31)) &&& 1 = 1
    · rw [togM_y c, if_neg (b1ne0 c), tog_eq row b k]
    · rw [togM_n c, if_pos (b10n c), tog_eq row b k, Int32.or_zero]
theorem thM_0 (tk tm : Nat → Int32) : ∀ k, thM tk tm 0 k = thOf tm k
  | 0 => rfl
  | k + 1 => by rw [thM_n (fun z => z.1 rfl), thM_0 tk tm k]; rfl
theorem thM_1 (tk tm : Nat → Int32) : ∀ k, thM tk tm 1 k = teOf tk tm k
  | 0 => rfl
  | k + 1 => by
    rw [teOf_s]
    by_cases c : tk k = 2
    · rw [thM_y (by decide) c, if_pos c, thM_1 tk tm k, Int32.or_zero]
    · rw [thM_n (fun z => c z.2), if_neg c, thM_1 tk tm k]
theorem prM_eq (dp : Nat → Int32) (b s0 : Int32) : ∀ k, prM dp b s0 k = s0 + feeS dp b k
  | 0 => (Int32.add_zero s0).symm
  | k + 1 => by
    rw [feeS_s]
    by_cases c : (b >>> (nI k &&& 31)) &&& 1 = 1
    · rw [prM_y c, if_neg (b1ne0 c), prM_eq dp b s0 k, Int32.add_assoc]
    · rw [prM_n c, if_pos (b10n c), prM_eq dp b s0 k, Int32.add_zero]
theorem fgM_eq (tm : Nat → Int32) (lf fg s0 : Int32) : ∀ k, fgM tm lf fg s0 k = s0 + fg * nI (hmn tm lf k)
  | 0 => by show s0 = s0 + fg * 0; rw [Int32.mul_zero, Int32.add_zero]
  | k + 1 => by
    rw [hmn_s]
    by_cases c : (lf >>> (tm k &&& 31)) &&& 1 = 0
    · rw [fgM_y c, if_pos c, fgM_eq tm lf fg s0 k, ← nI_1, Int32.mul_add, Int32.mul_one, Int32.add_assoc]
    · rw [fgM_n c, if_neg c, fgM_eq tm lf fg s0 k, Int32.add_zero]
/-- numbers at most B -/
def upN (B : Nat) (x : Int32) : Prop := ∃ q, q ≤ B ∧ x = nI q
theorem upN_of {B : Nat} {x : Int32} (hB : B < 2147483647) (h1 : 0 ≤ x.toInt) (h2 : x.toInt ≤ B) : upN B x := by
  rcases pk_ix x (n := B + 1) (by omega) with a | a | ⟨j, hj, e⟩
  · have a := Int32.lt_iff_toInt_lt.mp a
    have z : (0 : Int32).toInt = 0 := rfl
    omega
  · have a := Int32.le_iff_toInt_le.mp a
    rw [nI_toInt (by omega)] at a
    omega
  · exact ⟨j, by omega, e⟩
theorem fee_up {df : Nat → Int32} {b : Int32} {n : Nat} (h : ∀ k, k < n → upN 1000 (df k)) : ∀ k, k ≤ n → upN (1000 * k) (feeS df b k)
  | 0, _ => ⟨0, by omega, rfl⟩
  | k + 1, hk => by
    rw [feeS_s]
    obtain ⟨q, hq, e⟩ := fee_up (b := b) h k (by omega)
    split
    · exact ⟨q, by omega, e⟩
    · obtain ⟨r, hr, e2⟩ := h k (by omega)
      exact ⟨q + r, by omega, by rw [e, e2, nI_add]⟩
theorem pr_up {g1 g2 g3 g4 th mi fo : Int32} {tm : Nat → Int32} {tn : Nat} (h1 : upN 10000 g1) (h3 : m16 g3) (hmi : upN 1000 mi) (hfo : upN 1000 fo) (hn : tn ≤ 12) : upN 38000 (prOf g1 g2 g3 g4 th mi fo tm tn) := by
  unfold prOf
  obtain ⟨a, ha, rfl⟩ := h1
  obtain ⟨m, hm, rfl⟩ := hmi
  obtain ⟨f, hf, rfl⟩ := hfo
  have hx : m16 (((g3 &&& (g2 ^^^ (-1))) &&& (th ^^^ (-1))) &&& (g4 ^^^ (-1))) := m16_and _ (m16_and _ (m16_and _ h3))
  rw [m16_pop hx]
  obtain ⟨c, hc, e⟩ := m16_szN hx
  have hh := hmn_le tm (g2 ||| g3) tn
  rw [e, pk_mul, pk_mul, nI_add, nI_add]
  refine ⟨_, ?_, rfl⟩
  have i1 : m * c ≤ 1000 * 16 := Nat.mul_le_mul hm hc
  have i2 : f * hmn tm (g2 ||| g3) tn ≤ 1000 * 12 := Nat.mul_le_mul hf (by omega)
  omega
theorem tog_16 {row : Nat → Int32} {b : Int32} {n : Nat} (h : ∀ k, k < n → m16 (row k)) : ∀ k, k ≤ n → m16 (tog row b k)
  | 0, _ => m16_0
  | k + 1, hk => by
    rw [tog_s]
    split
    · exact tog_16 h k (by omega)
    · exact m16_or (tog_16 h k (by omega)) (h k (by omega))
/-- the cost of a STORY -/
theorem cs_eq {df da dm dw tk tm : Nat → Int32} {tn : Nat} {mi fo b : Int32} (hdm : ∀ k, k < 10 → m16 (dm k)) : csM df da dm dw tk tm tn mi fo b = if psB (tog da b 10) (tog dm b 10) (tog dw b 10) (thOf tm tn) (teOf tk tm tn) then prOf (feeS df b 10) (tog da b 10) (tog dm b 10) (tog dw b 10) (thOf tm tn) mi fo tm tn else -1 := by
  by_cases c1 : (togM da b 10 &&& (thM tk tm 0 tn ^^^ (-1))) &&& (togM dw b 10 ^^^ (-1)) = 0
  · by_cases c2 : thM tk tm 1 tn &&& ((togM da b 10 ||| togM dm b 10) ^^^ (-1)) = 0
    · rw [csM_3 c1 c2]
      rw [tog_eq, tog_eq, thM_0] at c1
      rw [tog_eq, tog_eq, thM_1] at c2
      rw [if_pos (show psB _ _ _ _ _ from ⟨c1, c2⟩)]
      unfold csS prOf
      rw [fgM_eq, prM_eq, tog_eq, tog_eq, tog_eq, thM_0, m16_pop (m16_and _ (m16_and _ (m16_and _ (tog_16 hdm 10 (Nat.le_refl _)))))]
      rw [Int32.add_comm (mi * _)]
    · rw [csM_2 c1 c2]
      rw [tog_eq, tog_eq, thM_1] at c2
      rw [if_neg (fun z => c2 z.2)]
  · rw [csM_1 c1]
    rw [tog_eq, tog_eq, thM_0] at c1
    rw [if_neg (fun z => c1 z.1)]
/-- what holds of the DEEDS, on both sides -/
def DEr (df da dm dw : Nat → Int32) (mi fo : Int32) (tn : Nat) : Prop := (∀ k, k < 10 → upN 1000 (df k) ∧ m16 (da k) ∧ m16 (dm k) ∧ m16 (dw k)) ∧ upN 1000 mi ∧ upN 1000 fo ∧ tn ≤ 12
theorem pr_nn {df da dm dw tm : Nat → Int32} {tn : Nat} {mi fo : Int32} (h : DEr df da dm dw mi fo tn) (b th : Int32) : upN 38000 (prOf (feeS df b 10) (tog da b 10) (tog dm b 10) (tog dw b 10) th mi fo tm tn) :=
  pr_up (fee_up (n := 10) (fun k hk => (h.1 k hk).1) 10 (Nat.le_refl _)) (tog_16 (fun k hk => (h.1 k hk).2.2.1) 10 (Nat.le_refl _)) h.2.1 h.2.2.1 h.2.2.2
theorem upN_nn {B : Nat} (hB : B < 2147483647) {x : Int32} (h : upN B x) : 0 ≤ x.toInt := by
  obtain ⟨q, hq, rfl⟩ := h
  rw [nI_toInt (by omega)]; omega
theorem m1_i : (-1 : Int32).toInt = -1 := by decide
/-- the LEAST STORIES found, side by side -/
def RSr (x y : (Nat → Int32) × Nat × Int32) : Prop := x.2.1 = y.2.1 ∧ (0 < x.2.1 → x.2.2 = y.2.2) ∧ ∀ i, i < x.2.1 → x.1 i = y.1 i
theorem fr_ts {ok : Nat → Bool} {co co2 : Nat → Int32} {r0 r1 : Nat → Int32} {c0 c1 : Int32} {N : Nat} (h : ∀ k, k < N → (ok k = true → co2 k = co k ∧ 0 ≤ (co k).toInt) ∧ (¬ ok k = true → (co2 k).toInt < 0)) : ∀ k, k ≤ N → RSr (frF ok co r0 c0 k) (tsF co2 r1 c1 k)
  | 0, _ => ⟨rfl, fun z => absurd z (by show ¬ 0 < 0; omega), fun i hi => absurd hi (by show ¬ i < 0; omega)⟩
  | k + 1, hk => by
    obtain ⟨i1, i2, i3⟩ := fr_ts (r0 := r0) (r1 := r1) (c0 := c0) (c1 := c1) h k (by omega)
    by_cases c : ok k = true
    · obtain ⟨e, nn⟩ := (h k (by omega)).1 c
      have nn2 : ¬ (co2 k).toInt < 0 := by rw [e]; omega
      rw [frF_y co r0 c0 c]
      generalize frF ok co r0 c0 k = X at *
      by_cases d1 : enK X.2.1 X.2.2 (co k)
      · have d2 : ¬ tsN (tsF co2 r1 c1 k).2.1 (tsF co2 r1 c1 k).2.2 (co2 k) := by
          unfold tsN; rw [← i1, ← i2 d1.1, e]; have := d1.1; have := d1.2; omega
        have d3 : ¬ co2 k = (tsF co2 r1 c1 k).2.2 := by
          rw [← i2 d1.1, e]; intro z; have := d1.2; rw [z] at this; omega
        rw [tsF_k nn2 d2 d3]
        unfold enR enZ enC
        rw [if_pos d1, if_pos d1, if_pos d1]
        exact ⟨i1, i2, i3⟩
      · unfold enR enZ enC
        rw [if_neg d1, if_neg d1, if_neg d1]
        by_cases d4 : enL X.2.1 X.2.2 (co k)
        · have d2 : tsN (tsF co2 r1 c1 k).2.1 (tsF co2 r1 c1 k).2.2 (co2 k) := by
            unfold tsN; rw [← i1, ← i2 d4.1, e]; exact Or.inr d4.2
          rw [tsF_n nn2 d2, if_pos d4, if_pos d4]
          refine ⟨rfl, fun _ => e.symm, fun i hi => ?_⟩
          have hi : i < 1 := hi
          have e0 : i = 0 := by omega
          subst e0
          show upd X.1 0 (nI k) 0 = upd (tsF co2 r1 c1 k).1 0 (nI k) 0
          rw [pk_us, pk_us]
        · rw [if_neg d4, if_neg d4]
          by_cases z0 : X.2.1 = 0
          · have d2 : tsN (tsF co2 r1 c1 k).2.1 (tsF co2 r1 c1 k).2.2 (co2 k) := Or.inl (by rw [← i1]; exact z0)
            rw [tsF_n nn2 d2, z0]
            refine ⟨rfl, fun _ => e.symm, fun i hi => ?_⟩
            have hi : i < 0 + 1 := hi
            have e0 : i = 0 := by omega
            subst e0
            show upd X.1 0 (nI k) 0 = upd (tsF co2 r1 c1 k).1 0 (nI k) 0
            rw [pk_us, pk_us]
          · have zp : 0 < X.2.1 := by omega
            have f1 : ¬ X.2.2.toInt < (co k).toInt := fun z => d1 ⟨zp, z⟩
            have f2 : ¬ (co k).toInt < X.2.2.toInt := fun z => d4 ⟨zp, z⟩
            have f3 : co k = X.2.2 := Int32.toInt_inj.mp (by omega)
            have d2 : ¬ tsN (tsF co2 r1 c1 k).2.1 (tsF co2 r1 c1 k).2.2 (co2 k) := by
              unfold tsN; rw [← i1, ← i2 zp, e]; omega
            rw [tsF_e nn2 d2 (by rw [← i2 zp, e]; exact f3)]
            refine ⟨?_, fun _ => ?_, fun i hi => ?_⟩
            · show X.2.1 + 1 = _ + 1; rw [i1]
            · show co k = _; rw [← i2 zp]; exact f3
            · have hi : i < X.2.1 + 1 := hi
              show upd _ X.2.1 _ i = upd _ _ _ i
              rw [← i1]
              unfold upd
              by_cases q : i = X.2.1
              · rw [if_pos q, if_pos q]
              · rw [if_neg q, if_neg q]; exact i3 i (by omega)
    · rw [frF_n co r0 c0 c, tsF_u ((h k (by omega)).2 c)]
      exact ⟨i1, i2, i3⟩
/-- the LEAST STORIES of the class are those of the reference -/
theorem ls_rel {rows lv : Nat → Int32} {z : Nat} {cc ia is kn : Int32} {df da dm dw : Nat → Int32} {mi fo : Int32} {tk tm : Nat → Int32} {tn : Nat} (hD : DEr df da dm dw mi fo tn) (h : LSok rows lv z cc ia is kn df da dm dw (thOf tm tn) (teOf tk tm tn) mi fo tm tn) (r1 : Nat → Int32) (c1 : Int32) : RSr (rows, z, cc) (tsF (coM kn df da dm dw tk tm tn mi fo) r1 c1 1024) := by
  obtain ⟨⟨r0, c0, e1, e2, e3⟩, -⟩ := h
  have key := fr_ts (ok := okS kn da dm dw (thOf tm tn) (teOf tk tm tn)) (co := coS df da dm dw (thOf tm tn) mi fo tm tn) (co2 := coM kn df da dm dw tk tm tn mi fo) (r0 := r0) (r1 := r1) (c0 := c0) (c1 := c1) (N := 1024) (fun k hk => ?_) 1024 (Nat.le_refl _)
  · obtain ⟨k1, k2, k3⟩ := key
    refine ⟨?_, ?_, ?_⟩
    · show z = _; rw [e2]; exact k1
    · show 0 < z → cc = _; rw [e2, e3]; exact k2
    · show ∀ i, i < z → rows i = _; rw [e2, e1]; exact k3
  · constructor
    · intro c
      obtain ⟨d1, d2⟩ := of_decide_eq_true c
      refine ⟨?_, upN_nn (by decide) (pr_nn hD _ _)⟩
      rw [coM_y d1, cs_eq (fun k hk => (hD.1 k hk).2.2.1), if_pos d2]; rfl
    · intro c
      by_cases d1 : nI k &&& (kn ^^^ (-1)) = 0
      · rw [coM_y d1, cs_eq (fun k hk => (hD.1 k hk).2.2.1), if_neg (fun d2 => c (okS_t d1 d2)), m1_i]; omega
      · rw [coM_n d1, m1_i]; omega
