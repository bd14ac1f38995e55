/-! sure, parts, ask, cost, count, known DEEDS, TIES dropped: class and reference agree -/
theorem bv_nI (x : Int32) {i : Nat} (hi : i < 32) : (x >>> (nI i &&& 31)) &&& 1 = nI (if bitB x i = true then 1 else 0) := by
  by_cases c : bitB x i = true
  · rw [if_pos c]; exact (bit1_iff x hi).mpr c
  · rw [if_neg c]; exact (bit_iff x hi).mpr (by cases e : bitB x i; rfl; exact absurd e c)
/-- how many of the first k have bit i -/
def ctB (rows : Nat → Int32) (i : Nat) : Nat → Nat
  | 0 => 0
  | k + 1 => ctB rows i k + (if bitB (rows k) i = true then 1 else 0)
theorem ctB_le (rows : Nat → Int32) (i : Nat) : ∀ k, ctB rows i k ≤ k
  | 0 => Nat.le_refl _
  | k + 1 => by
    show ctB rows i k + _ ≤ _
    have := ctB_le rows i k
    split <;> omega
theorem suC_ct {rows : Nat → Int32} {i : Nat} (hi : i < 32) : ∀ k, suC rows i k = nI (ctB rows i k)
  | 0 => rfl
  | k + 1 => by
    show suC rows i k + _ = nI (ctB rows i k + _)
    rw [suC_ct hi k, bv_nI _ hi, nI_add]
theorem ctB_cg {f g : Nat → Int32} {i : Nat} : ∀ {k : Nat}, (∀ j, j < k → f j = g j) → ctB f i k = ctB g i k
  | 0, _ => rfl
  | k + 1, h => by
    show ctB f i k + _ = ctB g i k + _
    rw [ctB_cg (fun j hj => h j (by omega)), h k (by omega)]
theorem ia_bit {rows : Nat → Int32} {i : Nat} (hi : i < 10) : ∀ k, (bitB (iaF rows k) i = true ↔ ctB rows i k = k)
  | 0 => by
    constructor
    · intro _; rfl
    · intro _; exact (by decide : ∀ i, i < 10 → bitB 1023 i = true) i hi
  | k + 1 => by
    have ih := ia_bit (rows := rows) hi k
    have l := ctB_le rows i k
    show bitB (iaF rows k &&& rows k) i = true ↔ ctB rows i k + _ = k + 1
    rw [bitB_and, Bool.and_eq_true, ih]
    by_cases c : bitB (rows k) i = true
    · rw [if_pos c]
      constructor
      · rintro ⟨z, -⟩; omega
      · intro z; exact ⟨by omega, c⟩
    · rw [if_neg c]
      constructor
      · rintro ⟨-, z⟩; exact absurd z c
      · intro z; omega
theorem is_bit {rows : Nat → Int32} {i : Nat} : ∀ k, (bitB (isF rows k) i = true ↔ ctB rows i k ≠ 0)
  | 0 => by
    constructor
    · intro z; rw [show isF rows 0 = 0 from rfl, bitB_0] at z; cases z
    · intro z; exact absurd rfl z
  | k + 1 => by
    have ih := is_bit (rows := rows) (i := i) k
    show bitB (isF rows k ||| rows k) i = true ↔ ctB rows i k + _ ≠ 0
    rw [bitB_or, Bool.or_eq_true, ih]
    by_cases c : bitB (rows k) i = true
    · rw [if_pos c]
      constructor
      · intro _; omega
      · intro _; exact Or.inr c
    · rw [if_neg c]
      constructor
      · rintro (z | z)
        · omega
        · exact absurd z c
      · intro z; exact Or.inl (by omega)
theorem bit0_f {x : Int32} {i : Nat} (hi : i < 32) : ¬ bit0 x i ↔ bitB x i = true := by
  rw [bit_iff x hi]
  cases bitB x i <;> decide
/-- sure -/
theorem su_rel {rows rows' : Nat → Int32} {z i : Nat} (hi : i < 10) (hz : z ≤ 1024) (hr : ∀ j, j < z → rows j = rows' j) : suV (iaF rows z) (isF rows z) i = smV (suC rows' i z) z ∨ z = 0 := by
  by_cases z0 : z = 0
  · exact Or.inr z0
  left
  rw [suC_ct (by omega), ← ctB_cg hr]
  have l := ctB_le rows i z
  unfold suV smV
  have e1 : (¬ bit0 (iaF rows z) i) ↔ ctB rows i z = z := by rw [bit0_f (by omega), ia_bit hi]
  have e2 : (¬ bit0 (isF rows z) i) ↔ ctB rows i z ≠ 0 := by rw [bit0_f (by omega), is_bit]
  by_cases c : ctB rows i z = z
  · rw [if_pos (e1.mpr c), if_pos (by rw [c])]
  · rw [if_neg (fun y => c (e1.mp y)), if_neg (fun y => c ((nI_eq (by omega) (by omega)).mp y))]
    by_cases d : ctB rows i z = 0
    · rw [if_neg (fun y => e2.mp y d), if_pos (by rw [d]; rfl)]
    · rw [if_pos (e2.mpr d), if_neg (show ¬ nI (ctB rows i z) = 0 from fun y => d ((nI_eq (b := 0) (by omega) (by omega)).mp y))]
theorem lf_eq (da dm dw : Nat → Int32) (b : Int32) : lfM da dm dw b = lfS da dm dw b := by
  unfold lfM lfS; rw [tog_eq, tog_eq, tog_eq]
theorem lv_eq {da dm dw rows rows' : Nat → Int32} {i : Nat} (hi : i < 32) : ∀ {k : Nat}, (∀ j, j < k → rows j = rows' j) → lvM da dm dw rows' i k = lvC da dm dw rows i k ∧ ∃ c, c ≤ k ∧ lvC da dm dw rows i k = nI c
  | 0, _ => ⟨rfl, 0, Nat.le_refl _, rfl⟩
  | k + 1, h => by
    obtain ⟨h1, c, hc, e⟩ := lv_eq (da := da) (dm := dm) (dw := dw) (k := k) hi (fun j hj => h j (by omega))
    refine ⟨?_, c + (if bitB (lfS da dm dw (rows k)) i = true then 1 else 0), by split <;> omega, ?_⟩
    · show lvM da dm dw rows' i k + _ = lvC da dm dw rows i k + _
      rw [h1, lf_eq, h k (by omega)]
    · show lvC da dm dw rows i k + _ = _
      rw [e, bv_nI _ hi, nI_add]
/-- parts -/
theorem pt_rel {lv : Nat → Int32} {n : Int32} {z i : Nat} (h : lv i = n) : pdB z lv i = ptM n z := by
  unfold pdB ptM
  rw [h]
  by_cases c : nI z - n < n
  · rw [if_pos c, if_pos (by have := Int32.lt_iff_toInt_lt.mp c; omega)]
  · have c2 : ¬ (nI z - n).toInt < n.toInt := fun y => c (Int32.lt_iff_toInt_lt.mpr y)
    rw [if_neg c]
    by_cases d : (nI z - n).toInt ≤ n.toInt
    · rw [if_pos d]; exact Int32.toInt_inj.mp (by omega)
    · rw [if_neg d]
theorem pt_nn {c z : Nat} (h : c ≤ z) (hz : z ≤ 1024) : 0 ≤ (ptM (nI c) z).toInt := by
  unfold ptM
  rw [pk_sub h]
  split
  · rw [nI_toInt (by omega)]; omega
  · rw [nI_toInt (by omega)]; omega
/-- ask -/
theorem aq_rel {th : Int32} {pb pb' : Nat → Int32} : ∀ {n : Nat}, (∀ i, i < n → pb i = pb' i ∧ 0 ≤ (pb i).toInt) → (aqF th pb' n = none ∧ askF th pb n = (none, -1)) ∨ ∃ q, q < n ∧ aqF th pb' n = some q ∧ askF th pb n = (some q, pb q)
  | 0, _ => Or.inl ⟨rfl, rfl⟩
  | n + 1, h => by
    have ih := aq_rel (th := th) (n := n) (fun i hi => h i (by omega))
    obtain ⟨e, nn⟩ := h n (by omega)
    by_cases c : bit0 th n
    · rcases ih with ⟨h1, h2⟩ | ⟨q, hq, h1, h2⟩
      · right
        refine ⟨n, by omega, aqF_0 c h1, ?_⟩
        rw [askF_3 c (by rw [h2]; show ¬ _ ≤ (-1 : Int32).toInt; rw [m1_i]; omega)]
      · right
        obtain ⟨e2, -⟩ := h q (by omega)
        by_cases d : (pb n).toInt ≤ (pb q).toInt
        · refine ⟨q, by omega, aqF_1 c h1 (by rw [← e, ← e2]; exact d), ?_⟩
          rw [askF_2 c (by rw [h2]; exact d), h2]
        · refine ⟨n, by omega, aqF_2 c h1 (by rw [← e, ← e2]; exact d), ?_⟩
          rw [askF_3 c (by rw [h2]; exact d)]
    · rw [aqF_x c, askF_1 c]
      rcases ih with h1 | ⟨q, hq, h1⟩
      · exact Or.inl h1
      · exact Or.inr ⟨q, by omega, h1⟩
theorem ask_rel {th : Int32} {pb pb' : Nat → Int32} {z : Nat} (h : ∀ i, i < 16 → pb i = pb' i ∧ 0 ≤ (pb i).toInt) : aqK z (askF th pb 16).1 = onK (aqR z th pb') ∧ rz (aqK z (askF th pb 16).1) (oI (askF th pb 16).1).toInt64 = rz (onK (aqR z th pb')) (oI (aqR z th pb')).toInt64 := by
  have e : (askF th pb 16).1 = aqF th pb' 16 := by
    rcases aq_rel (th := th) h with ⟨h1, h2⟩ | ⟨q, hq, h1, h2⟩
    · rw [h1, h2]
    · rw [h1, h2]
  rw [e]
  unfold aqK aqR onK
  by_cases z0 : z = 0
  · rw [if_pos z0, if_pos z0, if_pos rfl]; exact ⟨rfl, rfl⟩
  · rw [if_neg z0, if_neg z0]; exact ⟨rfl, rfl⟩
/-- known DEEDS -/
theorem kn_bit (kb : Nat → Int32) {i : Nat} (hi : i < 32) : ∀ k, k ≤ 32 → bitB (knF kb k) i = decide (i < k ∧ ¬ kb i = 0)
  | 0, _ => by rw [decide_eq_false (by omega)]; exact bitB_0 i
  | k + 1, hk => by
    have ih := kn_bit kb hi k (by omega)
    by_cases c : kb k = 0
    · rw [knF_y c, Int32.or_zero, ih]
      refine decide_eq_decide.mpr ⟨fun z => ⟨by omega, z.2⟩, fun z => ⟨?_, z.2⟩⟩
      rcases Nat.lt_or_ge i k with q | q
      · exact q
      · have e : i = k := by omega
        exact absurd (e ▸ c) z.2
    · rw [knF_n c, bitB_or, ih, bitB_1 k (by omega) i hi]
      by_cases e : i = k
      · subst e
        rw [decide_eq_true (p := i = i) rfl, Bool.or_true]
        exact (decide_eq_true ⟨by omega, c⟩).symm
      · rw [decide_eq_false e, Bool.or_false]
        exact decide_eq_decide.mpr ⟨fun z => ⟨by omega, z.2⟩, fun z => ⟨by omega, z.2⟩⟩
theorem kn_set (kb : Nat → Int32) {j : Nat} (hj : j < 10) {v : Int32} (hv : ¬ v = 0) : knF (upd kb j v) 10 = knF kb 10 ||| (1 <<< (nI j &&& 31)) := by
  refine bitB_ext (fun i hi => ?_)
  rw [kn_bit _ hi 10 (by omega), bitB_or, kn_bit _ hi 10 (by omega), bitB_1 j (by omega) i hi]
  unfold upd
  by_cases e : i = j
  · subst e
    rw [if_pos rfl, decide_eq_true (p := i = i) rfl, Bool.or_true]
    exact decide_eq_true ⟨hj, hv⟩
  · rw [if_neg e, decide_eq_false e, Bool.or_false]
theorem kn_clr (kb : Nat → Int32) {j : Nat} (hj : j < 10) : knF (upd kb j 0) 10 = knF kb 10 &&& ((1 <<< (nI j &&& 31)) ^^^ (-1)) := by
  refine bitB_ext (fun i hi => ?_)
  rw [kn_bit _ hi 10 (by omega), bitB_and, kn_bit _ hi 10 (by omega), bitB_not _ hi, bitB_1 j (by omega) i hi]
  unfold upd
  by_cases e : i = j
  · subst e
    rw [if_pos rfl, decide_eq_true (p := i = i) rfl, decide_eq_false (fun z => z.2 rfl)]
    exact (Bool.and_false _).symm
  · rw [if_neg e, decide_eq_false e]
    exact (Bool.and_true _).symm
theorem kn_0 (kb : Nat → Int32) {j : Nat} (hj : j < 10) : bit0 (knF kb 10) j ↔ kb j = 0 := by
  rw [bit_iff _ (by omega), kn_bit kb (by omega) 10 (by omega)]
  by_cases c : kb j = 0
  · rw [decide_eq_false (fun z => z.2 c)]; exact ⟨fun _ => c, fun _ => rfl⟩
  · rw [decide_eq_true (p := j < 10 ∧ ¬ kb j = 0) ⟨hj, c⟩]; exact ⟨fun z => (by cases z), fun z => absurd z c⟩
theorem kn_16 (kb : Nat → Int32) : ∀ k, k ≤ 10 → m16 (knF kb k)
  | 0, _ => m16_0
  | k + 1, hk => by
    have ih := kn_16 kb k (by omega)
    by_cases c : kb k = 0
    · rw [knF_y c]; exact m16_or ih m16_0
    · rw [knF_n c]; exact m16_or ih ((by decide : ∀ k, k < 10 → okMk (1 <<< (nI k &&& 31))) k (by omega) |> m16_mk)
theorem th_16 {tm : Nat → Int32} : ∀ {n : Nat}, (∀ i, i < n → ∃ q, q < 16 ∧ tm i = nI q) → m16 (thOf tm n)
  | 0, _ => m16_0
  | n + 1, h => by
    obtain ⟨q, hq, e⟩ := h n (by omega)
    show m16 (thOf tm n ||| (1 <<< (tm n &&& 31)))
    rw [e]
    exact m16_or (th_16 (fun i hi => h i (by omega))) ((by decide : ∀ k, k < 16 → okMk (1 <<< (nI k &&& 31))) q hq |> m16_mk)
theorem rz_1v (v : Int64) : rz 1 v = lowF 1 := rfl
/-- cost -/
theorem co_rel {df da dm dw tk tm kb : Nat → Int32} {tn : Nat} {mi fo : Int32} (hD : DEr df da dm dw mi fo tn) (x : Int32) : cmK x (knF kb 10) (csM df da dm dw tk tm tn mi fo x) = coK x (knF kb 10) (tog da x 10) (tog dm x 10) (tog dw x 10) (thOf tm tn) (teOf tk tm tn) ∧ rz (cmK x (knF kb 10) (csM df da dm dw tk tm tn mi fo x)) (csM df da dm dw tk tm tn mi fo x).toInt64 = rz (coK x (knF kb 10) (tog da x 10) (tog dm x 10) (tog dw x 10) (thOf tm tn) (teOf tk tm tn)) (prOf (feeS df x 10) (tog da x 10) (tog dm x 10) (tog dw x 10) (thOf tm tn) mi fo tm tn).toInt64 := by
  rw [cs_eq (fun k hk => (hD.1 k hk).2.2.1)]
  have nn := upN_nn (by decide) (pr_nn (tm := tm) hD x (thOf tm tn))
  generalize prOf (feeS df x 10) (tog da x 10) (tog dm x 10) (tog dw x 10) (thOf tm tn) mi fo tm tn = P at *
  by_cases c : x.toInt < 0
  · have d : ¬ (x &&& (knF kb 10 ^^^ (-1)) = 0) := by
      intro z
      have b31 : bitB x 31 = true := by
        show x.toBitVec.getLsbD 31 = true
        have e : x.toBitVec.msb = true := by rw [BitVec.msb_eq_toInt]; exact decide_eq_true c
        rw [BitVec.msb_eq_getLsbD_last] at e; exact e
      have y := bitB_and x (knF kb 10 ^^^ (-1)) 31
      rw [z, bitB_0, b31, bitB_not _ (by omega), kn_bit kb (by omega) 10 (by omega), decide_eq_false (by omega)] at y
      cases y
    have e1 : ∀ cs, cmK x (knF kb 10) cs = 1 := fun cs => if_pos c
    have e2 : coK x (knF kb 10) (tog da x 10) (tog dm x 10) (tog dw x 10) (thOf tm tn) (teOf tk tm tn) = 1 := if_pos d
    rw [e1, e2, rz_1v, rz_1v]; exact ⟨rfl, rfl⟩
  · by_cases d : x &&& (knF kb 10 ^^^ (-1)) = 0
    · by_cases e : psB (tog da x 10) (tog dm x 10) (tog dw x 10) (thOf tm tn) (teOf tk tm tn)
      · have e1 : cmK x (knF kb 10) P = 0 := (if_neg c).trans ((if_neg (fun z => z d)).trans (if_neg (by omega)))
        have e2 : coK x (knF kb 10) (tog da x 10) (tog dm x 10) (tog dw x 10) (thOf tm tn) (teOf tk tm tn) = 0 := (if_neg (fun z => z d)).trans (if_pos e)
        rw [if_pos e, e1, e2]; exact ⟨rfl, rfl⟩
      · have e1 : cmK x (knF kb 10) (-1) = 5 := (if_neg c).trans ((if_neg (fun z => z d)).trans (if_pos (by rw [m1_i]; omega)))
        have e2 : coK x (knF kb 10) (tog da x 10) (tog dm x 10) (tog dw x 10) (thOf tm tn) (teOf tk tm tn) = 5 := (if_neg (fun z => z d)).trans (if_neg e)
        rw [if_neg e, e1, e2, rz_5, rz_5]; exact ⟨rfl, rfl⟩
    · have e1 : ∀ cs, cmK x (knF kb 10) cs = 1 := fun cs => (if_neg c).trans (if_pos d)
      have e2 : coK x (knF kb 10) (tog da x 10) (tog dm x 10) (tog dw x 10) (thOf tm tn) (teOf tk tm tn) = 1 := if_pos d
      rw [e1, e2, rz_1v, rz_1v]; exact ⟨rfl, rfl⟩
/-- TIES dropped -/
theorem cmpF_lo {f : Nat → Int32} {K : Nat → Bool} {n j : Nat} (h : K n = true → j < kpt K n) : cmpF f K (n + 1) j = cmpF f K n j := by
  rw [cmpF_s]
  by_cases c : K n = true
  · rw [if_pos c]; exact pk_un (by have := h c; omega)
  · rw [if_neg c]
theorem cmp_sel (K : Nat → Bool) : ∀ (n j : Nat), j < kpt K n → ∃ i, i < n ∧ K i = true ∧ ∀ f, cmpF f K n j = f i
  | 0, j, h => absurd h (by show ¬ j < 0; omega)
  | n + 1, j, h => by
    rw [kpt_s] at h
    by_cases c : K n = true
    · rw [if_pos c] at h
      rcases Nat.lt_or_ge j (kpt K n) with q | q
      · obtain ⟨i, hi, h1, h2⟩ := cmp_sel K n j q
        exact ⟨i, by omega, h1, fun f => by rw [cmpF_lo (fun _ => q)]; exact h2 f⟩
      · have e : j = kpt K n := by omega
        exact ⟨n, by omega, c, fun f => by rw [cmpF_s, if_pos c, e]; exact pk_us⟩
    · rw [if_neg c] at h
      obtain ⟨i, hi, h1, h2⟩ := cmp_sel K n j h
      exact ⟨i, by omega, h1, fun f => by rw [cmpF_s, if_neg c]; exact h2 f⟩
theorem drD_ok {ta tb td : Nat → Int32} {t : Int32} : ∀ (i : Nat) (a b d : Nat → Int32) (m : Nat), i ≤ m → (∀ j, j < i → a j = ta j ∧ b j = tb j ∧ d j = td j) →
    (drD t i (a, b, d, m)).2.2.2 = kpt (tieK ta tb t) i + (m - i) ∧
    (∀ j, j < kpt (tieK ta tb t) i → (drD t i (a, b, d, m)).1 j = cmpF ta (tieK ta tb t) i j ∧ (drD t i (a, b, d, m)).2.1 j = cmpF tb (tieK ta tb t) i j ∧ (drD t i (a, b, d, m)).2.2.1 j = cmpF td (tieK ta tb t) i j) ∧
    ∀ j, kpt (tieK ta tb t) i ≤ j → j < kpt (tieK ta tb t) i + (m - i) → (drD t i (a, b, d, m)).1 j = a (i + (j - kpt (tieK ta tb t) i)) ∧ (drD t i (a, b, d, m)).2.1 j = b (i + (j - kpt (tieK ta tb t) i)) ∧ (drD t i (a, b, d, m)).2.2.1 j = d (i + (j - kpt (tieK ta tb t) i))
  | 0, a, b, d, m, _, _ => by
    refine ⟨?_, fun j hj => absurd hj (by show ¬ j < 0; omega), fun j _ _ => ?_⟩
    · show m = 0 + (m - 0); omega
    · show a j = a (0 + (j - 0)) ∧ b j = b (0 + (j - 0)) ∧ d j = d (0 + (j - 0))
      rw [show 0 + (j - 0) = j by omega]; exact ⟨rfl, rfl, rfl⟩
  | i + 1, a, b, d, m, hm, h => by
    obtain ⟨ea, eb, ed⟩ := h i (by omega)
    by_cases c : a i = t ∨ b i = t
    · have kf : ¬ tieK ta tb t i = true := by
        intro z
        have z := of_decide_eq_true z
        rw [← ea, ← eb] at z
        exact c.elim z.1 z.2
      have ek : kpt (tieK ta tb t) (i + 1) = kpt (tieK ta tb t) i := by rw [kpt_s, if_neg kf]
      have er : drD t (i + 1) (a, b, d, m) = drD t i (rmS a i m, rmS b i m, rmS d i m, m - 1) := (drD_y rfl c).symm
      obtain ⟨h1, h2, h3⟩ := drD_ok (td := td) i (rmS a i m) (rmS b i m) (rmS d i m) (m - 1) (by omega) (fun j hj => by
        unfold rmS
        rw [if_neg (by omega), if_neg (by omega), if_neg (by omega)]; exact h j (by omega))
      rw [er, ek]
      refine ⟨by rw [h1]; omega, fun j hj => ?_, fun j hj hj2 => ?_⟩
      · rw [cmpF_lo (fun z => absurd z kf), cmpF_lo (fun z => absurd z kf), cmpF_lo (fun z => absurd z kf)]; exact h2 j hj
      · obtain ⟨z1, z2, z3⟩ := h3 j hj (by omega)
        rw [z1, z2, z3]
        unfold rmS
        rw [if_pos (by omega), if_pos (by omega), if_pos (by omega), show i + (j - kpt (tieK ta tb t) i) + 1 = i + 1 + (j - kpt (tieK ta tb t) i) by omega]
        exact ⟨rfl, rfl, rfl⟩
    · have kt : tieK ta tb t i = true := tieK_t (fun z => c (Or.inl (ea.trans z))) (fun z => c (Or.inr (eb.trans z)))
      have ek : kpt (tieK ta tb t) (i + 1) = kpt (tieK ta tb t) i + 1 := by rw [kpt_s, if_pos kt]
      have er : drD t (i + 1) (a, b, d, m) = drD t i (a, b, d, m) := (drD_n rfl (fun z => c (Or.inl z)) (fun z => c (Or.inr z))).symm
      obtain ⟨h1, h2, h3⟩ := drD_ok (td := td) i a b d m (by omega) (fun j hj => h j (by omega))
      rw [er, ek]
      refine ⟨by rw [h1]; omega, fun j hj => ?_, fun j hj hj2 => ?_⟩
      · rcases Nat.lt_or_ge j (kpt (tieK ta tb t) i) with q | q
        · rw [cmpF_lo (fun _ => q), cmpF_lo (fun _ => q), cmpF_lo (fun _ => q)]; exact h2 j q
        · have e : j = kpt (tieK ta tb t) i := by omega
          obtain ⟨z1, z2, z3⟩ := h3 j q (by omega)
          rw [z1, z2, z3, cmpF_s, if_pos kt, cmpF_s, if_pos kt, cmpF_s, if_pos kt, e, pk_us, pk_us, pk_us, Nat.sub_self, Nat.add_zero]
          exact ⟨ea, eb, ed⟩
      · obtain ⟨z1, z2, z3⟩ := h3 j (by omega) (by omega)
        rw [z1, z2, z3, show i + (j - kpt (tieK ta tb t) i) = i + 1 + (j - (kpt (tieK ta tb t) i + 1)) by omega]
        exact ⟨rfl, rfl, rfl⟩
