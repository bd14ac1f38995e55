/-! SPANS and times of class and reference agree -/
theorem plOf_cg {f g : Nat → Int32} {r : Int32} : ∀ {n : Nat}, (∀ k, k < n → f k = g k) → plOf f r n = plOf g r n
  | 0, _ => rfl
  | n + 1, h => by rw [plOf_s, plOf_s, h n (by omega), plOf_cg (n := n) (fun k hk => h k (by omega))]
/-- the PIECES of the class and of the reference -/
def CKr (cf cl ch : Nat → Nat → Int32) (cn : Nat → Nat) (fr lw hg : Nat → Int32) : Prop := ∀ j, j < 4 → cn j ≤ 5 ∧ ∀ k, k < cn j → fr ((5 * j) + k) = cf j k ∧ lw ((5 * j) + k) = cl j k ∧ hg ((5 * j) + k) = ch j k ∧ okSh (cl j k) ∧ okSh (ch j k)
theorem add32_in {x y : Int32} (h1 : -2147483648 ≤ x.toInt + y.toInt) (h2 : x.toInt + y.toInt < 2147483648) : (x + y).toInt = x.toInt + y.toInt := by
  rw [Int32.toInt_add]
  exact Int.bmod_eq_of_le (by omega) (by omega)
theorem l64_i (x : Int32) : x.toInt64.toInt = x.toInt := Int32.toInt_toInt64 x
theorem neg32_in {x : Int32} (h : -2147483648 < x.toInt) : (-x).toInt = -x.toInt := by
  rw [Int32.toInt_neg]
  have := x.toInt_lt
  exact Int.bmod_eq_of_le (by omega) (by omega)
theorem neg64_in {x : Int64} (h : -9223372036854775808 < x.toInt) : (-x).toInt = -x.toInt := by
  rw [Int64.toInt_neg]
  have := x.toInt_lt
  exact Int.bmod_eq_of_le (by omega) (by omega)
theorem mnb_i : (-1152921504606846976 : Int64).toInt = -1152921504606846976 := by decide
section SPR
variable {cf cl ch : Nat → Nat → Int32} {cn : Nat → Nat} {fr lw hg : Nat → Int32} {jc : Nat → Nat} {tk tr : Nat → Int32} {i : Nat} {b : Int32}
/-- the ends of a SPAN -/
theorem sp_rel (hC : CKr cf cl ch cn fr lw hg) (hj : jc i < 4) (hr : okRd (tr i)) : (spC cf cl ch cn jc tk tr i b = (if b = 0 then (-1152921504606846976) else 1152921504606846976) ∧ spX fr lw hg cn jc tk tr i b = 1152921504606846976) ∨ ((spC cf cl ch cn jc tk tr i b).toInt = (spX fr lw hg cn jc tk tr i b).toInt ∧ -2000000 ≤ (spX fr lw hg cn jc tk tr i b).toInt ∧ (spX fr lw hg cn jc tk tr i b).toInt ≤ 2000000) := by
  have hc := hC (jc i) hj
  have ep : plOf (fun q => fr ((5 * jc i) + q)) (tr i) (cn (jc i)) = plOf (cf (jc i)) (tr i) (cn (jc i)) := plOf_cg (fun k hk => (hc.2 k hk).1)
  rcases h : plOf (cf (jc i)) (tr i) (cn (jc i)) with _ | k
  · left
    rw [h] at ep
    rw [spX_n ep]
    by_cases hb : b = 0
    · rw [spC_n0 h hb, if_pos hb]; exact ⟨rfl, rfl⟩
    · rw [spC_n1 h hb, if_neg hb]; exact ⟨rfl, rfl⟩
  · rw [h] at ep
    have hk := plOf_lt h
    obtain ⟨-, el, eh, sl, sh⟩ := hc.2 k hk
    by_cases hb : b = 0
    · right
      rw [spC_k h (fun z => z.1 hb), spX_l ep hb, if_pos hb, el, l64_i, add32_in (by omega) (by omega), addL_in (by rw [l64_i, l64_i]; omega) (by rw [l64_i, l64_i]; omega), l64_i, l64_i]
      refine ⟨rfl, ?_, ?_⟩ <;> omega
    · by_cases ht : tk i = 1
      · left
        rw [spC_c h hb ht, spX_c ep hb ht, if_neg hb]; exact ⟨rfl, rfl⟩
      · right
        rw [spC_k h (fun z => ht z.2), spX_h ep hb ht, if_neg hb, eh, l64_i, add32_in (by omega) (by omega), addL_in (by rw [l64_i, l64_i]; omega) (by rw [l64_i, l64_i]; omega), l64_i, l64_i]
        refine ⟨rfl, ?_, ?_⟩ <;> omega
theorem sp_up (hC : CKr cf cl ch cn fr lw hg) (hj : jc i < 4) (hr : okRd (tr i)) : vC (spC cf cl ch cn jc tk tr i 1) = vM (spX fr lw hg cn jc tk tr i 1) ∧ okC (spC cf cl ch cn jc tk tr i 1) ∧ okM (spX fr lw hg cn jc tk tr i 1) := by
  rcases sp_rel (tk := tk) (b := 1) hC hj hr with ⟨h1, h2⟩ | ⟨h1, h2, h3⟩
  · rw [if_neg (by decide)] at h1
    rw [h1, h2]
    exact ⟨by rw [vC_n (by rw [nb_i]; omega), vM_n far_i], Or.inl nb_i, Or.inl far_i⟩
  · refine ⟨?_, Or.inr (by omega), Or.inr (by omega)⟩
    rw [vC_s (by omega), vM_s (by omega), h1]
theorem sp_lo (hC : CKr cf cl ch cn fr lw hg) (hj : jc i < 4) (hr : okRd (tr i)) : vC (-(spC cf cl ch cn jc tk tr i 0)) = vM (ngF (spX fr lw hg cn jc tk tr i 0)) ∧ okC (-(spC cf cl ch cn jc tk tr i 0)) ∧ okM (ngF (spX fr lw hg cn jc tk tr i 0)) := by
  rcases sp_rel (tk := tk) (b := 0) hC hj hr with ⟨h1, h2⟩ | ⟨h1, h2, h3⟩
  · rw [if_pos rfl] at h1
    rw [h1, h2]
    have e1 : (-(-1152921504606846976 : Int64)).toInt = 1152921504606846976 := by decide
    have e2 : (ngF 1152921504606846976).toInt = 1152921504606846976 := by decide
    exact ⟨by rw [vC_n (by rw [e1]; omega), vM_n e2], Or.inl e1, Or.inl e2⟩
  · unfold ngF
    rw [if_neg (by omega)]
    have e1 := neg64_in (x := spC cf cl ch cn jc tk tr i 0) (by omega)
    have e2 := neg64_in (x := spX fr lw hg cn jc tk tr i 0) (by omega)
    refine ⟨?_, Or.inr (by omega), Or.inr (by omega)⟩
    rw [vC_s (by omega), vM_s (by omega), e1, e2, h1]
end SPR
theorem wTF_cg {lo up lo' up' : Nat → Option Int} {S : Nat → Bool} {an bn : Nat → Nat} {tv tv' : Nat → Int} {tn im : Nat} (hS : ∀ t, S t = true → t < tn) (h1 : ∀ t, t < tn → lo t = lo' t) (h2 : ∀ t, t < tn → up t = up' t) (h3 : ∀ i, i < im → tv i = tv' i) : ∀ k, k ≤ im → ∀ p q, wTF lo up S an bn tv k p q = wTF lo' up' S an bn tv' k p q
  | 0, _, p, q => by
    show w0F lo up S p q = w0F lo' up' S p q
    unfold w0F
    by_cases e : p = q
    · rw [if_pos e, if_pos e]
    · rw [if_neg e, if_neg e]
      by_cases z : p = 0
      · rw [if_pos z, if_pos z]
        by_cases s : S (q - 1) = true
        · rw [if_pos s, if_pos s]; exact h2 _ (hS _ s)
        · rw [if_neg s, if_neg s]
      · rw [if_neg z, if_neg z]
        by_cases y : q = 0
        · rw [if_pos y, if_pos y]
          by_cases s : S (p - 1) = true
          · rw [if_pos s, if_pos s]; exact h1 _ (hS _ s)
          · rw [if_neg s, if_neg s]
        · rw [if_neg y, if_neg y]
  | k + 1, hk, p, q => by rw [wTF_s, wTF_s, wTF_cg hS h1 h2 h3 k (by omega), h3 k (by omega)]
theorem wTF_d {lo up : Nat → Option Int} {S : Nat → Bool} {an bn : Nat → Nat} {tv : Nat → Int} {im : Nat} (hd : ∀ i, i < im → an i ≠ bn i) : ∀ k, k ≤ im → ∀ p, wTF lo up S an bn tv k p p = some 0
  | 0, _, p => by show w0F lo up S p p = _; unfold w0F; rw [if_pos rfl]
  | k + 1, hk, p => by
    rw [wTF_s, if_neg (fun z => hd k (by omega) (by omega)), wTF_d hd k (by omega)]
theorem wTF_o {lo up : Nat → Option Int} {S : Nat → Bool} {an bn : Nat → Nat} {tv : Nat → Int} {tn : Nat} (hS : ∀ t, S t = true → t < tn) {p q : Nat} (hpq : p ≠ q) (ho : tn < p ∨ tn < q) : ∀ k, wTF lo up S an bn tv k p q = none
  | 0 => by
    show w0F lo up S p q = _
    unfold w0F
    rw [if_neg hpq]
    by_cases z : p = 0
    · rw [if_pos z, if_neg (fun s => by have := hS _ s; omega)]
    · rw [if_neg z]
      by_cases y : q = 0
      · rw [if_pos y, if_neg (fun s => by have := hS _ s; omega)]
      · rw [if_neg y]
  | k + 1 => by
    rw [wTF_s, if_neg (fun z => by have h1 := hS _ z.1.1; have h2 := hS _ z.1.2; omega), wTF_o hS hpq ho k]
/-- what holds of TRACES and TIES on both sides -/
def TTr (cf cl ch : Nat → Nat → Int32) (cn : Nat → Nat) (fr lw hg : Nat → Int32) (jc : Nat → Nat) (tr : Nat → Int32) (tn : Nat) (an bn : Nat → Nat) (ta tb td ta' tb' td' : Nat → Int32) (im : Nat) : Prop :=
  CKr cf cl ch cn fr lw hg ∧ tn ≤ 12 ∧ (∀ i, i < tn → jc i < 4 ∧ okRd (tr i)) ∧ ∀ i, i < im → ta i = nI (an i) ∧ tb i = nI (bn i) ∧ an i < tn ∧ bn i < tn ∧ an i ≠ bn i ∧ okSh (td i) ∧ ta' i = ta i ∧ tb' i = tb i ∧ td' i = td i
section TTR
variable {cf cl ch : Nat → Nat → Int32} {cn : Nat → Nat} {fr lw hg : Nat → Int32} {jc : Nat → Nat} {tk tr : Nat → Int32} {tn : Nat} {an bn : Nat → Nat} {ta tb td ta' tb' td' : Nat → Int32} {im : Nat}
theorem TTr.hC (h : TTr cf cl ch cn fr lw hg jc tr tn an bn ta tb td ta' tb' td' im) : CKr cf cl ch cn fr lw hg := h.1
theorem TTr.hn (h : TTr cf cl ch cn fr lw hg jc tr tn an bn ta tb td ta' tb' td' im) : tn ≤ 12 := h.2.1
theorem TTr.ht (h : TTr cf cl ch cn fr lw hg jc tr tn an bn ta tb td ta' tb' td' im) : ∀ i, i < tn → jc i < 4 ∧ okRd (tr i) := h.2.2.1
theorem TTr.hi (h : TTr cf cl ch cn fr lw hg jc tr tn an bn ta tb td ta' tb' td' im) : ∀ i, i < im → ta i = nI (an i) ∧ tb i = nI (bn i) ∧ an i < tn ∧ bn i < tn ∧ an i ≠ bn i ∧ okSh (td i) ∧ ta' i = ta i ∧ tb' i = tb i ∧ td' i = td i := h.2.2.2
def loW (cf cl ch : Nat → Nat → Int32) (cn jc : Nat → Nat) (tk tr : Nat → Int32) (t : Nat) : Option Int := vC (-(spC cf cl ch cn jc tk tr t 0))
def upW (cf cl ch : Nat → Nat → Int32) (cn jc : Nat → Nat) (tk tr : Nat → Int32) (t : Nat) : Option Int := vC (spC cf cl ch cn jc tk tr t 1)
def tvW (td : Nat → Int32) (i : Nat) : Int := (-(td i)).toInt64.toInt
def wAll (cf cl ch : Nat → Nat → Int32) (cn jc : Nat → Nat) (tk tr : Nat → Int32) (an bn : Nat → Nat) (td : Nat → Int32) (im : Nat) (S : Nat → Bool) : Nat → Nat → Option Int := wTF (loW cf cl ch cn jc tk tr) (upW cf cl ch cn jc tk tr) S an bn (tvW td) im
theorem mat_C (h : TTr cf cl ch cn fr lw hg jc tr tn an bn ta tb td ta' tb' td' im) (ms : Nat → Int64) {S : Nat → Bool} {xo : Int32} (hS : ∀ t, t < tn → (S t = true ↔ ¬ nI t = xo)) : ∀ p q, p ≤ tn → q ≤ tn → mC (gbA ms cf cl ch cn jc tk tr tn an bn ta tb td im xo) p q = wAll cf cl ch cn jc tk tr an bn td im S p q ∧ okC (gbA ms cf cl ch cn jc tk tr tn an bn ta tb td im xo ((p * 13) + q)) := by
  intro p q hp hq
  have hu : ∀ t, t < tn → okC (spC cf cl ch cn jc tk tr t 1) := fun t ht => (sp_up h.hC (h.ht t ht).1 (h.ht t ht).2).2.1
  have hl : ∀ t, t < tn → okC (-(spC cf cl ch cn jc tk tr t 0)) := fun t ht => (sp_lo h.hC (h.ht t ht).1 (h.ht t ht).2).2.1
  have le : ∀ x, okC x → x.toInt ≤ 1152921504606846976 := fun x hx => by rcases hx with z | z <;> omega
  refine gbI_v h.hn (fun p q hp hq => ?_) (fun i hi => ⟨(h.hi i hi).1, (h.hi i hi).2.1, (h.hi i hi).2.2.1, (h.hi i hi).2.2.2.1⟩) (fun i hi => ?_) hS im (Nat.le_refl _) p q hp hq
  · unfold mC
    rw [gbT_ok h.hn (fun t ht => le _ (hu t ht)) (fun t ht => le _ (hl t ht)) hS tn (Nat.le_refl _) p q hp hq]
    unfold w0F loW upW
    by_cases e : p = q
    · rw [if_pos e, if_pos e]; exact ⟨vC_s (by rw [z64_i]; omega), Or.inr (by rw [z64_i]; omega)⟩
    · rw [if_neg e, if_neg e]
      by_cases z : p = 0
      · rw [if_pos z, if_pos z]
        by_cases s : S (q - 1) = true
        · rw [if_pos ⟨hq, s⟩, if_pos s]; exact ⟨rfl, hu _ (by omega)⟩
        · rw [if_neg (fun w => s w.2), if_neg s]; exact ⟨vC_n (by rw [nb_i]; omega), Or.inl nb_i⟩
      · rw [if_neg z, if_neg z]
        by_cases y : q = 0
        · rw [if_pos y, if_pos y]
          by_cases s : S (p - 1) = true
          · rw [if_pos ⟨hp, s⟩, if_pos s]; exact ⟨rfl, hl _ (by omega)⟩
          · rw [if_neg (fun w => s w.2), if_neg s]; exact ⟨vC_n (by rw [nb_i]; omega), Or.inl nb_i⟩
        · rw [if_neg y, if_neg y]; exact ⟨vC_n (by rw [nb_i]; omega), Or.inl nb_i⟩
  · have hd := (h.hi i hi).2.2.2.2.2.1
    refine ⟨rfl, ?_⟩
    unfold tvW
    rw [l64_i, neg32_in (by omega)]; omega
theorem mat_M (h : TTr cf cl ch cn fr lw hg jc tr tn an bn ta tb td ta' tb' td' im) {S : Nat → Bool} {st : Int32} (hS : ∀ t, t < tn → (S t = true ↔ (st >>> (nI t &&& 31)) &&& 1 = 1)) (hSo : ∀ t, S t = true → t < tn) : ∀ x y, x < 13 → y < 13 → mM (mbA fr lw hg cn jc tk tr tn an bn ta' tb' td' im st) x y = wAll cf cl ch cn jc tk tr an bn td im S (gN x) (gN y) ∧ okM (mbA fr lw hg cn jc tk tr tn an bn ta' tb' td' im st ((13 * x) + y)) := by
  intro x y hx hy
  have hn := h.hn
  have hu := fun t ht => sp_up (tk := tk) h.hC (h.ht t ht).1 (h.ht t ht).2
  have hl := fun t ht => sp_lo (tk := tk) h.hC (h.ht t ht).1 (h.ht t ht).2
  have le : ∀ x, okM x → x.toInt ≤ 1152921504606846976 := fun x hx => by rcases hx with z | z <;> omega
  have key := tsM_v (tv := tvW td') (lo := loW cf cl ch cn jc tk tr) (up := upW cf cl ch cn jc tk tr) (m0 := trM inC (fun t => spX fr lw hg cn jc tk tr t 0) (fun t => spX fr lw hg cn jc tk tr t 1) st tn) (ta := ta') (tb := tb') (td := td') (im := im) (an := an) (bn := bn) h.hn (fun x y hx hy => ?_) (fun i hi => ?_) (fun i hi => ?_) hS im (Nat.le_refl _) x y hx hy
  · refine ⟨key.1.trans ?_, key.2⟩
    exact wTF_cg hSo (fun _ _ => rfl) (fun _ _ => rfl) (fun i hi => by unfold tvW; rw [(h.hi i hi).2.2.2.2.2.2.2.2]) im (Nat.le_refl _) _ _
  · unfold mM
    rw [trM_ok h.hn (fun t ht => le _ (hu t ht).2.2) (fun t ht => le _ (hl t ht).2.2) hS tn (Nat.le_refl _) x y hx hy]
    unfold w0F loW upW
    by_cases e : x = y
    · rw [if_pos e, if_pos (by rw [e])]; exact ⟨vM_s (by rw [z64_i]; omega), Or.inr (by rw [z64_i]; omega)⟩
    · have ne : ¬ gN x = gN y := fun z => e (by have := congrArg fN z; rwa [fN_g hx, fN_g hy] at this)
      rw [if_neg e, if_neg ne]
      by_cases z : x = 12
      · have y1 : gN y = y + 1 := by unfold gN; rw [if_neg (by omega)]
        rw [if_pos z, if_pos (show gN x = 0 by unfold gN; rw [if_pos z]), y1, Nat.add_sub_cancel]
        by_cases s : S y = true
        · have l := hSo y s
          rw [if_pos ⟨l, s⟩, if_pos s]; exact ⟨(hu y l).1.symm, (hu y l).2.2⟩
        · rw [if_neg (fun w => s w.2), if_neg s]; exact ⟨vM_n far_i, Or.inl far_i⟩
      · have x1 : gN x = x + 1 := by unfold gN; rw [if_neg z]
        rw [if_neg z, x1, if_neg (show ¬ (x + 1 = 0) by omega), Nat.add_sub_cancel]
        by_cases w : y = 12
        · rw [if_pos w, if_pos (show gN y = 0 by unfold gN; rw [if_pos w])]
          by_cases s : S x = true
          · have l := hSo x s
            rw [if_pos ⟨l, s⟩, if_pos s]; exact ⟨(hl x l).1.symm, (hl x l).2.2⟩
          · rw [if_neg (fun w => s w.2), if_neg s]; exact ⟨vM_n far_i, Or.inl far_i⟩
        · rw [if_neg w, if_neg (show ¬ (gN y = 0) by unfold gN; rw [if_neg w]; omega)]; exact ⟨vM_n far_i, Or.inl far_i⟩
  · obtain ⟨a1, a2, a3, a4, a5, a6, a7, a8, a9⟩ := h.hi i hi
    exact ⟨a7.trans a1, a8.trans a2, a3, a4⟩
  · obtain ⟨a1, a2, a3, a4, a5, a6, a7, a8, a9⟩ := h.hi i hi
    refine ⟨rfl, ?_⟩
    unfold tvW
    rw [l64_i, a9, neg32_in (by omega)]; omega
end TTR
