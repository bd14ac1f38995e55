/-! what each call does: times -/
section PLTM
variable {cf cl ch : Nat → Nat → Int32} {cn : Nat → Nat} {fr lw hg : Nat → Int32} {jc : Nat → Nat} {tk tc tr tm : Nat → Int32} {tn : Nat} {an bn : Nat → Nat} {ta tb td ua ub ud : Nat → Int32} {im : Nat} {fo fo1 fo3 : Nat → Int32} {r1 r2 : Int64} {i j : Nat} {b ok : Int32} {ms u g : Nat → Int64}
theorem tt_of (h1 : I1 cf cl ch cn fr lw hg) (h2 : I2 tc tr tm tn ta tb td ua ub ud im) : ∃ jc an bn, TTr cf cl ch cn fr lw hg jc tr tn an bn ta tb td ua ub ud im ∧ (∀ i, i < tn → tc i = nI (jc i) ∧ jc i < 4) ∧ (∀ i, i < im → ta i = nI (an i) ∧ tb i = nI (bn i) ∧ an i < tn ∧ bn i < tn) ∧ (∀ i, i < im → ua i = nI (an i) ∧ ub i = nI (bn i) ∧ an i < tn ∧ bn i < tn) := by
  have hn := h2.1
  have kc : ∀ {x : Int32} {k : Nat}, k < 100 → x = nI k → x.toNatClampNeg = k := fun hk e => by rw [e]; exact nI_clamp (by omega)
  have kt : ∀ i, i < tn → tc i = nI (tc i).toNatClampNeg ∧ (tc i).toNatClampNeg < 4 := fun i hi => by
    obtain ⟨⟨j, j1, j2⟩, -⟩ := h2.2.2.1 i hi
    rw [kc (by omega) j2]; exact ⟨j2, j1⟩
  have ki : ∀ i, i < im → ta i = nI (ta i).toNatClampNeg ∧ tb i = nI (tb i).toNatClampNeg ∧ (ta i).toNatClampNeg < tn ∧ (tb i).toNatClampNeg < tn ∧ (ta i).toNatClampNeg ≠ (tb i).toNatClampNeg ∧ okSh (td i) ∧ ua i = ta i ∧ ub i = tb i ∧ ud i = td i := fun i hi => by
    obtain ⟨a, b, g1, g2, g3, g4, g5, g6⟩ := h2.2.2.2 i hi
    rw [kc (by omega) g1, kc (by omega) g2]
    exact ⟨g1, g2, g3, g4, g5, g6⟩
  refine ⟨fun i => (tc i).toNatClampNeg, fun i => (ta i).toNatClampNeg, fun i => (tb i).toNatClampNeg, ⟨h1.1, hn, fun i hi => ⟨(kt i hi).2, (h2.2.2.1 i hi).2.1⟩, ki⟩, kt, fun i hi => ?_, fun i hi => ?_⟩
  · obtain ⟨g1, g2, g3, g4, -⟩ := ki i hi
    exact ⟨g1, g2, g3, g4⟩
  · obtain ⟨g1, g2, g3, g4, -, -, g7, g8, -⟩ := ki i hi
    exact ⟨g7.trans g1, g8.trans g2, g3, g4⟩
theorem pl_span (h : TTr cf cl ch cn fr lw hg jc tr tn an bn ta tb td ua ub ud im) (hi : i < tn) (q1 : r1 = rz (if isE (spC cf cl ch cn jc tk tr i b) then 0 else 2) (spC cf cl ch cn jc tk tr i b) ∧ fo1 = fz fo (if isE (spC cf cl ch cn jc tk tr i b) then 0 else 2)) (q2 : r2 = rz (fK (spX fr lw hg cn jc tk tr i b)) (spX fr lw hg cn jc tk tr i b) ∧ fo3 = fz fo (fK (spX fr lw hg cn jc tk tr i b))) : r1 = r2 ∧ fo3 = fo1 := by
  obtain ⟨k1, k2⟩ := sp_ans (tk := tk) (b := b) h.hC (h.ht i hi).1 (h.ht i hi).2
  rw [show (if isE (spC cf cl ch cn jc tk tr i b) then 0 else 2) = eK (spC cf cl ch cn jc tk tr i b) from rfl] at q1
  exact ⟨by rw [q1.1, q2.1, k2], by rw [q1.2, q2.2, k1]⟩
theorem fz_5 (fo : Nat → Int32) : fz fo 5 = fnd fo 5 := if_neg (by decide)
theorem i10 : ¬ (1 : Int32) = 0 := by decide
theorem pl_tm (hr : (ok = 1 ∧ allNN g 13 = true ∧ ∀ p q, p ≤ tn → q ≤ tn → entR (u ((p * 13) + q)) (g ((13 * fN p) + fN q))) ∨ (ok = 0 ∧ ¬ allNN g 13 = true)) (hi : i < tn)
    (q1 : (ok = 0 ∧ r1 = lowF 5 ∧ fo1 = fnd fo 5) ∨ (¬ ok = 0 ∧ r1 = rz (eK (tmE u i b)) (tmE u i b) ∧ fo1 = fz fo (eK (tmE u i b)))) (q2 : r2 = rz (gK (allNN g 13) (tmM g i b)) (tmM g i b) ∧ fo3 = fz fo (gK (allNN g 13) (tmM g i b))) : r1 = r2 ∧ fo3 = fo1 := by
  rcases hr with ⟨a1, a2, a3⟩ | ⟨a1, a2⟩
  · rcases q1 with ⟨b1, -⟩ | ⟨-, b2, b3⟩
    · exact absurd (a1.symm.trans b1) i10
    · have e : gK (allNN g 13) (tmM g i b) = fK (tmM g i b) := if_pos a2
      obtain ⟨k1, k2⟩ := tm_rel a3 hi b
      rw [e] at q2
      exact ⟨by rw [b2, q2.1, k2], by rw [b3, q2.2, k1]⟩
  · rcases q1 with ⟨-, b2, b3⟩ | ⟨b1, -⟩
    · rw [gK_5 _ a2, rz_5, fz_5] at q2
      exact ⟨b2.trans q2.1.symm, q2.2.trans b3.symm⟩
    · exact absurd a1 b1
theorem pl_ap (hr : (ok = 1 ∧ allNN g 13 = true ∧ ∀ p q, p ≤ tn → q ≤ tn → entR (u ((p * 13) + q)) (g ((13 * fN p) + fN q))) ∨ (ok = 0 ∧ ¬ allNN g 13 = true)) (hi : i < tn) (hj : j < tn)
    (q1 : (ok = 0 ∧ r1 = lowF 5 ∧ fo1 = fnd fo 5) ∨ (¬ ok = 0 ∧ r1 = rz (eK (apE u i j b)) (apE u i j b) ∧ fo1 = fz fo (eK (apE u i j b)))) (q2 : r2 = rz (gK (allNN g 13) (apX g i j b)) (apS (apX g i j b) b) ∧ fo3 = fz fo (gK (allNN g 13) (apX g i j b))) : r1 = r2 ∧ fo3 = fo1 := by
  rcases hr with ⟨a1, a2, a3⟩ | ⟨a1, a2⟩
  · rcases q1 with ⟨b1, -⟩ | ⟨-, b2, b3⟩
    · exact absurd (a1.symm.trans b1) i10
    · have e : gK (allNN g 13) (apX g i j b) = fK (apX g i j b) := if_pos a2
      obtain ⟨k1, k2⟩ := ap_rel a3 hi hj b
      rw [e] at q2
      exact ⟨by rw [b2, q2.1, k2], by rw [b3, q2.2, k1]⟩
  · rcases q1 with ⟨-, b2, b3⟩ | ⟨b1, -⟩
    · rw [gK_5 _ a2, rz_5, fz_5] at q2
      exact ⟨b2.trans q2.1.symm, q2.2.trans b3.symm⟩
    · exact absurd a1 b1
theorem tms_all (h : TTr cf cl ch cn fr lw hg jc tr tn an bn ta tb td ua ub ud im) (hu : tgP (gbA ms cf cl ch cn jc tk tr tn an bn ta tb td im (-1)) (tn + 1) ok u) (hgE : g = fwE fr lw hg cn jc tk tr tn an bn ua ub ud im (allB tn)) :
    (ok = 1 ∧ allNN g 13 = true ∧ ∀ p q, p ≤ tn → q ≤ tn → entR (u ((p * 13) + q)) (g ((13 * fN p) + fN q))) ∨ (ok = 0 ∧ ¬ allNN g 13 = true) :=
  tms_rel (S := fun t => decide (t < tn)) h (S_all_c tn (by have := h.hn; omega)) (S_all_m tn (by have := h.hn; omega)) (fun t ht => of_decide_eq_true ht) hu hgE
theorem tms_wo (h : TTr cf cl ch cn fr lw hg jc tr tn an bn ta tb td ua ub ud im) (hj : j < tn) (hu : tgP (gbA ms cf cl ch cn jc tk tr tn an bn ta tb td im (nI j)) (tn + 1) ok u) (hgE : g = fwE fr lw hg cn jc tk tr tn an bn ua ub ud im (allB tn &&& ((1 <<< (nI j &&& 31)) ^^^ (-1)))) :
    (ok = 1 ∧ allNN g 13 = true ∧ ∀ p q, p ≤ tn → q ≤ tn → entR (u ((p * 13) + q)) (g ((13 * fN p) + fN q))) ∨ (ok = 0 ∧ ¬ allNN g 13 = true) := by
  have hn := h.hn
  refine tms_rel (S := fun t => decide (t < tn) && !decide (t = j)) h (fun t ht => ?_) (fun t ht => ?_) (fun t ht => ?_) hu hgE
  · show (decide (t < tn) && !decide (t = j)) = true ↔ _
    rw [decide_eq_true ht, Bool.true_and]; exact S_wo_c j (by omega) t (by omega)
  · show (decide (t < tn) && !decide (t = j)) = true ↔ _
    rw [decide_eq_true ht, Bool.true_and]; exact S_wo_m tn (by omega) j hj t ht
  · exact of_decide_eq_true ((Bool.and_eq_true _ _).mp ht).1
theorem pl_time (h : TTr cf cl ch cn fr lw hg jc tr tn an bn ta tb td ua ub ud im) (hi : i < tn)
    (q1 : ∃ ok, tgP (gbA ms cf cl ch cn jc tk tr tn an bn ta tb td im (-1)) (tn + 1) ok u ∧ ((ok = 0 ∧ r1 = lowF 5 ∧ fo1 = fnd fo 5) ∨ (¬ ok = 0 ∧ r1 = rz (eK (tmE u i b)) (tmE u i b) ∧ fo1 = fz fo (eK (tmE u i b)))))
    (q2 : r2 = rz (gK (allNN g 13) (tmM g i b)) (tmM g i b) ∧ g = fwE fr lw hg cn jc tk tr tn an bn ua ub ud im (allB tn) ∧ fo3 = fz fo (gK (allNN g 13) (tmM g i b))) : r1 = r2 ∧ fo3 = fo1 := by
  obtain ⟨ok, hu, q1⟩ := q1
  exact pl_tm (tms_all h hu q2.2.1) hi q1 ⟨q2.1, q2.2.2⟩
theorem pl_apart (h : TTr cf cl ch cn fr lw hg jc tr tn an bn ta tb td ua ub ud im) (hi : i < tn) (hj : j < tn)
    (q1 : ∃ ok, tgP (gbA ms cf cl ch cn jc tk tr tn an bn ta tb td im (-1)) (tn + 1) ok u ∧ ((ok = 0 ∧ r1 = lowF 5 ∧ fo1 = fnd fo 5) ∨ (¬ ok = 0 ∧ r1 = rz (eK (apE u i j b)) (apE u i j b) ∧ fo1 = fz fo (eK (apE u i j b)))))
    (q2 : r2 = rz (gK (allNN g 13) (apX g i j b)) (apS (apX g i j b) b) ∧ g = fwE fr lw hg cn jc tk tr tn an bn ua ub ud im (allB tn) ∧ fo3 = fz fo (gK (allNN g 13) (apX g i j b))) : r1 = r2 ∧ fo3 = fo1 := by
  obtain ⟨ok, hu, q1⟩ := q1
  exact pl_ap (tms_all h hu q2.2.1) hi hj q1 ⟨q2.1, q2.2.2⟩
theorem pl_without (h : TTr cf cl ch cn fr lw hg jc tr tn an bn ta tb td ua ub ud im) (hi : i < tn) (hj : j < tn)
    (q1 : ∃ ok, tgP (gbA ms cf cl ch cn jc tk tr tn an bn ta tb td im (nI j)) (tn + 1) ok u ∧ ((ok = 0 ∧ r1 = lowF 5 ∧ fo1 = fnd fo 5) ∨ (¬ ok = 0 ∧ r1 = rz (eK (tmE u i b)) (tmE u i b) ∧ fo1 = fz fo (eK (tmE u i b)))))
    (q2 : r2 = rz (gK (allNN g 13) (tmM g i b)) (tmM g i b) ∧ g = fwE fr lw hg cn jc tk tr tn an bn ua ub ud im (allB tn &&& ((1 <<< (nI j &&& 31)) ^^^ (-1))) ∧ fo3 = fz fo (gK (allNN g 13) (tmM g i b))) : r1 = r2 ∧ fo3 = fo1 := by
  obtain ⟨ok, hu, q1⟩ := q1
  exact pl_tm (tms_wo h hj hu q2.2.1) hi q1 ⟨q2.1, q2.2.2⟩
theorem pl_quarrel (h : TTr cf cl ch cn fr lw hg jc tr tn an bn ta tb td ua ub ud im) (h1 : I1 cf cl ch cn fr lw hg)
    (q1 : r1 = rz (quK (skM (stM (gbA ms cf cl ch cn jc tk tr tn an bn ta tb td im (-1))) tn (allB tn) (tn - 1) 1)) (skM (stM (gbA ms cf cl ch cn jc tk tr tn an bn ta tb td im (-1))) tn (allB tn) (tn - 1) 1).toInt64 ∧ fo1 = fz fo (quK (skM (stM (gbA ms cf cl ch cn jc tk tr tn an bn ta tb td im (-1))) tn (allB tn) (tn - 1) 1)) ∧ u = gbA ms cf cl ch cn jc tk tr tn an bn ta tb td im (-1))
    (q2 : ∃ g0, g0 = fwE fr lw hg cn jc tk tr tn an bn ua ub ud im (allB tn) ∧ r2 = rz (qgK (allNN g0 13)) (qbF (fun st => allNN (fwE fr lw hg cn jc tk tr tn an bn ua ub ud im st) 13) (allB tn) (powS tn - 1)).toInt64 ∧ fo3 = fz fo (qgK (allNN g0 13))) : r1 = r2 ∧ fo3 = fo1 := by
  obtain ⟨g0, hg0, q2⟩ := q2
  obtain ⟨K, hK⟩ : ∃ K, K = skM (stM (gbA ms cf cl ch cn jc tk tr tn an bn ta tb td im (-1))) tn (allB tn) (tn - 1) 1 := ⟨_, rfl⟩
  obtain ⟨B, hB⟩ : ∃ B, B = qbF (fun st => allNN (fwE fr lw hg cn jc tk tr tn an bn ua ub ud im st) 13) (allB tn) (powS tn - 1) := ⟨_, rfl⟩
  rw [← hK] at q1
  rw [← hB] at q2
  obtain ⟨k1, k2⟩ := qu_rel h h1.2 ms hK hg0 hB
  exact ⟨by rw [q1.1, q2.1, k2], by rw [q1.2.1, q2.2, k1]⟩
theorem inc64 : ∀ i, i < 12 → (nI (1 + i)).toInt64 = 1 + (nI i).toInt64 := by decide
theorem pl_check {wt : Nat → Int32} {wn : Nat} (h : TTr cf cl ch cn fr lw hg jc tr tn an bn ta tb td ua ub ud im)
    (q1 : ∃ ok, tgP (gbA ms cf cl ch cn jc tk tr tn an bn ta tb td im (-1)) (tn + 1) ok u ∧ ((ok = 0 ∧ r1 = lowF 5 ∧ fo1 = fnd fo 5) ∨ (¬ ok = 0 ∧ fo1 = fo ∧ ((∃ i, i < tn ∧ ¬ tlR wt u wn i ∧ (∀ j, j < i → tlR wt u wn j) ∧ r1 = (nI (1 + i)).toInt64) ∨ ((∀ j, j < tn → tlR wt u wn j) ∧ r1 = if wn ≤ 2 * tn then 0 else 99)))))
    (q2 : g = fwE fr lw hg cn jc tk tr tn an bn ua ub ud im (allB tn) ∧ ((¬ allNN g 13 = true ∧ r2 = lowF 5 ∧ fo3 = fnd fo 5) ∨ (allNN g 13 = true ∧ fo3 = fo ∧ ((∃ i, i < tn ∧ ¬ tlM wt g wn i ∧ (∀ j, j < i → tlM wt g wn j) ∧ r2 = 1 + (nI i).toInt64) ∨ ((∀ j, j < tn → tlM wt g wn j) ∧ r2 = if wn ≤ 2 * tn then 0 else 99))))) : r1 = r2 ∧ fo3 = fo1 := by
  have hn := h.hn
  obtain ⟨ok, hu, q1⟩ := q1
  rcases tms_all h hu q2.1 with ⟨a1, a2, a3⟩ | ⟨a1, a2⟩
  · rcases q1 with ⟨b1, -⟩ | ⟨-, b2, b3⟩
    · exact absurd (a1.symm.trans b1) i10
    rcases q2.2 with ⟨c1, -⟩ | ⟨-, c2, c3⟩
    · exact absurd a2 c1
    refine ⟨?_, c2.trans b2.symm⟩
    rcases b3 with ⟨i, d1, d2, d3, d4⟩ | ⟨d1, d2⟩
    · rcases c3 with ⟨j, e1, e2, e3, e4⟩ | ⟨e1, e2⟩
      · have ij : i = j := by
          rcases Nat.lt_trichotomy i j with q | q | q
          · exact absurd ((tl_rel a3 d1).mpr (e3 i q)) d2
          · exact q
          · exact absurd ((tl_rel a3 e1).mp (d3 j q)) e2
        subst ij
        rw [d4, e4]; exact inc64 i (by omega)
      · exact absurd ((tl_rel a3 d1).mpr (e1 i d1)) d2
    · rcases c3 with ⟨j, e1, e2, e3, e4⟩ | ⟨e1, e2⟩
      · exact absurd ((tl_rel a3 e1).mp (d1 j e1)) e2
      · rw [d2, e2]
  · rcases q1 with ⟨-, b2, b3⟩ | ⟨b1, -⟩
    · rcases q2.2 with ⟨-, c2, c3⟩ | ⟨c1, -⟩
      · exact ⟨b2.trans c2.symm, c3.trans b3.symm⟩
      · exact absurd c1 a2
    · exact absurd a1 b1
end PLTM
