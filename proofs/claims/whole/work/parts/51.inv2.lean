/-! what each call does: DEEDS, prices, stories -/
section PLD
variable {tk tm : Nat → Int32} {tn : Nat} {th te kn kn1 : Int32} {kb kb1 df da dm dw df1 da1 dm1 dw1 df2 da2 dm2 dw2 : Nat → Int32} {mi fo2 mi1 mi2 fo21 fg2 : Int32} {rows lv rows1 lv1 rowsM rowsM1 : Nat → Int32} {z z1 : Nat} {cc ia is od cc1 ia1 is1 od1 lc lc1 sm sm1 : Int32} {p1 p2 p3 p4 : Int32} {fo fo1 fo3 : Nat → Int32} {r1 r2 : Int64} {i : Nat} {x : Int32}
theorem deK_0 (h : deK p1 p2 p3 p4 = 0) : okPr p1 ∧ okMk p2 ∧ okMk p3 ∧ okMk p4 := by
  unfold deK at h
  by_cases c : okPr p1 ∧ okMk p2 ∧ okMk p3 ∧ okMk p4
  · exact c
  · rw [if_neg c] at h; cases h
theorem prK_0 (h : prK p1 p2 = 0) : okPr p1 ∧ okPr p2 := by
  unfold prK at h
  by_cases c : okPr p1 ∧ okPr p2
  · exact c
  · rw [if_neg c] at h; cases h
theorem pl_deed (h3 : I3 tk tm tn th te kn kb df da dm dw mi fo2 rows lv z cc ia is od) (hi : i < 10)
    (q1 : r1 = rz (deK p1 p2 p3 p4) 1 ∧ fo1 = fz fo (deK p1 p2 p3 p4) ∧ df1 = (if deK p1 p2 p3 p4 = 0 then upd df i p1 else df) ∧ da1 = (if deK p1 p2 p3 p4 = 0 then upd da i p2 else da) ∧ dm1 = (if deK p1 p2 p3 p4 = 0 then upd dm i p3 else dm) ∧ dw1 = (if deK p1 p2 p3 p4 = 0 then upd dw i p4 else dw) ∧ kn1 = (if deK p1 p2 p3 p4 = 0 then kn ||| (1 <<< (nI i &&& 31)) else kn) ∧ od1 = (if deK p1 p2 p3 p4 = 0 then 1 else od))
    (q2 : r2 = rz (deK p1 p2 p3 p4) 1 ∧ fo3 = fz fo (deK p1 p2 p3 p4) ∧ kb1 = (if deK p1 p2 p3 p4 = 0 then upd kb i 1 else kb) ∧ df2 = (if deK p1 p2 p3 p4 = 0 then upd df i p1 else df) ∧ da2 = (if deK p1 p2 p3 p4 = 0 then upd da i p2 else da) ∧ dm2 = (if deK p1 p2 p3 p4 = 0 then upd dm i p3 else dm) ∧ dw2 = (if deK p1 p2 p3 p4 = 0 then upd dw i p4 else dw)) :
    r1 = r2 ∧ fo3 = fo1 ∧ df2 = df1 ∧ da2 = da1 ∧ dm2 = dm1 ∧ dw2 = dw1 ∧ I3 tk tm tn th te kn1 kb1 df1 da1 dm1 dw1 mi fo2 rows lv z cc ia is od1 := by
  obtain ⟨rfl, rfl, rfl, rfl, rfl, rfl, rfl, rfl⟩ := q1
  obtain ⟨rfl, rfl, rfl, rfl, rfl, rfl, rfl⟩ := q2
  refine ⟨rfl, rfl, rfl, rfl, rfl, rfl, ?_⟩
  by_cases c : deK p1 p2 p3 p4 = 0
  · simp only [if_pos c]
    obtain ⟨c1, c2, c3, c4⟩ := deK_0 c
    obtain ⟨g1, g2, g3, g4, g5⟩ := h3
    refine ⟨g1, g2, ?_, ⟨fun k hk => ?_, g4.2⟩, fun hz => absurd hz one_ne⟩
    · rw [kn_set kb hi one_ne, ← g3]
    · by_cases e : k = i
      · subst e
        rw [pk_us, pk_us, pk_us, pk_us]
        exact ⟨upN_of (by decide) c1.1 c1.2, m16_mk c2, m16_mk c3, m16_mk c4⟩
      · rw [pk_un e, pk_un e, pk_un e, pk_un e]
        exact g4.1 k hk
  · simp only [if_neg c]
    exact h3
theorem pl_forget (h3 : I3 tk tm tn th te kn kb df da dm dw mi fo2 rows lv z cc ia is od) (hi : i < 10)
    (q1 : r1 = (if bit0 kn i then 0 else 1) ∧ kn1 = (if bit0 kn i then kn else kn &&& ((1 <<< (nI i &&& 31)) ^^^ (-1))) ∧ od1 = (if bit0 kn i then od else 1))
    (q2 : r2 = (if kb i = 0 then 0 else 1) ∧ kb1 = upd kb i 0) :
    r1 = r2 ∧ I3 tk tm tn th te kn1 kb1 df da dm dw mi fo2 rows lv z cc ia is od1 := by
  obtain ⟨rfl, rfl, rfl⟩ := q1
  obtain ⟨rfl, rfl⟩ := q2
  have hk := h3.2.2.1
  have iff := kn_0 kb hi
  rw [← hk] at iff
  by_cases c : bit0 kn i
  · simp only [if_pos c, if_pos (iff.mp c)]
    refine ⟨trivial, ?_⟩
    have e : upd kb i 0 = kb := by
      funext j
      by_cases y : j = i
      · rw [y, pk_us, iff.mp c]
      · rw [pk_un y]
    rw [e]; exact h3
  · have nk : ¬ kb i = 0 := fun y => c (iff.mpr y)
    simp only [if_neg c, if_neg nk]
    refine ⟨trivial, h3.1, h3.2.1, ?_, h3.2.2.2.1, fun hz => absurd hz one_ne⟩
    rw [kn_clr kb hi, ← hk]
theorem pl_prices (h3 : I3 tk tm tn th te kn kb df da dm dw mi fo2 rows lv z cc ia is od)
    (q1 : r1 = rz (prK p1 p2) 1 ∧ fo1 = fz fo (prK p1 p2) ∧ mi1 = (if prK p1 p2 = 0 then p1 else mi) ∧ fo21 = (if prK p1 p2 = 0 then p2 else fo2) ∧ od1 = (if prK p1 p2 = 0 then 1 else od))
    (q2 : r2 = rz (prK p1 p2) 1 ∧ fo3 = fz fo (prK p1 p2) ∧ mi2 = (if prK p1 p2 = 0 then p1 else mi) ∧ fg2 = (if prK p1 p2 = 0 then p2 else fo2)) :
    r1 = r2 ∧ fo3 = fo1 ∧ mi2 = mi1 ∧ fg2 = fo21 ∧ I3 tk tm tn th te kn kb df da dm dw mi1 fo21 rows lv z cc ia is od1 := by
  obtain ⟨rfl, rfl, rfl, rfl, rfl⟩ := q1
  obtain ⟨rfl, rfl, rfl, rfl⟩ := q2
  refine ⟨rfl, rfl, rfl, rfl, ?_⟩
  by_cases c : prK p1 p2 = 0
  · simp only [if_pos c]
    obtain ⟨c1, c2⟩ := prK_0 c
    exact ⟨h3.1, h3.2.1, h3.2.2.1, ⟨h3.2.2.2.1.1, upN_of (by decide) c1.1 c1.2, upN_of (by decide) c2.1 c2.2, h3.2.2.2.1.2.2.2⟩, fun hz => absurd hz one_ne⟩
  · simp only [if_neg c]
    exact h3
theorem pl_cost (h3 : I3 tk tm tn th te kn kb df da dm dw mi fo2 rows lv z cc ia is od)
    (q1 : r1 = rz (coK x kn (tog da x 10) (tog dm x 10) (tog dw x 10) th te) (prOf (feeS df x 10) (tog da x 10) (tog dm x 10) (tog dw x 10) th mi fo2 tm tn).toInt64 ∧ fo1 = fz fo (coK x kn (tog da x 10) (tog dm x 10) (tog dw x 10) th te))
    (q2 : r2 = rz (cmK x (knF kb 10) (csM df da dm dw tk tm tn mi fo2 x)) (csM df da dm dw tk tm tn mi fo2 x).toInt64 ∧ fo3 = fz fo (cmK x (knF kb 10) (csM df da dm dw tk tm tn mi fo2 x))) :
    r1 = r2 ∧ fo3 = fo1 := by
  obtain ⟨rfl, rfl, rfl, hD, -⟩ := h3
  obtain ⟨k1, k2⟩ := co_rel (tk := tk) (tm := tm) (kb := kb) hD x
  rw [k2] at q2
  exact ⟨q1.1.trans q2.1.symm, by rw [q2.2, q1.2, k1]⟩
/-- the stories of both -/
theorem st_T (h3 : I3 tk tm tn th te kn kb df da dm dw mi fo2 rows lv z cc ia is od) (hL : LSok rows1 lv1 z1 cc1 ia1 is1 kn df da dm dw th te mi fo2 tm tn) {T : (Nat → Int32) × Nat × Int32} (hT : T = tsF (coM (knF kb 10) df da dm dw tk tm tn mi fo2) rowsM lc 1024) :
    T.2.1 = z1 ∧ (0 < z1 → T.2.2 = cc1) ∧ (∀ i, i < z1 → rows1 i = T.1 i) ∧ z1 ≤ 1024 ∧ ia1 = iaF rows1 z1 ∧ is1 = isF rows1 z1 ∧ ∀ mq, mq < 16 → lv1 mq = lvC da dm dw rows1 mq z1 := by
  obtain ⟨rfl, rfl, rfl, hD, -⟩ := h3
  have hr := ls_rel hD hL rowsM lc
  rw [← hT] at hr
  exact ⟨hr.1.symm, fun y => (hr.2.1 y).symm, hr.2.2, LSok_z hL, hL.2.1, hL.2.2.1, hL.2.2.2⟩
theorem I3.upd (h3 : I3 tk tm tn th te kn kb df da dm dw mi fo2 rows lv z cc ia is od) (hL : od1 = 0 → LSok rows1 lv1 z1 cc1 ia1 is1 kn df da dm dw th te mi fo2 tm tn) : I3 tk tm tn th te kn kb df da dm dw mi fo2 rows1 lv1 z1 cc1 ia1 is1 od1 := ⟨h3.1, h3.2.1, h3.2.2.1, h3.2.2.2.1, hL⟩
theorem zK_0 (h : z = 0) : zK z = 2 := if_pos h
theorem zK_p (h : 0 < z) : zK z = 0 := if_neg (by omega)
theorem rz_z (a b : Int64) (h : 0 < z → a = b) : rz (zK z) a = rz (zK z) b := by
  rcases Nat.eq_zero_or_pos z with q | q
  · rw [zK_0 q, rz_2, rz_2]
  · rw [h q]
theorem pl_least (h3 : I3 tk tm tn th te kn kb df da dm dw mi fo2 rows lv z cc ia is od) {T : (Nat → Int32) × Nat × Int32} (hT : T = tsF (coM (knF kb 10) df da dm dw tk tm tn mi fo2) rowsM lc 1024)
    (q1 : od1 = 0 ∧ LSok rows1 lv1 z1 cc1 ia1 is1 kn df da dm dw th te mi fo2 tm tn ∧ r1 = rz (zK z1) cc1.toInt64 ∧ fo1 = fz fo (zK z1))
    (q2 : r2 = rz (zK T.2.1) T.2.2.toInt64 ∧ fo3 = fz fo (zK T.2.1)) : r1 = r2 ∧ fo3 = fo1 ∧ I3 tk tm tn th te kn kb df da dm dw mi fo2 rows1 lv1 z1 cc1 ia1 is1 od1 := by
  obtain ⟨k1, k2, -⟩ := st_T h3 q1.2.1 hT
  rw [k1] at q2
  refine ⟨?_, by rw [q2.2, q1.2.2.2], h3.upd (fun _ => q1.2.1)⟩
  rw [q1.2.2.1, q2.1]
  exact rz_z _ _ (fun y => by rw [k2 y])
theorem pl_many (h3 : I3 tk tm tn th te kn kb df da dm dw mi fo2 rows lv z cc ia is od) {T : (Nat → Int32) × Nat × Int32} (hT : T = tsF (coM (knF kb 10) df da dm dw tk tm tn mi fo2) rowsM lc 1024)
    (q1 : od1 = 0 ∧ LSok rows1 lv1 z1 cc1 ia1 is1 kn df da dm dw th te mi fo2 tm tn ∧ r1 = (nI z1).toInt64 ∧ fo1 = fo)
    (q2 : r2 = (nI T.2.1).toInt64) : r1 = r2 ∧ fo1 = fo ∧ I3 tk tm tn th te kn kb df da dm dw mi fo2 rows1 lv1 z1 cc1 ia1 is1 od1 := by
  obtain ⟨k1, k2, -⟩ := st_T h3 q1.2.1 hT
  rw [k1] at q2
  exact ⟨q1.2.2.1.trans q2.symm, q1.2.2.2, h3.upd (fun _ => q1.2.1)⟩
theorem pl_story (h3 : I3 tk tm tn th te kn kb df da dm dw mi fo2 rows lv z cc ia is od) {T : (Nat → Int32) × Nat × Int32} (hT : T = tsF (coM (knF kb 10) df da dm dw tk tm tn mi fo2) rowsM lc 1024)
    (q1 : od1 = 0 ∧ LSok rows1 lv1 z1 cc1 ia1 is1 kn df da dm dw th te mi fo2 tm tn ∧ r1 = rz (syK z1 i) (rows1 i).toInt64 ∧ fo1 = fz fo (syK z1 i))
    (q2 : r2 = rz (syK T.2.1 i) (T.1 i).toInt64 ∧ fo3 = fz fo (syK T.2.1 i)) : r1 = r2 ∧ fo3 = fo1 ∧ I3 tk tm tn th te kn kb df da dm dw mi fo2 rows1 lv1 z1 cc1 ia1 is1 od1 := by
  obtain ⟨k1, -, k3, -⟩ := st_T h3 q1.2.1 hT
  rw [k1] at q2
  refine ⟨?_, by rw [q2.2, q1.2.2.2], h3.upd (fun _ => q1.2.1)⟩
  rw [q1.2.2.1, q2.1]
  by_cases c : i < z1
  · rw [k3 i c]
  · have e : syK z1 i = 2 := if_neg c
    rw [e, rz_2, rz_2]
theorem pl_sure (h3 : I3 tk tm tn th te kn kb df da dm dw mi fo2 rows lv z cc ia is od) (hi : i < 10) {T : (Nat → Int32) × Nat × Int32} (hT : T = tsF (coM (knF kb 10) df da dm dw tk tm tn mi fo2) rowsM lc 1024)
    (q1 : (od1 = 0 → LSok rows1 lv1 z1 cc1 ia1 is1 kn df da dm dw th te mi fo2 tm tn) ∧ ((bit0 kn i ∧ r1 = lowF 1 ∧ fo1 = fnd fo 1) ∨ (¬ bit0 kn i ∧ LSok rows1 lv1 z1 cc1 ia1 is1 kn df da dm dw th te mi fo2 tm tn ∧ r1 = rz (zK z1) (suV ia1 is1 i) ∧ fo1 = fz fo (zK z1))))
    (q2 : (kb i = 0 ∧ rowsM1 = rowsM ∧ sm1 = sm ∧ lc1 = lc ∧ r2 = lowF 1 ∧ fo3 = fnd fo 1) ∨ (¬ kb i = 0 ∧ rowsM1 = T.1 ∧ sm1 = nI T.2.1 ∧ lc1 = T.2.2 ∧ r2 = rz (zK T.2.1) (smV (suC T.1 i T.2.1) T.2.1) ∧ fo3 = fz fo (zK T.2.1))) :
    r1 = r2 ∧ fo3 = fo1 ∧ I3 tk tm tn th te kn kb df da dm dw mi fo2 rows1 lv1 z1 cc1 ia1 is1 od1 := by
  have iff := kn_0 kb hi
  rw [← h3.2.2.1] at iff
  have h4 := h3.upd q1.1
  rcases q1.2 with ⟨a1, a2, a3⟩ | ⟨a1, a2, a3, a4⟩
  · rcases q2 with ⟨b1, -, -, -, b2, b3⟩ | ⟨b1, -⟩
    · exact ⟨a2.trans b2.symm, b3.trans a3.symm, h4⟩
    · exact absurd (iff.mp a1) b1
  · rcases q2 with ⟨b1, -⟩ | ⟨-, -, -, -, b2, b3⟩
    · exact absurd (iff.mpr b1) a1
    · obtain ⟨k1, -, k3, k4, k5, k6, -⟩ := st_T h3 a2 hT
      rw [k1] at b2 b3
      refine ⟨?_, by rw [b3, a4], h4⟩
      rw [a3, b2]
      refine rz_z _ _ (fun y => ?_)
      rw [k5, k6]
      exact (su_rel hi k4 k3).resolve_right (by omega)
theorem pl_parts (h3 : I3 tk tm tn th te kn kb df da dm dw mi fo2 rows lv z cc ia is od) (hi : i < 16) {T : (Nat → Int32) × Nat × Int32} (hT : T = tsF (coM (knF kb 10) df da dm dw tk tm tn mi fo2) rowsM lc 1024)
    (q1 : (od1 = 0 → LSok rows1 lv1 z1 cc1 ia1 is1 kn df da dm dw th te mi fo2 tm tn) ∧ ((¬ bit0 th i ∧ r1 = lowF 5 ∧ fo1 = fnd fo 5) ∨ (bit0 th i ∧ LSok rows1 lv1 z1 cc1 ia1 is1 kn df da dm dw th te mi fo2 tm tn ∧ r1 = rz (zK z1) (pdB z1 lv1 i).toInt64 ∧ fo1 = fz fo (zK z1))))
    (q2 : ((thM tk tm 0 tn >>> (nI i &&& 31)) &&& 1 = 1 ∧ rowsM1 = rowsM ∧ sm1 = sm ∧ lc1 = lc ∧ r2 = lowF 5 ∧ fo3 = fnd fo 5) ∨ (¬ ((thM tk tm 0 tn >>> (nI i &&& 31)) &&& 1 = 1) ∧ rowsM1 = T.1 ∧ sm1 = nI T.2.1 ∧ lc1 = T.2.2 ∧ r2 = rz (zK T.2.1) (ptM (lvM da dm dw T.1 i T.2.1) T.2.1).toInt64 ∧ fo3 = fz fo (zK T.2.1))) :
    r1 = r2 ∧ fo3 = fo1 ∧ I3 tk tm tn th te kn kb df da dm dw mi fo2 rows1 lv1 z1 cc1 ia1 is1 od1 := by
  have h4 := h3.upd q1.1
  rw [thM_0, ← h3.1] at q2
  rcases q1.2 with ⟨a1, a2, a3⟩ | ⟨a1, a2, a3, a4⟩
  · rcases q2 with ⟨b1, -, -, -, b2, b3⟩ | ⟨b1, -⟩
    · exact ⟨a2.trans b2.symm, b3.trans a3.symm, h4⟩
    · exact absurd (b01n a1) b1
  · rcases q2 with ⟨b1, -⟩ | ⟨-, -, -, -, b2, b3⟩
    · exact absurd a1 (b1ne0 b1)
    · obtain ⟨k1, -, k3, k4, k5, k6, k7⟩ := st_T h3 a2 hT
      rw [k1] at b2 b3
      refine ⟨?_, by rw [b3, a4], h4⟩
      rw [a3, b2]
      have e := (lv_eq (da := da) (dm := dm) (dw := dw) (i := i) (by omega) k3).1
      rw [pt_rel (k7 i hi), e]
theorem pl_ask (h3 : I3 tk tm tn th te kn kb df da dm dw mi fo2 rows lv z cc ia is od) {T : (Nat → Int32) × Nat × Int32} (hT : T = tsF (coM (knF kb 10) df da dm dw tk tm tn mi fo2) rowsM lc 1024)
    (q1 : od1 = 0 ∧ LSok rows1 lv1 z1 cc1 ia1 is1 kn df da dm dw th te mi fo2 tm tn ∧ r1 = rz (aqK z1 (askF th (pdB z1 lv1) 16).1) (oI (askF th (pdB z1 lv1) 16).1).toInt64 ∧ fo1 = fz fo (aqK z1 (askF th (pdB z1 lv1) 16).1))
    (q2 : r2 = rz (onK (aqR T.2.1 (thM tk tm 0 tn) (fun q => ptM (lvM da dm dw T.1 q T.2.1) T.2.1))) (oI (aqR T.2.1 (thM tk tm 0 tn) (fun q => ptM (lvM da dm dw T.1 q T.2.1) T.2.1))).toInt64 ∧ fo3 = fz fo (onK (aqR T.2.1 (thM tk tm 0 tn) (fun q => ptM (lvM da dm dw T.1 q T.2.1) T.2.1)))) :
    r1 = r2 ∧ fo3 = fo1 ∧ I3 tk tm tn th te kn kb df da dm dw mi fo2 rows1 lv1 z1 cc1 ia1 is1 od1 := by
  obtain ⟨k1, -, k3, k4, k5, k6, k7⟩ := st_T h3 q1.2.1 hT
  rw [thM_0, ← h3.1, k1] at q2
  obtain ⟨m1, m2⟩ := ask_rel (th := th) (pb := pdB z1 lv1) (pb' := fun q => ptM (lvM da dm dw T.1 q z1) z1) (z := z1) (fun i hi => by
    obtain ⟨e, c, e1, e2⟩ := lv_eq (da := da) (dm := dm) (dw := dw) (i := i) (by omega) k3
    have e3 : pdB z1 lv1 i = ptM (lvM da dm dw T.1 i z1) z1 := by rw [pt_rel (k7 i hi), e]
    refine ⟨e3, ?_⟩
    rw [e3, e, e2]
    exact pt_nn e1 k4)
  exact ⟨by rw [q1.2.2.1, q2.1, m2], by rw [q2.2, q1.2.2.2, m1], h3.upd (fun _ => q1.2.1)⟩
end PLD
section PLW
variable {tk tc tr tm : Nat → Int32} {tn im wn wn1 wn2 : Nat} {th te kn : Int32} {kb df da dm dw : Nat → Int32} {mi fo2 : Int32} {rows lv ta tb td ua ub ud : Nat → Int32} {z : Nat} {cc ia is od : Int32} {fo fo1 fo3 wt wt1 wt2 : Nat → Int32} {r1 r2 : Int64} {x v : Int32}
theorem pl_tell (hw : wn ≤ 30) (q1 : r1 = rz (teK wn) (nI (wn + 1)).toInt64 ∧ fo1 = fz fo (teK wn) ∧ wt1 = (if teK wn = 0 then upd wt wn v else wt) ∧ wn1 = (if teK wn = 0 then wn + 1 else wn)) (q2 : r2 = rz (teK wn) (nI (wn + 1)).toInt64 ∧ fo3 = fz fo (teK wn) ∧ wt2 = (if teK wn = 0 then upd wt wn v else wt) ∧ wn2 = (if teK wn = 0 then wn + 1 else wn)) :
    r1 = r2 ∧ fo3 = fo1 ∧ wt2 = wt1 ∧ wn2 = wn1 ∧ wn1 ≤ 30 := by
  obtain ⟨rfl, rfl, rfl, rfl⟩ := q1
  obtain ⟨rfl, rfl, rfl, rfl⟩ := q2
  refine ⟨rfl, rfl, rfl, rfl, ?_⟩
  by_cases c : 30 ≤ wn
  · have e : teK wn = 4 := if_pos c
    rw [e, if_neg (by decide)]; exact hw
  · have e : teK wn = 0 := if_neg c
    rw [e, if_pos rfl]; omega
theorem pl_count (h2 : I2 tc tr tm tn ta tb td ua ub ud im) (h3 : I3 tk tm tn th te kn kb df da dm dw mi fo2 rows lv z cc ia is od)
    (q1 : r1 = rz (ctK x) (ctV (nI tn) (nI im) (popc kn) (nI wn) (popc th) x).toInt64 ∧ fo1 = fz fo (ctK x)) (q2 : r2 = rz (ctK x) (ctV (nI tn) (nI im) (szK (knF kb 10) 16) (nI wn) (szK (thM tk tm 0 tn) 16) x).toInt64 ∧ fo3 = fz fo (ctK x)) : r1 = r2 ∧ fo3 = fo1 := by
  have e1 : popc kn = szK (knF kb 10) 16 := by rw [h3.2.2.1]; exact m16_pop (kn_16 kb 10 (by omega))
  have e2 : popc th = szK (thM tk tm 0 tn) 16 := by rw [h3.1, thM_0]; exact m16_pop (th_16 (fun i hi => (h2.2.2.1 i hi).2.2))
  rw [e1, e2] at q1
  exact ⟨q1.1.trans q2.1.symm, q2.2.trans q1.2.symm⟩
end PLW
