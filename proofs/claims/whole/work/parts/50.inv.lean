/-! what holds between the calls of the law, and what each call does to it: clocks, TRACES, TIES -/
def I1 (cf cl ch : Nat → Nat → Int32) (cn : Nat → Nat) (fr lw hg : Nat → Int32) : Prop := CKr cf cl ch cn fr lw hg ∧ CKo cl ch cn
def I2 (tc tr tm : Nat → Int32) (tn : Nat) (ta tb td ua ub ud : Nat → Int32) (im : Nat) : Prop :=
  tn ≤ 12 ∧ im ≤ 24 ∧ (∀ i, i < tn → (∃ j, j < 4 ∧ tc i = nI j) ∧ okRd (tr i) ∧ ∃ q, q < 16 ∧ tm i = nI q) ∧
  ∀ i, i < im → ∃ a b, ta i = nI a ∧ tb i = nI b ∧ a < tn ∧ b < tn ∧ a ≠ b ∧ okSh (td i) ∧ ua i = ta i ∧ ub i = tb i ∧ ud i = td i
def I3 (tk tm : Nat → Int32) (tn : Nat) (th te kn : Int32) (kb df da dm dw : Nat → Int32) (mi fo2 : Int32) (rows lv : Nat → Int32) (z : Nat) (cc ia is od : Int32) : Prop :=
  th = thOf tm tn ∧ te = teOf tk tm tn ∧ kn = knF kb 10 ∧ DEr df da dm dw mi fo2 tn ∧ (od = 0 → LSok rows lv z cc ia is kn df da dm dw th te mi fo2 tm tn)
theorem rng {x : Int32} {n : Nat} (hn : n < 2147483647) (h1 : 0 ≤ x.toInt) (h2 : x.toInt ≤ (n : Int)) : ∃ j, j ≤ n ∧ x = nI j := upN_of hn h1 h2
section PLC
variable {cf cl ch cf1 cl1 ch1 : Nat → Nat → Int32} {cn cn1 cn2 : Nat → Nat} {fr lw hg fr1 lw1 hg1 : Nat → Int32} {j : Nat} {x y w b : Int32} {fo fo1 fo3 : Nat → Int32} {r1 r2 : Int64}
theorem I1.hcn (h : I1 cf cl ch cn fr lw hg) : ∀ v, v < 4 → cn v ≤ 5 := fun v hv => (h.1 v hv).1
theorem pcK_eq (h : I1 cf cl ch cn fr lw hg) (hj : j < 4) : pcK (fun k => fr ((5 * j) + k)) (cn j) x y w = pcK (cf j) (cn j) x y w := by
  unfold pcK
  rcases Nat.eq_zero_or_pos (cn j) with q | q
  · simp [q]
  · dsimp only
    simp only [((h.1 j hj).2 (cn j - 1) (by omega)).1]
theorem pcK_0 {f : Nat → Int32} {n : Nat} (h : pcK f n x y w = 0) : okSh y ∧ okSh w ∧ y.toInt ≤ w.toInt ∧ n < 5 := by
  unfold pcK at h
  by_cases c : ¬ (okRd x ∧ okSh y ∧ okSh w ∧ y.toInt ≤ w.toInt)
  · rw [if_pos c] at h; cases h
  · rw [if_neg c] at h
    by_cases d : ¬ (n = 0 ∨ (f (n - 1)).toInt < x.toInt)
    · rw [if_pos d] at h; cases h
    · rw [if_neg d] at h
      by_cases e : 5 ≤ n
      · rw [if_pos e] at h; cases h
      · obtain ⟨-, c2, c3, c4⟩ := Classical.not_not.mp c
        exact ⟨c2, c3, c4, by omega⟩
theorem pl_piece (h : I1 cf cl ch cn fr lw hg) (hj : j < 4)
    (p1 : r1 = rz (pcK (cf j) (cn j) x y w) (nI (cn j + 1)).toInt64 ∧ fo1 = fz fo (pcK (cf j) (cn j) x y w) ∧ cf1 = (if pcK (cf j) (cn j) x y w = 0 then va_up cf j (upd (cf j) (cn j) x) else cf) ∧ cl1 = (if pcK (cf j) (cn j) x y w = 0 then va_up cl j (upd (cl j) (cn j) y) else cl) ∧ ch1 = (if pcK (cf j) (cn j) x y w = 0 then va_up ch j (upd (ch j) (cn j) w) else ch) ∧ cn1 = (if pcK (cf j) (cn j) x y w = 0 then va_up cn j (cn j + 1) else cn))
    (p2 : r2 = rz (pcK (fun k => fr ((5 * j) + k)) (cn j) x y w) (nI (cn j + 1)).toInt64 ∧ fo3 = fz fo (pcK (fun k => fr ((5 * j) + k)) (cn j) x y w) ∧ fr1 = (if pcK (fun k => fr ((5 * j) + k)) (cn j) x y w = 0 then upd fr ((5 * j) + (cn j)) x else fr) ∧ lw1 = (if pcK (fun k => fr ((5 * j) + k)) (cn j) x y w = 0 then upd lw ((5 * j) + (cn j)) y else lw) ∧ hg1 = (if pcK (fun k => fr ((5 * j) + k)) (cn j) x y w = 0 then upd hg ((5 * j) + (cn j)) w else hg) ∧ cn2 = (if pcK (fun k => fr ((5 * j) + k)) (cn j) x y w = 0 then va_up cn j (cn j + 1) else cn)) :
    r1 = r2 ∧ fo3 = fo1 ∧ cn2 = cn1 ∧ I1 cf1 cl1 ch1 cn1 fr1 lw1 hg1 := by
  rw [pcK_eq h hj] at p2
  obtain ⟨rfl, rfl, rfl, rfl, rfl, rfl⟩ := p1
  obtain ⟨rfl, rfl, rfl, rfl, rfl, rfl⟩ := p2
  refine ⟨rfl, rfl, rfl, ?_⟩
  by_cases c : pcK (cf j) (cn j) x y w = 0
  · simp only [if_pos c]
    obtain ⟨c2, c3, c4, c5⟩ := pcK_0 c
    refine ⟨fun v hv => ?_, fun v hv k hk => ?_⟩
    · obtain ⟨g1, g2⟩ := h.1 v hv
      by_cases e : v = j
      · subst e
        rw [va_up_self, va_up_self, va_up_self, va_up_self]
        refine ⟨by omega, fun k hk => ?_⟩
        by_cases ek : k = cn v
        · subst ek
          rw [pk_us, pk_us, pk_us, pk_us, pk_us, pk_us]
          exact ⟨rfl, rfl, rfl, c2, c3⟩
        · rw [pk_un (by omega), pk_un (by omega), pk_un (by omega), pk_un (by omega), pk_un (by omega), pk_un (by omega)]
          exact g2 k (by omega)
      · rw [va_up_ne _ _ e, va_up_ne _ _ e, va_up_ne _ _ e, va_up_ne _ _ e]
        refine ⟨g1, fun k hk => ?_⟩
        rw [pk_un (by omega), pk_un (by omega), pk_un (by omega)]
        exact g2 k hk
    · by_cases e : v = j
      · subst e
        rw [va_up_self] at hk
        rw [va_up_self, va_up_self]
        by_cases ek : k = cn v
        · subst ek
          rw [pk_us, pk_us]; exact c4
        · rw [pk_un (by omega), pk_un (by omega)]
          exact h.2 v hv k (by omega)
      · rw [va_up_ne _ _ e] at hk
        rw [va_up_ne _ _ e, va_up_ne _ _ e]
        exact h.2 v hv k hk
  · simp only [if_neg c]
    exact h
theorem pl_reset (h : I1 cf cl ch cn fr lw hg) (p1 : r1 = (nI (cn j)).toInt64 ∧ cn1 = va_up cn j 0) (p2 : r2 = (nI (cn j)).toInt64 ∧ cn2 = va_up cn j 0) : r1 = r2 ∧ cn2 = cn1 ∧ I1 cf cl ch cn1 fr lw hg := by
  obtain ⟨rfl, rfl⟩ := p1
  obtain ⟨rfl, rfl⟩ := p2
  refine ⟨rfl, rfl, fun v hv => ?_, fun v hv k hk => ?_⟩
  · by_cases e : v = j
    · subst e
      rw [va_up_self]
      exact ⟨by omega, fun k hk => absurd hk (by omega)⟩
    · rw [va_up_ne _ _ e]; exact h.1 v hv
  · by_cases e : v = j
    · subst e
      rw [va_up_self] at hk
      exact absurd hk (by omega)
    · rw [va_up_ne _ _ e] at hk; exact h.2 v hv k hk
theorem pl_offset (h : I1 cf cl ch cn fr lw hg) (hj : j < 4) (p1 : r1 = rz (ofK (cf j) (cn j) x) (ofV (cf j) (cl j) (ch j) (cn j) x b).toInt64 ∧ fo1 = fz fo (ofK (cf j) (cn j) x))
    (p2 : r2 = rz (ofK (fun q => fr ((5 * j) + q)) (cn j) x) (ofV (fun q => fr ((5 * j) + q)) (fun q => lw ((5 * j) + q)) (fun q => hg ((5 * j) + q)) (cn j) x b).toInt64 ∧ fo3 = fz fo (ofK (fun q => fr ((5 * j) + q)) (cn j) x)) : r1 = r2 ∧ fo3 = fo1 := by
  have hc := h.1 j hj
  have ep : plOf (fun q => fr ((5 * j) + q)) x (cn j) = plOf (cf j) x (cn j) := plOf_cg (fun k hk => (hc.2 k hk).1)
  have e1 : ofK (fun q => fr ((5 * j) + q)) (cn j) x = ofK (cf j) (cn j) x := by unfold ofK; rw [ep]
  have e2 : ofV (fun q => fr ((5 * j) + q)) (fun q => lw ((5 * j) + q)) (fun q => hg ((5 * j) + q)) (cn j) x b = ofV (cf j) (cl j) (ch j) (cn j) x b := by
    unfold ofV
    rw [ep]
    cases hp : plOf (cf j) x (cn j) with
    | none => rfl
    | some k =>
      obtain ⟨-, el, eh, -⟩ := hc.2 k (plOf_lt hp)
      show (if b = 0 then lw (5 * j + k) else hg (5 * j + k)) = if b = 0 then cl j k else ch j k
      rw [el, eh]
  rw [e1, e2] at p2
  exact ⟨p1.1.trans p2.1.symm, p2.2.trans p1.2.symm⟩
end PLC
section PLT
variable {tk tc tr tm tk1 tc1 tr1 tm1 tk2 tc2 tr2 tm2 ta tb td ua ub ud ta1 tb1 td1 ua1 ub1 ud1 : Nat → Int32} {tn im tn1 tn2 im1 im2 : Nat} {th te th1 te1 kn : Int32} {kb df da dm dw : Nat → Int32} {mi fo2 : Int32} {rows lv : Nat → Int32} {z : Nat} {cc ia is od od1 : Int32} {x1 x2 x3 x4 : Int32} {fo fo1 fo3 : Nat → Int32} {r1 r2 : Int64}
theorem trK_0 (h : trK tn x1 x2 x3 x4 = 0) : (0 ≤ x2.toInt ∧ x2.toInt ≤ 3) ∧ okRd x3 ∧ (0 ≤ x4.toInt ∧ x4.toInt ≤ 15) ∧ tn < 12 := by
  unfold trK at h
  by_cases c : ¬ ((0 ≤ x1.toInt ∧ x1.toInt ≤ 2) ∧ (0 ≤ x2.toInt ∧ x2.toInt ≤ 3) ∧ okRd x3 ∧ (0 ≤ x4.toInt ∧ x4.toInt ≤ 15))
  · rw [if_pos c] at h; cases h
  · rw [if_neg c] at h
    by_cases e : 12 ≤ tn
    · rw [if_pos e] at h; cases h
    · obtain ⟨-, c2, c3, c4⟩ := Classical.not_not.mp c
      exact ⟨c2, c3, c4, by omega⟩
theorem DEr.tn' (h : DEr df da dm dw mi fo2 tn) {n : Nat} (hn : n ≤ 12) : DEr df da dm dw mi fo2 n := ⟨h.1, h.2.1, h.2.2.1, hn⟩
theorem one_ne : ¬ (1 : Int32) = 0 := by decide
theorem pl_trace (h2 : I2 tc tr tm tn ta tb td ua ub ud im) (h3 : I3 tk tm tn th te kn kb df da dm dw mi fo2 rows lv z cc ia is od)
    (p1 : r1 = rz (trK tn x1 x2 x3 x4) (nI tn).toInt64 ∧ fo1 = fz fo (trK tn x1 x2 x3 x4) ∧ tk1 = (if trK tn x1 x2 x3 x4 = 0 then upd tk tn x1 else tk) ∧ tc1 = (if trK tn x1 x2 x3 x4 = 0 then upd tc tn x2 else tc) ∧ tr1 = (if trK tn x1 x2 x3 x4 = 0 then upd tr tn x3 else tr) ∧ tm1 = (if trK tn x1 x2 x3 x4 = 0 then upd tm tn x4 else tm) ∧ tn1 = (if trK tn x1 x2 x3 x4 = 0 then tn + 1 else tn) ∧ th1 = (if trK tn x1 x2 x3 x4 = 0 then thOf (upd tm tn x4) (tn + 1) else th) ∧ te1 = (if trK tn x1 x2 x3 x4 = 0 then teOf (upd tk tn x1) (upd tm tn x4) (tn + 1) else te) ∧ od1 = (if trK tn x1 x2 x3 x4 = 0 then 1 else od))
    (p2 : r2 = rz (trK tn x1 x2 x3 x4) (nI tn).toInt64 ∧ fo3 = fz fo (trK tn x1 x2 x3 x4) ∧ tk2 = (if trK tn x1 x2 x3 x4 = 0 then upd tk tn x1 else tk) ∧ tc2 = (if trK tn x1 x2 x3 x4 = 0 then upd tc tn x2 else tc) ∧ tr2 = (if trK tn x1 x2 x3 x4 = 0 then upd tr tn x3 else tr) ∧ tm2 = (if trK tn x1 x2 x3 x4 = 0 then upd tm tn x4 else tm) ∧ tn2 = (if trK tn x1 x2 x3 x4 = 0 then tn + 1 else tn)) :
    r1 = r2 ∧ fo3 = fo1 ∧ tk2 = tk1 ∧ tc2 = tc1 ∧ tr2 = tr1 ∧ tm2 = tm1 ∧ tn2 = tn1 ∧ I2 tc1 tr1 tm1 tn1 ta tb td ua ub ud im ∧ I3 tk1 tm1 tn1 th1 te1 kn kb df da dm dw mi fo2 rows lv z cc ia is od1 := by
  obtain ⟨rfl, rfl, rfl, rfl, rfl, rfl, rfl, rfl, rfl, rfl⟩ := p1
  obtain ⟨rfl, rfl, rfl, rfl, rfl, rfl, rfl⟩ := p2
  refine ⟨rfl, rfl, rfl, rfl, rfl, rfl, rfl, ?_⟩
  by_cases c : trK tn x1 x2 x3 x4 = 0
  · simp only [if_pos c]
    obtain ⟨c2, c3, c4, c5⟩ := trK_0 c
    refine ⟨⟨by omega, h2.2.1, fun i hi => ?_, fun i hi => ?_⟩, rfl, rfl, h3.2.2.1, h3.2.2.2.1.tn' (by omega), fun hz => absurd hz one_ne⟩
    · by_cases e : i = tn
      · subst e
        rw [pk_us, pk_us, pk_us]
        obtain ⟨j, j1, j2⟩ := rng (n := 3) (by decide) c2.1 c2.2
        obtain ⟨q, q1, q2⟩ := rng (n := 15) (by decide) c4.1 c4.2
        exact ⟨⟨j, by omega, j2⟩, c3, ⟨q, by omega, q2⟩⟩
      · rw [pk_un e, pk_un e, pk_un e]
        exact h2.2.2.1 i (by omega)
    · obtain ⟨a, b, g1, g2, g3, g4, g5⟩ := h2.2.2.2 i hi
      exact ⟨a, b, g1, g2, by omega, by omega, g5⟩
  · simp only [if_neg c]
    exact ⟨h2, h3⟩
theorem pl_drop (h2 : I2 tc tr tm tn ta tb td ua ub ud im) (h3 : I3 tk tm tn th te kn kb df da dm dw mi fo2 rows lv z cc ia is od)
    (p1 : r1 = rz (drK tn) (nI (tn - 1)).toInt64 ∧ fo1 = fz fo (drK tn) ∧ tn1 = tn - 1 ∧ th1 = (if tn = 0 then th else thOf tm (tn - 1)) ∧ te1 = (if tn = 0 then te else teOf tk tm (tn - 1)) ∧ ta1 = (if tn = 0 then ta else cmpF ta (tieK ta tb (nI (tn - 1))) im) ∧ tb1 = (if tn = 0 then tb else cmpF tb (tieK ta tb (nI (tn - 1))) im) ∧ td1 = (if tn = 0 then td else cmpF td (tieK ta tb (nI (tn - 1))) im) ∧ im1 = (if tn = 0 then im else kpt (tieK ta tb (nI (tn - 1))) im) ∧ od1 = (if tn = 0 then od else 1))
    (p2 : r2 = rz (drK tn) (nI (tn - 1)).toInt64 ∧ fo3 = fz fo (drK tn) ∧ tn2 = tn - 1 ∧ ua1 = (if tn = 0 then ua else (drD (nI (tn - 1)) im (ua, ub, ud, im)).1) ∧ ub1 = (if tn = 0 then ub else (drD (nI (tn - 1)) im (ua, ub, ud, im)).2.1) ∧ ud1 = (if tn = 0 then ud else (drD (nI (tn - 1)) im (ua, ub, ud, im)).2.2.1) ∧ im2 = (if tn = 0 then im else (drD (nI (tn - 1)) im (ua, ub, ud, im)).2.2.2)) :
    r1 = r2 ∧ fo3 = fo1 ∧ tn2 = tn1 ∧ im2 = im1 ∧ I2 tc tr tm tn1 ta1 tb1 td1 ua1 ub1 ud1 im1 ∧ I3 tk tm tn1 th1 te1 kn kb df da dm dw mi fo2 rows lv z cc ia is od1 := by
  obtain ⟨rfl, rfl, rfl, e1, e2, e3, e4, e5, e6, e7⟩ := p1
  obtain ⟨rfl, rfl, rfl, f1, f2, f3, f4⟩ := p2
  refine ⟨rfl, rfl, rfl, ?_⟩
  by_cases c : tn = 0
  · rw [if_pos c] at e1 e2 e3 e4 e5 e6 e7 f1 f2 f3 f4
    subst e1 e2 e3 e4 e5 e6 e7 f1 f2 f3 f4
    rw [show tn - 1 = tn by omega]
    exact ⟨rfl, h2, h3⟩
  · rw [if_neg c] at e1 e2 e3 e4 e5 e6 e7 f1 f2 f3 f4
    have key := drD_ok (ta := ta) (tb := tb) (td := td) (t := nI (tn - 1)) im ua ub ud im (Nat.le_refl _) (fun j hj => by
      obtain ⟨a, b, -, -, -, -, -, -, g⟩ := h2.2.2.2 j hj
      exact g)
    obtain ⟨k1, k2, -⟩ := key
    have ei : im2 = im1 := by rw [f4, e6, k1]; omega
    subst e7
    have km : ∀ n, kpt (tieK ta tb (nI (tn - 1))) n ≤ n := by
      intro n
      induction n with
      | zero => exact Nat.le_refl _
      | succ n ih => rw [kpt_s]; split <;> omega
    have hm := km im
    refine ⟨ei, ⟨by have := h2.1; omega, by have := h2.2.1; omega, fun i hi => h2.2.2.1 i (by omega), fun i hi => ?_⟩, e1, e2, h3.2.2.1, h3.2.2.2.1.tn' (by have := h2.1; omega), fun hz => absurd hz one_ne⟩
    rw [e6] at hi
    obtain ⟨q1, q2, q3⟩ := k2 i hi
    obtain ⟨i0, w1, w2, w3⟩ := cmp_sel _ im i hi
    obtain ⟨a, b, g1, g2, g3, g4, g5, g6, g7⟩ := h2.2.2.2 i0 w1
    have w2 := of_decide_eq_true w2
    have na : a ≠ tn - 1 := fun y => w2.1 (by rw [g1, y])
    have nb : b ≠ tn - 1 := fun y => w2.2 (by rw [g2, y])
    rw [e3, e4, e5, f1, f2, f3, q1, q2, q3, w3, w3, w3]
    exact ⟨a, b, g1, g2, by omega, by omega, g5, g6, rfl, rfl, rfl⟩
theorem tiK_0 {i j : Nat} {d : Int32} (h : tiK im i j d = 0) : i ≠ j ∧ okSh d ∧ im < 24 := by
  unfold tiK at h
  by_cases c : i = j
  · rw [if_pos c] at h; cases h
  · rw [if_neg c] at h
    by_cases e : ¬ okSh d
    · rw [if_pos e] at h; cases h
    · rw [if_neg e] at h
      by_cases f : 24 ≤ im
      · rw [if_pos f] at h; cases h
      · exact ⟨c, Classical.not_not.mp e, by omega⟩
theorem pl_tie {i j : Nat} {d : Int32} (h2 : I2 tc tr tm tn ta tb td ua ub ud im) (hi : i < tn) (hj : j < tn)
    (p1 : r1 = rz (tiK im i j d) (nI (im + 1)).toInt64 ∧ fo1 = fz fo (tiK im i j d) ∧ ta1 = (if tiK im i j d = 0 then upd ta im (nI i) else ta) ∧ tb1 = (if tiK im i j d = 0 then upd tb im (nI j) else tb) ∧ td1 = (if tiK im i j d = 0 then upd td im d else td) ∧ im1 = (if tiK im i j d = 0 then im + 1 else im))
    (p2 : r2 = rz (tiK im i j d) (nI (im + 1)).toInt64 ∧ fo3 = fz fo (tiK im i j d) ∧ ua1 = (if tiK im i j d = 0 then upd ua im (nI i) else ua) ∧ ub1 = (if tiK im i j d = 0 then upd ub im (nI j) else ub) ∧ ud1 = (if tiK im i j d = 0 then upd ud im d else ud) ∧ im2 = (if tiK im i j d = 0 then im + 1 else im)) :
    r1 = r2 ∧ fo3 = fo1 ∧ im2 = im1 ∧ I2 tc tr tm tn ta1 tb1 td1 ua1 ub1 ud1 im1 := by
  obtain ⟨rfl, rfl, rfl, rfl, rfl, rfl⟩ := p1
  obtain ⟨rfl, rfl, rfl, rfl, rfl, rfl⟩ := p2
  refine ⟨rfl, rfl, rfl, ?_⟩
  by_cases c : tiK im i j d = 0
  · simp only [if_pos c]
    obtain ⟨c1, c2, c3⟩ := tiK_0 c
    refine ⟨h2.1, by omega, h2.2.2.1, fun k hk => ?_⟩
    by_cases e : k = im
    · subst e
      rw [pk_us, pk_us, pk_us, pk_us, pk_us, pk_us]
      exact ⟨i, j, rfl, rfl, hi, hj, c1, c2, rfl, rfl, rfl⟩
    · rw [pk_un e, pk_un e, pk_un e, pk_un e, pk_un e, pk_un e]
      exact h2.2.2.2 k (by omega)
  · simp only [if_neg c]
    exact h2
theorem pl_untie {j : Nat} (h2 : I2 tc tr tm tn ta tb td ua ub ud im) (hj : j < im)
    (p1 : r1 = (nI (im - 1)).toInt64 ∧ ta1 = rmS ta j im ∧ tb1 = rmS tb j im ∧ td1 = rmS td j im) (p2 : r2 = (nI (im - 1)).toInt64 ∧ ua1 = rmS ua j im ∧ ub1 = rmS ub j im ∧ ud1 = rmS ud j im) :
    r1 = r2 ∧ I2 tc tr tm tn ta1 tb1 td1 ua1 ub1 ud1 (im - 1) := by
  obtain ⟨rfl, rfl, rfl, rfl⟩ := p1
  obtain ⟨rfl, rfl, rfl, rfl⟩ := p2
  refine ⟨rfl, h2.1, by have := h2.2.1; omega, h2.2.2.1, fun k hk => ?_⟩
  unfold rmS
  by_cases c : j ≤ k ∧ k + 1 < im
  · simp only [if_pos c]
    exact h2.2.2.2 (k + 1) c.2
  · simp only [if_neg c]
    exact h2.2.2.2 k (by omega)
end PLT
