set_option maxHeartbeats 4000000 in
set_option maxRecDepth 100000 in
theorem c_X7_isWithin (l : Launch) (G : gT) (v : Int32) (a : Int32) (b : Int32) : Met l yX7_isWithin wsX7_isWithin ({ frames := 0, cells := 0, slots := 0, locals := 0 }) (cPre G [.int v, .int a, .int b] []) (va_Qi (fun (rv : Int32) (_u : Unit) => rv = bI (decide (a.toInt ≤ v.toInt ∧ v.toInt ≤ b.toInt))) (cW G [] (fun (_u : Unit) => [])) (pB [])) 0 0 (pB []) := by
  refine ofCX (G := G) (cc := cX7_isWithin) (maxL := 3) (ret := (some .boolean)) (by decide) rfl (Nat.le_of_ble_eq_true rfl) ?_
  intro p e s m below meth c ls C hr hin hD hP hl
  obtain ⟨hx, hb, hml, hown, hts, hlocks, hK⟩ := id C
  have hown : s.vm.findClass RX7 = some m.cls := hown
  generalize hAe : pB [] = A at hD ⊢
  have hS : va_S A s.heap s.heap [] := va_S.rf
  have hP : va_P G.1 vwCl [] s.heap := hP
  have hD : va_D A [] := hD
  have hl : lv_has ls 3 [(0, .int v), (1, .int a), (2, .int b)] := hl
  refine lv_iload_n hx hb dX7_isWithin_0 rfl (lv_at hl 0 rfl) ?_
  refine lv_iload_n hx hb dX7_isWithin_1 rfl (lv_at hl 1 rfl) ?_
  refine lv_icmp_lt (tgt := 14) hx hb dX7_isWithin_2 (by decide) (fun c_1 => ?_) (fun c_1 => ?_)
  · -- yes: v lt a
    have c_1 : v.toInt < a.toInt := Int32.lt_iff_toInt_lt.mp c_1
    refine lv_iconst (v := 0) hx hb dX7_isWithin_14 (by decide) ?_
    exact rtZ C hr rfl hAe (u := ()) hP hD hS dX7_isWithin_15 (bI_f (by omega))
  · -- no: v ge a
    have c_1 : ¬ v.toInt < a.toInt := fun z => c_1 (Int32.lt_iff_toInt_lt.mpr z)
    refine lv_iload_n hx hb dX7_isWithin_5 rfl (lv_at hl 0 rfl) ?_
    refine lv_iload_n hx hb dX7_isWithin_6 rfl (lv_at hl 2 rfl) ?_
    refine lv_icmp_gt (tgt := 14) hx hb dX7_isWithin_7 (by decide) (fun c_2 => ?_) (fun c_2 => ?_)
    · -- yes: v gt b
      have c_2 : b.toInt < v.toInt := Int32.lt_iff_toInt_lt.mp c_2
      refine lv_iconst (v := 0) hx hb dX7_isWithin_14 (by decide) ?_
      exact rtZ C hr rfl hAe (u := ()) hP hD hS dX7_isWithin_15 (bI_f (by omega))
    · -- no: v le b
      have c_2 : ¬ b.toInt < v.toInt := fun z => c_2 (Int32.lt_iff_toInt_lt.mpr z)
      refine lv_iconst (v := 1) hx hb dX7_isWithin_10 (by decide) ?_
      refine lv_goto (tgt := 15) hx hb dX7_isWithin_11 (by decide) ?_
      exact rtZ C hr rfl hAe (u := ()) hP hD hS dX7_isWithin_15 (bI_t (by omega))

set_option maxHeartbeats 4000000 in
set_option maxRecDepth 100000 in
theorem c_X7_isReading (l : Launch) (G : gT) (v : Int32) : Met l yX7_isReading wsX7_isReading ({ frames := 1, cells := 0, slots := 0, locals := 22 }) (cPre G [.int v] []) (va_Qi (fun (rv : Int32) (_u : Unit) => rv = bI (decide (0 ≤ v.toInt ∧ v.toInt ≤ 1000000))) (cW G [] (fun (_u : Unit) => [])) (pB [])) 0 0 (pB []) := by
  refine ofCX (G := G) (cc := cX7_isReading) (maxL := 1) (ret := (some .boolean)) (by decide) rfl (Nat.le_of_ble_eq_true rfl) ?_
  intro p e s m below meth c ls C hr hin hD hP hl
  obtain ⟨hx, hb, hml, hown, hts, hlocks, hK⟩ := id C
  have hown : s.vm.findClass RX7 = some m.cls := hown
  have hcn_280 := hts (.constant RX7 278 (1000000)) (by decide +kernel)
  generalize hAe : pB [] = A at hD ⊢
  have hS : va_S A s.heap s.heap [] := va_S.rf
  have hP : va_P G.1 vwCl [] s.heap := hP
  have hD : va_D A [] := hD
  have hl : lv_has ls 1 [(0, .int v)] := hl
  refine lv_iload_n hx hb dX7_isReading_0 rfl (lv_at hl 0 rfl) ?_
  refine lv_iconst (v := 0) hx hb dX7_isReading_1 (by decide) ?_
  refine lv_ldcw hx hb hown hcn_280 dX7_isReading_2 ?_
  refine xI (S := Unit) (va_runS (As := [.int v, .int 0, .int 1000000]) (rest := []) ⟨hx, hb, hml, hown, hts⟩ (c_X7_isWithin l G v 0 1000000) (va_cwS 3 hts gX7_isReading_X7_isWithin rfl rfl rfl (by decide +kernel) ⟨Nat.le_of_ble_eq_true rfl, Nat.le_of_ble_eq_true rfl⟩) (pS [.int v, .int 0, .int 1000000] hK (hP.sub (ws' := []) [] rfl) (hD.sub (ws' := []) [] (by decide) rfl)) rfl rfl hl.1 rfl (lv_room (Nat.le_of_ble_eq_true rfl)) dX7_isReading_5 ⟨Nat.zero_le _, Nat.zero_le _⟩) hP hD hS [] [] (wr := []) rfl rfl (by decide) (by decide) [] (w2 := fun (_ : Unit) => []) (fun _ => rfl) (by decide) (fun r_1 u_2 H locs hw_3 hP hD hS => ?_)
  (try dsimp only at hw_3); subst hw_3
  have hP : va_P G.1 vwCl [] H := hP
  have hD : va_D A [] := hD
  exact rtZ C hr (nar_bI _) hAe (u := ()) hP hD hS dX7_isReading_8 rfl

set_option maxHeartbeats 4000000 in
set_option maxRecDepth 100000 in
theorem c_X7_isShift (l : Launch) (G : gT) (v : Int32) : Met l yX7_isShift wsX7_isShift ({ frames := 1, cells := 0, slots := 0, locals := 22 }) (cPre G [.int v] []) (va_Qi (fun (rv : Int32) (_u : Unit) => rv = bI (decide ((-100000) ≤ v.toInt ∧ v.toInt ≤ 100000))) (cW G [] (fun (_u : Unit) => [])) (pB [])) 0 0 (pB []) := by
  refine ofCX (G := G) (cc := cX7_isShift) (maxL := 1) (ret := (some .boolean)) (by decide) rfl (Nat.le_of_ble_eq_true rfl) ?_
  intro p e s m below meth c ls C hr hin hD hP hl
  obtain ⟨hx, hb, hml, hown, hts, hlocks, hK⟩ := id C
  have hown : s.vm.findClass RX7 = some m.cls := hown
  have hcn_281 := hts (.constant RX7 279 (-100000)) (by decide +kernel)
  have hcn_282 := hts (.constant RX7 280 (100000)) (by decide +kernel)
  generalize hAe : pB [] = A at hD ⊢
  have hS : va_S A s.heap s.heap [] := va_S.rf
  have hP : va_P G.1 vwCl [] s.heap := hP
  have hD : va_D A [] := hD
  have hl : lv_has ls 1 [(0, .int v)] := hl
  refine lv_iload_n hx hb dX7_isShift_0 rfl (lv_at hl 0 rfl) ?_
  refine lv_ldcw hx hb hown hcn_281 dX7_isShift_1 ?_
  refine lv_ldcw hx hb hown hcn_282 dX7_isShift_4 ?_
  refine xI (S := Unit) (va_runS (As := [.int v, .int (-100000), .int 100000]) (rest := []) ⟨hx, hb, hml, hown, hts⟩ (c_X7_isWithin l G v (-100000) 100000) (va_cwS 3 hts gX7_isShift_X7_isWithin rfl rfl rfl (by decide +kernel) ⟨Nat.le_of_ble_eq_true rfl, Nat.le_of_ble_eq_true rfl⟩) (pS [.int v, .int (-100000), .int 100000] hK (hP.sub (ws' := []) [] rfl) (hD.sub (ws' := []) [] (by decide) rfl)) rfl rfl hl.1 rfl (lv_room (Nat.le_of_ble_eq_true rfl)) dX7_isShift_7 ⟨Nat.zero_le _, Nat.zero_le _⟩) hP hD hS [] [] (wr := []) rfl rfl (by decide) (by decide) [] (w2 := fun (_ : Unit) => []) (fun _ => rfl) (by decide) (fun r_1 u_2 H locs hw_3 hP hD hS => ?_)
  (try dsimp only at hw_3); subst hw_3
  have hP : va_P G.1 vwCl [] H := hP
  have hD : va_D A [] := hD
  exact rtZ C hr (nar_bI _) hAe (u := ()) hP hD hS dX7_isShift_10 rfl

set_option maxHeartbeats 4000000 in
set_option maxRecDepth 100000 in
theorem c_X7_isPrice (l : Launch) (G : gT) (v : Int32) : Met l yX7_isPrice wsX7_isPrice ({ frames := 1, cells := 0, slots := 0, locals := 22 }) (cPre G [.int v] []) (va_Qi (fun (rv : Int32) (_u : Unit) => rv = bI (decide (0 ≤ v.toInt ∧ v.toInt ≤ 1000))) (cW G [] (fun (_u : Unit) => [])) (pB [])) 0 0 (pB []) := by
  refine ofCX (G := G) (cc := cX7_isPrice) (maxL := 1) (ret := (some .boolean)) (by decide) rfl (Nat.le_of_ble_eq_true rfl) ?_
  intro p e s m below meth c ls C hr hin hD hP hl
  obtain ⟨hx, hb, hml, hown, hts, hlocks, hK⟩ := id C
  have hown : s.vm.findClass RX7 = some m.cls := hown
  generalize hAe : pB [] = A at hD ⊢
  have hS : va_S A s.heap s.heap [] := va_S.rf
  have hP : va_P G.1 vwCl [] s.heap := hP
  have hD : va_D A [] := hD
  have hl : lv_has ls 1 [(0, .int v)] := hl
  refine lv_iload_n hx hb dX7_isPrice_0 rfl (lv_at hl 0 rfl) ?_
  refine lv_iconst (v := 0) hx hb dX7_isPrice_1 (by decide) ?_
  refine lv_sipush (v := 1000) hx hb dX7_isPrice_2 (by decide) ?_
  refine xI (S := Unit) (va_runS (As := [.int v, .int 0, .int 1000]) (rest := []) ⟨hx, hb, hml, hown, hts⟩ (c_X7_isWithin l G v 0 1000) (va_cwS 3 hts gX7_isPrice_X7_isWithin rfl rfl rfl (by decide +kernel) ⟨Nat.le_of_ble_eq_true rfl, Nat.le_of_ble_eq_true rfl⟩) (pS [.int v, .int 0, .int 1000] hK (hP.sub (ws' := []) [] rfl) (hD.sub (ws' := []) [] (by decide) rfl)) rfl rfl hl.1 rfl (lv_room (Nat.le_of_ble_eq_true rfl)) dX7_isPrice_5 ⟨Nat.zero_le _, Nat.zero_le _⟩) hP hD hS [] [] (wr := []) rfl rfl (by decide) (by decide) [] (w2 := fun (_ : Unit) => []) (fun _ => rfl) (by decide) (fun r_1 u_2 H locs hw_3 hP hD hS => ?_)
  (try dsimp only at hw_3); subst hw_3
  have hP : va_P G.1 vwCl [] H := hP
  have hD : va_D A [] := hD
  exact rtZ C hr (nar_bI _) hAe (u := ()) hP hD hS dX7_isPrice_8 rfl

set_option maxHeartbeats 4000000 in
set_option maxRecDepth 100000 in
theorem c_X7_isRowOfMarks (l : Launch) (G : gT) (v : Int32) : Met l yX7_isRowOfMarks wsX7_isRowOfMarks ({ frames := 1, cells := 0, slots := 0, locals := 22 }) (cPre G [.int v] []) (va_Qi (fun (rv : Int32) (_u : Unit) => rv = bI (decide (0 ≤ v.toInt ∧ v.toInt ≤ 65535))) (cW G [] (fun (_u : Unit) => [])) (pB [])) 0 0 (pB []) := by
  refine ofCX (G := G) (cc := cX7_isRowOfMarks) (maxL := 1) (ret := (some .boolean)) (by decide) rfl (Nat.le_of_ble_eq_true rfl) ?_
  intro p e s m below meth c ls C hr hin hD hP hl
  obtain ⟨hx, hb, hml, hown, hts, hlocks, hK⟩ := id C
  have hown : s.vm.findClass RX7 = some m.cls := hown
  have hcn_283 := hts (.constant RX7 281 (65535)) (by decide +kernel)
  generalize hAe : pB [] = A at hD ⊢
  have hS : va_S A s.heap s.heap [] := va_S.rf
  have hP : va_P G.1 vwCl [] s.heap := hP
  have hD : va_D A [] := hD
  have hl : lv_has ls 1 [(0, .int v)] := hl
  refine lv_iload_n hx hb dX7_isRowOfMarks_0 rfl (lv_at hl 0 rfl) ?_
  refine lv_iconst (v := 0) hx hb dX7_isRowOfMarks_1 (by decide) ?_
  refine lv_ldcw hx hb hown hcn_283 dX7_isRowOfMarks_2 ?_
  refine xI (S := Unit) (va_runS (As := [.int v, .int 0, .int 65535]) (rest := []) ⟨hx, hb, hml, hown, hts⟩ (c_X7_isWithin l G v 0 65535) (va_cwS 3 hts gX7_isRowOfMarks_X7_isWithin rfl rfl rfl (by decide +kernel) ⟨Nat.le_of_ble_eq_true rfl, Nat.le_of_ble_eq_true rfl⟩) (pS [.int v, .int 0, .int 65535] hK (hP.sub (ws' := []) [] rfl) (hD.sub (ws' := []) [] (by decide) rfl)) rfl rfl hl.1 rfl (lv_room (Nat.le_of_ble_eq_true rfl)) dX7_isRowOfMarks_5 ⟨Nat.zero_le _, Nat.zero_le _⟩) hP hD hS [] [] (wr := []) rfl rfl (by decide) (by decide) [] (w2 := fun (_ : Unit) => []) (fun _ => rfl) (by decide) (fun r_1 u_2 H locs hw_3 hP hD hS => ?_)
  (try dsimp only at hw_3); subst hw_3
  have hP : va_P G.1 vwCl [] H := hP
  have hD : va_D A [] := hD
  exact rtZ C hr (nar_bI _) hAe (u := ()) hP hD hS dX7_isRowOfMarks_8 rfl

set_option maxHeartbeats 4000000 in
set_option maxRecDepth 100000 in
theorem c_X7_isEnd (l : Launch) (G : gT) (x : Int64) : Met l yX7_isEnd wsX7_isEnd ({ frames := 0, cells := 0, slots := 0, locals := 0 }) (cPre G [.long x] []) (va_Qi (fun (rv : Int32) (_u : Unit) => rv = bI (decide ((-1152921504606846976) < x.toInt ∧ x.toInt < 1152921504606846976))) (cW G [] (fun (_u : Unit) => [])) (pB [])) 0 0 (pB []) := by
  refine ofCX (G := G) (cc := cX7_isEnd) (maxL := 2) (ret := (some .boolean)) (by decide) rfl (Nat.le_of_ble_eq_true rfl) ?_
  intro p e s m below meth c ls C hr hin hD hP hl
  obtain ⟨hx, hb, hml, hown, hts, hlocks, hK⟩ := id C
  have hown : s.vm.findClass RX7 = some m.cls := hown
  have hcl_259 := hts (.constantLong RX7 257 (-1152921504606846976)) (by decide +kernel)
  have hcl_257 := hts (.constantLong RX7 255 (1152921504606846976)) (by decide +kernel)
  generalize hAe : pB [] = A at hD ⊢
  have hS : va_S A s.heap s.heap [] := va_S.rf
  have hP : va_P G.1 vwCl [] s.heap := hP
  have hD : va_D A [] := hD
  have hl : lv_has ls 2 [(0, .long x)] := hl
  refine lv_lload_n hx hb dX7_isEnd_0 rfl (lv_at hl 0 rfl) ?_
  refine lv_ldc2 hx hb hown hcl_259 dX7_isEnd_1 ?_
  refine W.lcmp hx hb dX7_isEnd_4 ?_
  refine lv_if_le (tgt := 20) hx hb dX7_isEnd_5 (by decide) (fun c_1 => ?_) (fun c_1 => ?_)
  · -- yes: lg_cmp x (-1152921504606846976) le 0
    have c_1 : x.toInt ≤ (-1152921504606846976) := Int64.le_iff_toInt_le.mp ((lg_cmp_le _ _).mp c_1)
    refine lv_iconst (v := 0) hx hb dX7_isEnd_20 (by decide) ?_
    exact rtZ C hr rfl hAe (u := ()) hP hD hS dX7_isEnd_21 (bI_f (by omega))
  · -- no: lg_cmp x (-1152921504606846976) gt 0
    have c_1 : ¬ x.toInt ≤ (-1152921504606846976) := fun z => c_1 ((lg_cmp_le _ _).mpr (Int64.le_iff_toInt_le.mpr z))
    refine lv_lload_n hx hb dX7_isEnd_8 rfl (lv_at hl 0 rfl) ?_
    refine lv_ldc2 hx hb hown hcl_257 dX7_isEnd_9 ?_
    refine W.lcmp hx hb dX7_isEnd_12 ?_
    refine lv_if_ge (tgt := 20) hx hb dX7_isEnd_13 (by decide) (fun c_2 => ?_) (fun c_2 => ?_)
    · -- yes: lg_cmp x 1152921504606846976 ge 0
      have c_2 : 1152921504606846976 ≤ x.toInt := Int64.le_iff_toInt_le.mp ((lg_cmp_ge _ _).mp c_2)
      refine lv_iconst (v := 0) hx hb dX7_isEnd_20 (by decide) ?_
      exact rtZ C hr rfl hAe (u := ()) hP hD hS dX7_isEnd_21 (bI_f (by omega))
    · -- no: lg_cmp x 1152921504606846976 lt 0
      have c_2 : ¬ 1152921504606846976 ≤ x.toInt := fun z => c_2 ((lg_cmp_ge _ _).mpr (Int64.le_iff_toInt_le.mpr z))
      refine lv_iconst (v := 1) hx hb dX7_isEnd_16 (by decide) ?_
      refine lv_goto (tgt := 21) hx hb dX7_isEnd_17 (by decide) ?_
      exact rtZ C hr rfl hAe (u := ()) hP hD hS dX7_isEnd_21 (bI_t (by omega))

set_option maxHeartbeats 4000000 in
set_option maxRecDepth 100000 in
theorem c_X1_isFull (l : Launch) (G : gT) (h0 : Nat) (h1 : Nat) (h2 : Nat) (h3 : Nat) (f : Nat → Int32) (lo : Nat → Int32) (hi : Nat → Int32) (n : Nat) (hn : n ≤ 5) : Met l yX1_isFull wsX1_isFull ({ frames := 0, cells := 0, slots := 0, locals := 0 }) (cPre G [.ref h0] [(h0, .inr (1, [.ref h1, .ref h2, .ref h3, .int (nI n)])), (h1, .inl (G.2 0, 5, .inl f)), (h2, .inl (G.2 0, 5, .inl lo)), (h3, .inl (G.2 0, 5, .inl hi))]) (va_Qi (fun (rv : Int32) (_u : Unit) => rv = bI (decide (5 ≤ n))) (cW G [(h0, .inr (1, [.ref h1, .ref h2, .ref h3, .int (nI n)])), (h1, .inl (G.2 0, 5, .inl f)), (h2, .inl (G.2 0, 5, .inl lo)), (h3, .inl (G.2 0, 5, .inl hi))] (fun (_u : Unit) => [(h0, .inr (1, [.ref h1, .ref h2, .ref h3, .int (nI n)])), (h1, .inl (G.2 0, 5, .inl f)), (h2, .inl (G.2 0, 5, .inl lo)), (h3, .inl (G.2 0, 5, .inl hi))])) (pB [(h0, .inr (1, [.ref h1, .ref h2, .ref h3, .int (nI n)])), (h1, .inl (G.2 0, 5, .inl f)), (h2, .inl (G.2 0, 5, .inl lo)), (h3, .inl (G.2 0, 5, .inl hi))])) 0 0 (pB [(h0, .inr (1, [.ref h1, .ref h2, .ref h3, .int (nI n)])), (h1, .inl (G.2 0, 5, .inl f)), (h2, .inl (G.2 0, 5, .inl lo)), (h3, .inl (G.2 0, 5, .inl hi))]) := by
  refine ofCX (G := G) (cc := cX1_isFull) (maxL := 1) (ret := (some .boolean)) (by decide) rfl (Nat.le_of_ble_eq_true rfl) ?_
  intro p e s m below meth c ls C hr hin hD hP hl
  obtain ⟨hx, hb, hml, hown, hts, hlocks, hK⟩ := id C
  have hown : s.vm.findClass RX1 = some m.cls := hown
  have hfl_21 := hts (.fieldLink RX1 21 "AfterDesk$Clock" "size" "I") (by decide +kernel)
  have hin_X1 : ∀ w ∈ wsX10, w ∈ wsX1_isFull := by decide +kernel
  generalize hAe : pB [(h0, .inr (1, [.ref h1, .ref h2, .ref h3, .int (nI n)])), (h1, .inl (G.2 0, 5, .inl f)), (h2, .inl (G.2 0, 5, .inl lo)), (h3, .inl (G.2 0, 5, .inl hi))] = A at hD ⊢
  have hS : va_S A s.heap s.heap [] := va_S.rf
  have hP : va_P G.1 vwCl [(h0, .inr (1, [.ref h1, .ref h2, .ref h3, .int (nI n)])), (h1, .inl (G.2 0, 5, .inl f)), (h2, .inl (G.2 0, 5, .inl lo)), (h3, .inl (G.2 0, 5, .inl hi))] s.heap := hP
  have hD : va_D A [(h0, .inr (1, [.ref h1, .ref h2, .ref h3, .int (nI n)])), (h1, .inl (G.2 0, 5, .inl f)), (h2, .inl (G.2 0, 5, .inl lo)), (h3, .inl (G.2 0, 5, .inl hi))] := hD
  have hl : lv_has ls 1 [(0, .ref h0)] := hl
  refine lv_aload_n hx hb dX1_isFull_0 rfl (lv_at hl 0 rfl) ?_
  refine va_get (D := G.1) (ci := 1) (v := .int (nI n)) (C := RX1) (T := TX1) (N := 4) hx hb hts hin_X1 hown hK.1 hP 0 rfl rfl 3 (by decide) hfl_21 (fun _ h9 => h9) rfl dX1_isFull_1 ?_
  refine lv_iconst (v := 5) hx hb dX1_isFull_4 (by decide) ?_
  refine lv_icmp_lt (tgt := 12) hx hb dX1_isFull_5 (by decide) (fun c_1 => ?_) (fun c_1 => ?_)
  · -- yes: nI n lt 5
    have c_1 : n < 5 := (nI_ltI (a := n) (b := 5) (by omega) (by omega)).mp c_1
    refine lv_iconst (v := 0) hx hb dX1_isFull_12 (by decide) ?_
    exact rtZ C hr rfl hAe (u := ()) hP hD hS dX1_isFull_13 (bI_f (by omega))
  · -- no: nI n ge 5
    have c_1 : ¬ n < 5 := fun z => c_1 ((nI_ltI (a := n) (b := 5) (by omega) (by omega)).mpr z)
    refine lv_iconst (v := 1) hx hb dX1_isFull_8 (by decide) ?_
    refine lv_goto (tgt := 13) hx hb dX1_isFull_9 (by decide) ?_
    exact rtZ C hr rfl hAe (u := ()) hP hD hS dX1_isFull_13 (bI_t (by omega))

set_option maxHeartbeats 4000000 in
set_option maxRecDepth 100000 in
theorem c_X1_isBehindAll (l : Launch) (G : gT) (h0 : Nat) (h1 : Nat) (h2 : Nat) (h3 : Nat) (f : Nat → Int32) (lo : Nat → Int32) (hi : Nat → Int32) (n : Nat) (x : Int32) (hn : n ≤ 5) : Met l yX1_isBehindAll wsX1_isBehindAll ({ frames := 0, cells := 0, slots := 0, locals := 0 }) (cPre G [.ref h0, .int x] [(h0, .inr (1, [.ref h1, .ref h2, .ref h3, .int (nI n)])), (h1, .inl (G.2 0, 5, .inl f)), (h2, .inl (G.2 0, 5, .inl lo)), (h3, .inl (G.2 0, 5, .inl hi))]) (va_Qi (fun (rv : Int32) (_u : Unit) => rv = bI (decide (n = 0 ∨ (f (n - 1)).toInt < x.toInt))) (cW G [(h0, .inr (1, [.ref h1, .ref h2, .ref h3, .int (nI n)])), (h1, .inl (G.2 0, 5, .inl f)), (h2, .inl (G.2 0, 5, .inl lo)), (h3, .inl (G.2 0, 5, .inl hi))] (fun (_u : Unit) => [(h0, .inr (1, [.ref h1, .ref h2, .ref h3, .int (nI n)])), (h1, .inl (G.2 0, 5, .inl f)), (h2, .inl (G.2 0, 5, .inl lo)), (h3, .inl (G.2 0, 5, .inl hi))])) (pB [(h0, .inr (1, [.ref h1, .ref h2, .ref h3, .int (nI n)])), (h1, .inl (G.2 0, 5, .inl f)), (h2, .inl (G.2 0, 5, .inl lo)), (h3, .inl (G.2 0, 5, .inl hi))])) 0 0 (pB [(h0, .inr (1, [.ref h1, .ref h2, .ref h3, .int (nI n)])), (h1, .inl (G.2 0, 5, .inl f)), (h2, .inl (G.2 0, 5, .inl lo)), (h3, .inl (G.2 0, 5, .inl hi))]) := by
  refine ofCX (G := G) (cc := cX1_isBehindAll) (maxL := 2) (ret := (some .boolean)) (by decide) rfl (Nat.le_of_ble_eq_true rfl) ?_
  intro p e s m below meth c ls C hr hin hD hP hl
  obtain ⟨hx, hb, hml, hown, hts, hlocks, hK⟩ := id C
  have hown : s.vm.findClass RX1 = some m.cls := hown
  have hfl_21 := hts (.fieldLink RX1 21 "AfterDesk$Clock" "size" "I") (by decide +kernel)
  have hin_X1 : ∀ w ∈ wsX10, w ∈ wsX1_isBehindAll := by decide +kernel
  have hfl_9 := hts (.fieldLink RX1 9 "AfterDesk$Clock" "froms" "[I") (by decide +kernel)
  generalize hAe : pB [(h0, .inr (1, [.ref h1, .ref h2, .ref h3, .int (nI n)])), (h1, .inl (G.2 0, 5, .inl f)), (h2, .inl (G.2 0, 5, .inl lo)), (h3, .inl (G.2 0, 5, .inl hi))] = A at hD ⊢
  have hS : va_S A s.heap s.heap [] := va_S.rf
  have hP : va_P G.1 vwCl [(h0, .inr (1, [.ref h1, .ref h2, .ref h3, .int (nI n)])), (h1, .inl (G.2 0, 5, .inl f)), (h2, .inl (G.2 0, 5, .inl lo)), (h3, .inl (G.2 0, 5, .inl hi))] s.heap := hP
  have hD : va_D A [(h0, .inr (1, [.ref h1, .ref h2, .ref h3, .int (nI n)])), (h1, .inl (G.2 0, 5, .inl f)), (h2, .inl (G.2 0, 5, .inl lo)), (h3, .inl (G.2 0, 5, .inl hi))] := hD
  have hl : lv_has ls 2 [(0, .ref h0), (1, .int x)] := hl
  refine lv_aload_n hx hb dX1_isBehindAll_0 rfl (lv_at hl 0 rfl) ?_
  refine va_get (D := G.1) (ci := 1) (v := .int (nI n)) (C := RX1) (T := TX1) (N := 4) hx hb hts hin_X1 hown hK.1 hP 0 rfl rfl 3 (by decide) hfl_21 (fun _ h9 => h9) rfl dX1_isBehindAll_1 ?_
  refine lv_if_eq (tgt := 22) hx hb dX1_isBehindAll_4 (by decide) (fun c_1 => ?_) (fun c_1 => ?_)
  · -- yes: nI n eq 0
    have c_1 : n = 0 := (nI_eq (a := n) (b := 0) (by omega) (by omega)).mp c_1
    refine lv_iconst (v := 1) hx hb dX1_isBehindAll_22 (by decide) ?_
    refine lv_goto (tgt := 27) hx hb dX1_isBehindAll_23 (by decide) ?_
    exact rtZ C hr rfl hAe (u := ()) hP hD hS dX1_isBehindAll_27 (bI_t (by omega))
  · -- no: nI n ne 0
    have c_1 : ¬ n = 0 := fun z => c_1 ((nI_eq (a := n) (b := 0) (by omega) (by omega)).mpr z)
    refine lv_iload_n hx hb dX1_isBehindAll_7 rfl (lv_at hl 1 rfl) ?_
    refine lv_aload_n hx hb dX1_isBehindAll_8 rfl (lv_at hl 0 rfl) ?_
    refine va_get (D := G.1) (ci := 1) (v := .ref h1) (C := RX1) (T := TX1) (N := 4) hx hb hts hin_X1 hown hK.1 hP 0 rfl rfl 0 (by decide) hfl_9 (fun _ h9 => h9) rfl dX1_isBehindAll_9 ?_
    refine lv_aload_n hx hb dX1_isBehindAll_12 rfl (lv_at hl 0 rfl) ?_
    refine va_get (D := G.1) (ci := 1) (v := .int (nI n)) (C := RX1) (T := TX1) (N := 4) hx hb hts hin_X1 hown hK.1 hP 0 rfl rfl 3 (by decide) hfl_21 (fun _ h9 => h9) rfl dX1_isBehindAll_13 ?_
    refine lv_iconst (v := 1) hx hb dX1_isBehindAll_16 (by decide) ?_
    refine lv_isub hx hb dX1_isBehindAll_17 ?_
    refine aIld hx hb hK.1 hP 1 0 rfl rfl (k := n - 1) (pk_sub (a := n) (b := 1) (by omega)) (by omega) (by decide) dX1_isBehindAll_18 ?_
    refine lv_icmp_le (tgt := 26) hx hb dX1_isBehindAll_19 (by decide) (fun c_2 => ?_) (fun c_2 => ?_)
    · -- yes: x le f (n - 1)
      have c_2 : x.toInt ≤ (f (n - 1)).toInt := Int32.le_iff_toInt_le.mp c_2
      refine lv_iconst (v := 0) hx hb dX1_isBehindAll_26 (by decide) ?_
      exact rtZ C hr rfl hAe (u := ()) hP hD hS dX1_isBehindAll_27 (bI_f (by omega))
    · -- no: x gt f (n - 1)
      have c_2 : ¬ x.toInt ≤ (f (n - 1)).toInt := fun z => c_2 (Int32.le_iff_toInt_le.mpr z)
      refine lv_iconst (v := 1) hx hb dX1_isBehindAll_22 (by decide) ?_
      refine lv_goto (tgt := 27) hx hb dX1_isBehindAll_23 (by decide) ?_
      exact rtZ C hr rfl hAe (u := ()) hP hD hS dX1_isBehindAll_27 (bI_t (by omega))

set_option maxHeartbeats 4000000 in
set_option maxRecDepth 100000 in
theorem c_X1_append (l : Launch) (G : gT) (h0 : Nat) (h1 : Nat) (h2 : Nat) (h3 : Nat) (f : Nat → Int32) (lo : Nat → Int32) (hi : Nat → Int32) (n : Nat) (a : Int32) (b : Int32) (d : Int32) (hn : n < 5) : Met l yX1_append wsX1_append ({ frames := 1, cells := 0, slots := 0, locals := 20 }) (cPre G [.ref h0, .int a, .int b, .int d] [(h0, .inr (1, [.ref h1, .ref h2, .ref h3, .int (nI n)])), (h1, .inl (G.2 0, 5, .inl f)), (h2, .inl (G.2 0, 5, .inl lo)), (h3, .inl (G.2 0, 5, .inl hi))]) (va_Qi (fun (rv : Int32) (u : (Nat → Int32) × (Nat → Int32) × (Nat → Int32)) => rv = nI (n + 1) ∧ u.1 = upd f n a ∧ u.2.1 = upd lo n b ∧ u.2.2 = upd hi n d) (cW G [(h0, .inr (1, [.ref h1, .ref h2, .ref h3, .int (nI n)])), (h1, .inl (G.2 0, 5, .inl f)), (h2, .inl (G.2 0, 5, .inl lo)), (h3, .inl (G.2 0, 5, .inl hi))] (fun (u : (Nat → Int32) × (Nat → Int32) × (Nat → Int32)) => [(h0, .inr (1, [.ref h1, .ref h2, .ref h3, .int (nI (n + 1))])), (h1, .inl (G.2 0, 5, .inl u.1)), (h2, .inl (G.2 0, 5, .inl u.2.1)), (h3, .inl (G.2 0, 5, .inl u.2.2))])) (pB [(h0, .inr (1, [.ref h1, .ref h2, .ref h3, .int (nI n)])), (h1, .inl (G.2 0, 5, .inl f)), (h2, .inl (G.2 0, 5, .inl lo)), (h3, .inl (G.2 0, 5, .inl hi))])) 0 0 (pB [(h0, .inr (1, [.ref h1, .ref h2, .ref h3, .int (nI n)])), (h1, .inl (G.2 0, 5, .inl f)), (h2, .inl (G.2 0, 5, .inl lo)), (h3, .inl (G.2 0, 5, .inl hi))]) := by
  refine ofCX (G := G) (cc := cX1_append) (maxL := 4) (ret := (some .int)) (by decide) rfl (Nat.le_of_ble_eq_true rfl) ?_
  intro p e s m below meth c ls C hr hin hD hP hl
  obtain ⟨hx, hb, hml, hown, hts, hlocks, hK⟩ := id C
  have hown : s.vm.findClass RX1 = some m.cls := hown
  have hfl_9 := hts (.fieldLink RX1 9 "AfterDesk$Clock" "froms" "[I") (by decide +kernel)
  have hin_X1 : ∀ w ∈ wsX10, w ∈ wsX1_append := by decide +kernel
  have hfl_21 := hts (.fieldLink RX1 21 "AfterDesk$Clock" "size" "I") (by decide +kernel)
  have hfl_15 := hts (.fieldLink RX1 15 "AfterDesk$Clock" "lows" "[I") (by decide +kernel)
  have hfl_18 := hts (.fieldLink RX1 18 "AfterDesk$Clock" "highs" "[I") (by decide +kernel)
  generalize hAe : pB [(h0, .inr (1, [.ref h1, .ref h2, .ref h3, .int (nI n)])), (h1, .inl (G.2 0, 5, .inl f)), (h2, .inl (G.2 0, 5, .inl lo)), (h3, .inl (G.2 0, 5, .inl hi))] = A at hD ⊢
  have hS : va_S A s.heap s.heap [] := va_S.rf
  have hP : va_P G.1 vwCl [(h0, .inr (1, [.ref h1, .ref h2, .ref h3, .int (nI n)])), (h1, .inl (G.2 0, 5, .inl f)), (h2, .inl (G.2 0, 5, .inl lo)), (h3, .inl (G.2 0, 5, .inl hi))] s.heap := hP
  have hD : va_D A [(h0, .inr (1, [.ref h1, .ref h2, .ref h3, .int (nI n)])), (h1, .inl (G.2 0, 5, .inl f)), (h2, .inl (G.2 0, 5, .inl lo)), (h3, .inl (G.2 0, 5, .inl hi))] := hD
  have hl : lv_has ls 4 [(0, .ref h0), (1, .int a), (2, .int b), (3, .int d)] := hl
  refine lv_aload_n hx hb dX1_append_0 rfl (lv_at hl 0 rfl) ?_
  refine xI (S := Unit) (va_runV (As := []) (rest := []) ⟨hx, hb, hml, hown, hts⟩ (c_X1_isFull l G h0 h1 h2 h3 f lo hi n (by first | omega | assumption)) (cwV 0 hts gX1_append_X1_isFull rfl rfl rfl (by decide +kernel) ⟨Nat.le_of_ble_eq_true rfl, Nat.le_of_ble_eq_true rfl⟩) (pV [] hK (hP.sub (ws' := [(h0, .inr (1, [.ref h1, .ref h2, .ref h3, .int (nI n)])), (h1, .inl (G.2 0, 5, .inl f)), (h2, .inl (G.2 0, 5, .inl lo)), (h3, .inl (G.2 0, 5, .inl hi))]) [0, 1, 2, 3] rfl) (hD.sub (ws' := [(h0, .inr (1, [.ref h1, .ref h2, .ref h3, .int (nI n)])), (h1, .inl (G.2 0, 5, .inl f)), (h2, .inl (G.2 0, 5, .inl lo)), (h3, .inl (G.2 0, 5, .inl hi))]) [0, 1, 2, 3] (by decide) rfl) (ci := 1) (q0 := 0) rfl rfl) rfl rfl hl.1 rfl (lv_room (Nat.le_of_ble_eq_true rfl)) dX1_append_1 ⟨Nat.zero_le _, Nat.zero_le _⟩) hP hD hS [0, 1, 2, 3] [] (wr := []) rfl rfl (by decide) (by decide) [0, 1, 2, 3] (w2 := fun (_ : Unit) => [(h0, .inr (1, [.ref h1, .ref h2, .ref h3, .int (nI n)])), (h1, .inl (G.2 0, 5, .inl f)), (h2, .inl (G.2 0, 5, .inl lo)), (h3, .inl (G.2 0, 5, .inl hi))]) (fun _ => rfl) (by decide) (fun r_1 u_2 H locs hw_3 hP hD hS => ?_)
  (try dsimp only at hw_3); subst hw_3
  have hP : va_P G.1 vwCl [(h0, .inr (1, [.ref h1, .ref h2, .ref h3, .int (nI n)])), (h1, .inl (G.2 0, 5, .inl f)), (h2, .inl (G.2 0, 5, .inl lo)), (h3, .inl (G.2 0, 5, .inl hi))] H := hP
  have hD : va_D A [(h0, .inr (1, [.ref h1, .ref h2, .ref h3, .int (nI n)])), (h1, .inl (G.2 0, 5, .inl f)), (h2, .inl (G.2 0, 5, .inl lo)), (h3, .inl (G.2 0, 5, .inl hi))] := hD
  refine lv_if_ne (tgt := 47) hx hb dX1_append_4 (by decide) (fun c_4 => ?_) (fun c_4 => ?_)
  · -- yes: bI (decide (5 ≤ n)) ne 0
    have c_4 : 5 ≤ n := bD1 c_4
    exfalso; omega
  · -- no: bI (decide (5 ≤ n)) eq 0
    have c_4 : ¬ (5 ≤ n) := bD0 c_4
    refine lv_aload_n hx hb dX1_append_7 rfl (lv_at hl 0 rfl) ?_
    refine va_get (D := G.1) (ci := 1) (v := .ref h1) (C := RX1) (T := TX1) (N := 4) hx hb hts hin_X1 hown hK.1 hP 0 rfl rfl 0 (by decide) hfl_9 (fun _ h9 => h9) rfl dX1_append_8 ?_
    refine lv_aload_n hx hb dX1_append_11 rfl (lv_at hl 0 rfl) ?_
    refine va_get (D := G.1) (ci := 1) (v := .int (nI n)) (C := RX1) (T := TX1) (N := 4) hx hb hts hin_X1 hown hK.1 hP 0 rfl rfl 3 (by decide) hfl_21 (fun _ h9 => h9) rfl dX1_append_12 ?_
    refine lv_iload_n hx hb dX1_append_15 rfl (lv_at hl 1 rfl) ?_
    refine aIst hx hb hK.1 hP hD hS 1 0 rfl rfl (k := n) rfl (by omega) (by decide) dX1_append_16 (fun H locs hP hD hS => ?_)
    have hP : va_P G.1 vwCl [(h0, .inr (1, [.ref h1, .ref h2, .ref h3, .int (nI n)])), (h1, .inl (G.2 0, 5, .inl (upd f n a))), (h2, .inl (G.2 0, 5, .inl lo)), (h3, .inl (G.2 0, 5, .inl hi))] H := hP
    have hD : va_D A [(h0, .inr (1, [.ref h1, .ref h2, .ref h3, .int (nI n)])), (h1, .inl (G.2 0, 5, .inl (upd f n a))), (h2, .inl (G.2 0, 5, .inl lo)), (h3, .inl (G.2 0, 5, .inl hi))] := hD
    refine lv_aload_n hx hb dX1_append_17 rfl (lv_at hl 0 rfl) ?_
    refine va_get (D := G.1) (ci := 1) (v := .ref h2) (C := RX1) (T := TX1) (N := 4) hx hb hts hin_X1 hown hK.1 hP 0 rfl rfl 1 (by decide) hfl_15 (fun _ h9 => h9) rfl dX1_append_18 ?_
    refine lv_aload_n hx hb dX1_append_21 rfl (lv_at hl 0 rfl) ?_
    refine va_get (D := G.1) (ci := 1) (v := .int (nI n)) (C := RX1) (T := TX1) (N := 4) hx hb hts hin_X1 hown hK.1 hP 0 rfl rfl 3 (by decide) hfl_21 (fun _ h9 => h9) rfl dX1_append_22 ?_
    refine lv_iload_n hx hb dX1_append_25 rfl (lv_at hl 2 rfl) ?_
    refine aIst hx hb hK.1 hP hD hS 2 0 rfl rfl (k := n) rfl (by omega) (by decide) dX1_append_26 (fun H locs hP hD hS => ?_)
    have hP : va_P G.1 vwCl [(h0, .inr (1, [.ref h1, .ref h2, .ref h3, .int (nI n)])), (h1, .inl (G.2 0, 5, .inl (upd f n a))), (h2, .inl (G.2 0, 5, .inl (upd lo n b))), (h3, .inl (G.2 0, 5, .inl hi))] H := hP
    have hD : va_D A [(h0, .inr (1, [.ref h1, .ref h2, .ref h3, .int (nI n)])), (h1, .inl (G.2 0, 5, .inl (upd f n a))), (h2, .inl (G.2 0, 5, .inl (upd lo n b))), (h3, .inl (G.2 0, 5, .inl hi))] := hD
    refine lv_aload_n hx hb dX1_append_27 rfl (lv_at hl 0 rfl) ?_
    refine va_get (D := G.1) (ci := 1) (v := .ref h3) (C := RX1) (T := TX1) (N := 4) hx hb hts hin_X1 hown hK.1 hP 0 rfl rfl 2 (by decide) hfl_18 (fun _ h9 => h9) rfl dX1_append_28 ?_
    refine lv_aload_n hx hb dX1_append_31 rfl (lv_at hl 0 rfl) ?_
    refine va_get (D := G.1) (ci := 1) (v := .int (nI n)) (C := RX1) (T := TX1) (N := 4) hx hb hts hin_X1 hown hK.1 hP 0 rfl rfl 3 (by decide) hfl_21 (fun _ h9 => h9) rfl dX1_append_32 ?_
    refine lv_iload_n hx hb dX1_append_35 rfl (lv_at hl 3 rfl) ?_
    refine aIst hx hb hK.1 hP hD hS 3 0 rfl rfl (k := n) rfl (by omega) (by decide) dX1_append_36 (fun H locs hP hD hS => ?_)
    have hP : va_P G.1 vwCl [(h0, .inr (1, [.ref h1, .ref h2, .ref h3, .int (nI n)])), (h1, .inl (G.2 0, 5, .inl (upd f n a))), (h2, .inl (G.2 0, 5, .inl (upd lo n b))), (h3, .inl (G.2 0, 5, .inl (upd hi n d)))] H := hP
    have hD : va_D A [(h0, .inr (1, [.ref h1, .ref h2, .ref h3, .int (nI n)])), (h1, .inl (G.2 0, 5, .inl (upd f n a))), (h2, .inl (G.2 0, 5, .inl (upd lo n b))), (h3, .inl (G.2 0, 5, .inl (upd hi n d)))] := hD
    refine lv_aload_n hx hb dX1_append_37 rfl (lv_at hl 0 rfl) ?_
    refine lv_dup hx hb dX1_append_38 rfl ?_
    refine va_get (D := G.1) (ci := 1) (v := .int (nI n)) (C := RX1) (T := TX1) (N := 4) hx hb hts hin_X1 hown hK.1 hP 0 rfl rfl 3 (by decide) hfl_21 (fun _ h9 => h9) rfl dX1_append_39 ?_
    refine lv_iconst (v := 1) hx hb dX1_append_42 (by decide) ?_
    refine lv_iadd hx hb dX1_append_43 ?_
    refine nmI (nI_add n 1) ?_
    refine va_put (D := G.1) (ci := 1) (v := .int (nI (n + 1))) (ty := .int) (C := RX1) (T := TX1) (N := 4) hx hb hts hin_X1 tyX1 tyX1_ok nmX1 hown hK.1 hP hD hS 0 rfl rfl 3 (by decide) hfl_21 (fun _ h9 => h9) rfl (by decide +kernel) rfl rfl (Nat.le_of_ble_eq_true rfl) dX1_append_44 (fun H locs hP hD hS => ?_)
    have hP : va_P G.1 vwCl [(h0, .inr (1, [.ref h1, .ref h2, .ref h3, .int (nI (n + 1))])), (h1, .inl (G.2 0, 5, .inl (upd f n a))), (h2, .inl (G.2 0, 5, .inl (upd lo n b))), (h3, .inl (G.2 0, 5, .inl (upd hi n d)))] H := hP
    have hD : va_D A [(h0, .inr (1, [.ref h1, .ref h2, .ref h3, .int (nI (n + 1))])), (h1, .inl (G.2 0, 5, .inl (upd f n a))), (h2, .inl (G.2 0, 5, .inl (upd lo n b))), (h3, .inl (G.2 0, 5, .inl (upd hi n d)))] := hD
    refine lv_aload_n hx hb dX1_append_47 rfl (lv_at hl 0 rfl) ?_
    refine va_get (D := G.1) (ci := 1) (v := .int (nI (n + 1))) (C := RX1) (T := TX1) (N := 4) hx hb hts hin_X1 hown hK.1 hP 0 rfl rfl 3 (by decide) hfl_21 (fun _ h9 => h9) rfl dX1_append_48 ?_
    exact rtI C hr hAe (u := ((upd f n a), (upd lo n b), (upd hi n d))) hP hD hS dX1_append_51 (by exact ⟨rfl, rfl, rfl, rfl⟩)

set_option maxHeartbeats 4000000 in
set_option maxRecDepth 100000 in
theorem c_X1_removeAll (l : Launch) (G : gT) (h0 : Nat) (h1 : Nat) (h2 : Nat) (h3 : Nat) (f : Nat → Int32) (lo : Nat → Int32) (hi : Nat → Int32) (n : Nat) (hn : n ≤ 5) : Met l yX1_removeAll wsX1_removeAll ({ frames := 0, cells := 0, slots := 0, locals := 0 }) (cPre G [.ref h0] [(h0, .inr (1, [.ref h1, .ref h2, .ref h3, .int (nI n)])), (h1, .inl (G.2 0, 5, .inl f)), (h2, .inl (G.2 0, 5, .inl lo)), (h3, .inl (G.2 0, 5, .inl hi))]) (va_Qi (fun (rv : Int32) (_u : Unit) => rv = nI n) (cW G [(h0, .inr (1, [.ref h1, .ref h2, .ref h3, .int (nI n)])), (h1, .inl (G.2 0, 5, .inl f)), (h2, .inl (G.2 0, 5, .inl lo)), (h3, .inl (G.2 0, 5, .inl hi))] (fun (_u : Unit) => [(h0, .inr (1, [.ref h1, .ref h2, .ref h3, .int 0])), (h1, .inl (G.2 0, 5, .inl f)), (h2, .inl (G.2 0, 5, .inl lo)), (h3, .inl (G.2 0, 5, .inl hi))])) (pB [(h0, .inr (1, [.ref h1, .ref h2, .ref h3, .int (nI n)])), (h1, .inl (G.2 0, 5, .inl f)), (h2, .inl (G.2 0, 5, .inl lo)), (h3, .inl (G.2 0, 5, .inl hi))])) 0 0 (pB [(h0, .inr (1, [.ref h1, .ref h2, .ref h3, .int (nI n)])), (h1, .inl (G.2 0, 5, .inl f)), (h2, .inl (G.2 0, 5, .inl lo)), (h3, .inl (G.2 0, 5, .inl hi))]) := by
  refine ofCX (G := G) (cc := cX1_removeAll) (maxL := 2) (ret := (some .int)) (by decide) rfl (Nat.le_of_ble_eq_true rfl) ?_
  intro p e s m below meth c ls C hr hin hD hP hl
  obtain ⟨hx, hb, hml, hown, hts, hlocks, hK⟩ := id C
  have hown : s.vm.findClass RX1 = some m.cls := hown
  have hfl_21 := hts (.fieldLink RX1 21 "AfterDesk$Clock" "size" "I") (by decide +kernel)
  have hin_X1 : ∀ w ∈ wsX10, w ∈ wsX1_removeAll := by decide +kernel
  generalize hAe : pB [(h0, .inr (1, [.ref h1, .ref h2, .ref h3, .int (nI n)])), (h1, .inl (G.2 0, 5, .inl f)), (h2, .inl (G.2 0, 5, .inl lo)), (h3, .inl (G.2 0, 5, .inl hi))] = A at hD ⊢
  have hS : va_S A s.heap s.heap [] := va_S.rf
  have hP : va_P G.1 vwCl [(h0, .inr (1, [.ref h1, .ref h2, .ref h3, .int (nI n)])), (h1, .inl (G.2 0, 5, .inl f)), (h2, .inl (G.2 0, 5, .inl lo)), (h3, .inl (G.2 0, 5, .inl hi))] s.heap := hP
  have hD : va_D A [(h0, .inr (1, [.ref h1, .ref h2, .ref h3, .int (nI n)])), (h1, .inl (G.2 0, 5, .inl f)), (h2, .inl (G.2 0, 5, .inl lo)), (h3, .inl (G.2 0, 5, .inl hi))] := hD
  have hl : lv_has ls 2 [(0, .ref h0)] := hl
  refine lv_aload_n hx hb dX1_removeAll_0 rfl (lv_at hl 0 rfl) ?_
  refine va_get (D := G.1) (ci := 1) (v := .int (nI n)) (C := RX1) (T := TX1) (N := 4) hx hb hts hin_X1 hown hK.1 hP 0 rfl rfl 3 (by decide) hfl_21 (fun _ h9 => h9) rfl dX1_removeAll_1 ?_
  refine lv_istore_n (lv' := [(1, .int (nI n)), (0, .ref h0)]) hx hb dX1_removeAll_4 rfl hl (by decide) rfl (fun ls hl => ?_)
  refine lv_aload_n hx hb dX1_removeAll_5 rfl (lv_at hl 1 rfl) ?_
  refine lv_iconst (v := 0) hx hb dX1_removeAll_6 (by decide) ?_
  refine va_put (D := G.1) (ci := 1) (v := .int 0) (ty := .int) (C := RX1) (T := TX1) (N := 4) hx hb hts hin_X1 tyX1 tyX1_ok nmX1 hown hK.1 hP hD hS 0 rfl rfl 3 (by decide) hfl_21 (fun _ h9 => h9) rfl (by decide +kernel) rfl rfl (Nat.le_of_ble_eq_true rfl) dX1_removeAll_7 (fun H locs hP hD hS => ?_)
  have hP : va_P G.1 vwCl [(h0, .inr (1, [.ref h1, .ref h2, .ref h3, .int 0])), (h1, .inl (G.2 0, 5, .inl f)), (h2, .inl (G.2 0, 5, .inl lo)), (h3, .inl (G.2 0, 5, .inl hi))] H := hP
  have hD : va_D A [(h0, .inr (1, [.ref h1, .ref h2, .ref h3, .int 0])), (h1, .inl (G.2 0, 5, .inl f)), (h2, .inl (G.2 0, 5, .inl lo)), (h3, .inl (G.2 0, 5, .inl hi))] := hD
  refine lv_iload_n hx hb dX1_removeAll_10 rfl (lv_at hl 0 rfl) ?_
  exact rtI C hr hAe (u := ()) hP hD hS dX1_removeAll_11 rfl

set_option maxHeartbeats 4000000 in
set_option maxRecDepth 100000 in
theorem lp_X1_placeOf_4 {p : Program} {l : Launch} {e : Env} {R : Room} {s : State} {m : MethodId} {args : Array Value} {below : List Frame} {meth : Method} {c : Code} {A : Nat → Prop} {H0 : Heap} {Q : State → Prop} {G : gT} (C : CX p s m meth c args cX1_placeOf 4 RX1 wsX1_placeOf G) (h0 : Nat) (h1 : Nat) (h2 : Nat) (h3 : Nat) (f : Nat → Int32) (lo : Nat → Int32) (hi : Nat → Int32) (n : Nat) (r : Int32) (hn : n ≤ 5) (hk : ∀ (H : Heap) (locs : List Loc) (ls : Array Slot), va_P G.1 vwCl [(h0, .inr (1, [.ref h1, .ref h2, .ref h3, .int (nI n)])), (h1, .inl (G.2 0, 5, .inl f)), (h2, .inl (G.2 0, 5, .inl lo)), (h3, .inl (G.2 0, 5, .inl hi))] H → va_D A [(h0, .inr (1, [.ref h1, .ref h2, .ref h3, .int (nI n)])), (h1, .inl (G.2 0, 5, .inl f)), (h2, .inl (G.2 0, 5, .inl lo)), (h3, .inl (G.2 0, 5, .inl hi))] → va_S A H0 H locs → lv_has ls 4 [(0, .ref h0), (1, .int r), (2, .int (oI (plOf f r n))), (3, .int (nI n))] → W p l e R s m args below meth c H locs 0 0 Q (F0 m 30 ls [])) : ∀ (fu k : Nat) (pl : Int32), k ≤ n → n - k < fu → pl = oI (plOf f r k) → ∀ (H : Heap) (locs : List Loc) (ls : Array Slot), va_P G.1 vwCl [(h0, .inr (1, [.ref h1, .ref h2, .ref h3, .int (nI n)])), (h1, .inl (G.2 0, 5, .inl f)), (h2, .inl (G.2 0, 5, .inl lo)), (h3, .inl (G.2 0, 5, .inl hi))] H → va_D A [(h0, .inr (1, [.ref h1, .ref h2, .ref h3, .int (nI n)])), (h1, .inl (G.2 0, 5, .inl f)), (h2, .inl (G.2 0, 5, .inl lo)), (h3, .inl (G.2 0, 5, .inl hi))] → va_S A H0 H locs → lv_has ls 4 [(0, .ref h0), (1, .int r), (2, .int pl), (3, .int (nI k))] → W p l e R s m args below meth c H locs 0 0 Q (F0 m 4 ls []) := by
  obtain ⟨hx, hb, hml, hown, hts, hlocks, hK⟩ := id C
  have hfl_21 := hts (.fieldLink RX1 21 "AfterDesk$Clock" "size" "I") (by decide +kernel)
  have hin_X1 : ∀ w ∈ wsX10, w ∈ wsX1_placeOf := by decide +kernel
  have hfl_9 := hts (.fieldLink RX1 9 "AfterDesk$Clock" "froms" "[I") (by decide +kernel)
  intro fu
  induction fu with
  | zero =>
    intro k pl h1 h2
    exact absurd h2 (by omega)
  | succ fu ih =>
    intro k pl hkle hkn e_pl  H locs ls hP hD hS hl
    subst e_pl
    refine lv_iload_n hx hb dX1_placeOf_4 rfl (lv_at hl 3 rfl) ?_
    refine lv_aload_n hx hb dX1_placeOf_5 rfl (lv_at hl 0 rfl) ?_
    refine va_get (D := G.1) (ci := 1) (v := .int (nI n)) (C := RX1) (T := TX1) (N := 4) hx hb hts hin_X1 hown hK.1 hP 0 rfl rfl 3 (by decide) hfl_21 (fun _ h9 => h9) rfl dX1_placeOf_6 ?_
    refine lv_icmp_ge (tgt := 30) hx hb dX1_placeOf_9 (by decide) (fun c_1 => ?_) (fun c_1 => ?_)
    · -- yes: nI k ge nI n
      have c_1 : n ≤ k := (nI_leI (a := n) (b := k) (by omega) (by omega)).mp c_1
      have hkN : k = n := by omega
      subst hkN
      exact hk  _ _ _ hP hD hS (lv_sub hl [0, 1, 2, 3] rfl)
    · -- no: nI k lt nI n
      have c_1 : ¬ n ≤ k := fun z => c_1 ((nI_leI (a := n) (b := k) (by omega) (by omega)).mpr z)
      refine lv_aload_n hx hb dX1_placeOf_12 rfl (lv_at hl 0 rfl) ?_
      refine va_get (D := G.1) (ci := 1) (v := .ref h1) (C := RX1) (T := TX1) (N := 4) hx hb hts hin_X1 hown hK.1 hP 0 rfl rfl 0 (by decide) hfl_9 (fun _ h9 => h9) rfl dX1_placeOf_13 ?_
      refine lv_iload_n hx hb dX1_placeOf_16 rfl (lv_at hl 3 rfl) ?_
      refine aIld hx hb hK.1 hP 1 0 rfl rfl (k := k) rfl (by omega) (by decide) dX1_placeOf_17 ?_
      refine lv_iload_n hx hb dX1_placeOf_18 rfl (lv_at hl 1 rfl) ?_
      refine lv_icmp_gt (tgt := 24) hx hb dX1_placeOf_19 (by decide) (fun c_2 => ?_) (fun c_2 => ?_)
      · -- yes: f k gt r
        have c_2 : r.toInt < (f k).toInt := Int32.lt_iff_toInt_lt.mp c_2
        refine lv_iinc (v := nI (k + 1)) (lv' := [(3, .int (nI (k + 1))), (0, .ref h0), (1, .int r), (2, .int (oI (plOf f r k)))]) hx hb dX1_placeOf_24 hl (k := 3) rfl (nI_inc _) (by decide) rfl (fun ls hl => ?_)
        refine lv_goto (tgt := 4) hx hb dX1_placeOf_27 (by decide) ?_
        exact ih (k + 1) (oI (plOf f r k)) (by omega) (by omega) (by rw [plOf_s]; split <;> first | rfl | (exfalso; omega))  _ _ _ hP hD hS (lv_sub hl [1, 2, 3, 0] rfl)
      · -- no: f k le r
        have c_2 : ¬ r.toInt < (f k).toInt := fun z => c_2 (Int32.lt_iff_toInt_lt.mpr z)
        refine lv_iload_n hx hb dX1_placeOf_22 rfl (lv_at hl 3 rfl) ?_
        refine lv_istore_n (lv' := [(2, .int (nI k)), (0, .ref h0), (1, .int r), (3, .int (nI k))]) hx hb dX1_placeOf_23 rfl hl (by decide) rfl (fun ls hl => ?_)
        refine lv_iinc (v := nI (k + 1)) (lv' := [(3, .int (nI (k + 1))), (2, .int (nI k)), (0, .ref h0), (1, .int r)]) hx hb dX1_placeOf_24 hl (k := 3) rfl (nI_inc _) (by decide) rfl (fun ls hl => ?_)
        refine lv_goto (tgt := 4) hx hb dX1_placeOf_27 (by decide) ?_
        exact ih (k + 1) (nI k) (by omega) (by omega) (by rw [plOf_s]; split <;> first | rfl | (exfalso; omega))  _ _ _ hP hD hS (lv_sub hl [2, 3, 1, 0] rfl)

set_option maxHeartbeats 4000000 in
set_option maxRecDepth 100000 in
theorem c_X1_placeOf (l : Launch) (G : gT) (h0 : Nat) (h1 : Nat) (h2 : Nat) (h3 : Nat) (f : Nat → Int32) (lo : Nat → Int32) (hi : Nat → Int32) (n : Nat) (r : Int32) (hn : n ≤ 5) : Met l yX1_placeOf wsX1_placeOf ({ frames := 0, cells := 0, slots := 0, locals := 0 }) (cPre G [.ref h0, .int r] [(h0, .inr (1, [.ref h1, .ref h2, .ref h3, .int (nI n)])), (h1, .inl (G.2 0, 5, .inl f)), (h2, .inl (G.2 0, 5, .inl lo)), (h3, .inl (G.2 0, 5, .inl hi))]) (va_Qi (fun (rv : Int32) (_u : Unit) => rv = oI (plOf f r n)) (cW G [(h0, .inr (1, [.ref h1, .ref h2, .ref h3, .int (nI n)])), (h1, .inl (G.2 0, 5, .inl f)), (h2, .inl (G.2 0, 5, .inl lo)), (h3, .inl (G.2 0, 5, .inl hi))] (fun (_u : Unit) => [(h0, .inr (1, [.ref h1, .ref h2, .ref h3, .int (nI n)])), (h1, .inl (G.2 0, 5, .inl f)), (h2, .inl (G.2 0, 5, .inl lo)), (h3, .inl (G.2 0, 5, .inl hi))])) (pB [(h0, .inr (1, [.ref h1, .ref h2, .ref h3, .int (nI n)])), (h1, .inl (G.2 0, 5, .inl f)), (h2, .inl (G.2 0, 5, .inl lo)), (h3, .inl (G.2 0, 5, .inl hi))])) 0 0 (pB [(h0, .inr (1, [.ref h1, .ref h2, .ref h3, .int (nI n)])), (h1, .inl (G.2 0, 5, .inl f)), (h2, .inl (G.2 0, 5, .inl lo)), (h3, .inl (G.2 0, 5, .inl hi))]) := by
  refine ofCX (G := G) (cc := cX1_placeOf) (maxL := 4) (ret := (some .int)) (by decide) rfl (Nat.le_of_ble_eq_true rfl) ?_
  intro p e s m below meth c ls C hr hin hD hP hl
  obtain ⟨hx, hb, hml, hown, hts, hlocks, hK⟩ := id C
  have hown : s.vm.findClass RX1 = some m.cls := hown
  generalize hAe : pB [(h0, .inr (1, [.ref h1, .ref h2, .ref h3, .int (nI n)])), (h1, .inl (G.2 0, 5, .inl f)), (h2, .inl (G.2 0, 5, .inl lo)), (h3, .inl (G.2 0, 5, .inl hi))] = A at hD ⊢
  have hS : va_S A s.heap s.heap [] := va_S.rf
  have hP : va_P G.1 vwCl [(h0, .inr (1, [.ref h1, .ref h2, .ref h3, .int (nI n)])), (h1, .inl (G.2 0, 5, .inl f)), (h2, .inl (G.2 0, 5, .inl lo)), (h3, .inl (G.2 0, 5, .inl hi))] s.heap := hP
  have hD : va_D A [(h0, .inr (1, [.ref h1, .ref h2, .ref h3, .int (nI n)])), (h1, .inl (G.2 0, 5, .inl f)), (h2, .inl (G.2 0, 5, .inl lo)), (h3, .inl (G.2 0, 5, .inl hi))] := hD
  have hl : lv_has ls 4 [(0, .ref h0), (1, .int r)] := hl
  refine lv_iconst (v := -1) hx hb dX1_placeOf_0 (by decide) ?_
  refine lv_istore_n (lv' := [(2, .int (-1)), (0, .ref h0), (1, .int r)]) hx hb dX1_placeOf_1 rfl hl (by decide) rfl (fun ls hl => ?_)
  refine lv_iconst (v := 0) hx hb dX1_placeOf_2 (by decide) ?_
  refine lv_istore_n (lv' := [(3, .int 0), (2, .int (-1)), (0, .ref h0), (1, .int r)]) hx hb dX1_placeOf_3 rfl hl (by decide) rfl (fun ls hl => ?_)
  refine lp_X1_placeOf_4 C h0 h1 h2 h3 f lo hi n r (by first | omega | assumption) (fun  H locs ls hP hD hS hl => ?_) (n + 1) 0 (-1) (by omega) (by omega) rfl  _ _ _ hP hD hS (lv_sub hl [2, 3, 1, 0] rfl)
  have hP : va_P G.1 vwCl [(h0, .inr (1, [.ref h1, .ref h2, .ref h3, .int (nI n)])), (h1, .inl (G.2 0, 5, .inl f)), (h2, .inl (G.2 0, 5, .inl lo)), (h3, .inl (G.2 0, 5, .inl hi))] H := hP
  have hD : va_D A [(h0, .inr (1, [.ref h1, .ref h2, .ref h3, .int (nI n)])), (h1, .inl (G.2 0, 5, .inl f)), (h2, .inl (G.2 0, 5, .inl lo)), (h3, .inl (G.2 0, 5, .inl hi))] := hD
  refine lv_iload_n hx hb dX1_placeOf_30 rfl (lv_at hl 2 rfl) ?_
  exact rtI C hr hAe (u := ()) hP hD hS dX1_placeOf_31 rfl

set_option maxHeartbeats 4000000 in
set_option maxRecDepth 100000 in
theorem c_X1_shiftAt (l : Launch) (G : gT) (h0 : Nat) (h1 : Nat) (h2 : Nat) (h3 : Nat) (f : Nat → Int32) (lo : Nat → Int32) (hi : Nat → Int32) (n : Nat) (k : Nat) (b : Int32) (hn : n ≤ 5) (hk : k < n) : Met l yX1_shiftAt wsX1_shiftAt ({ frames := 1, cells := 0, slots := 0, locals := 22 }) (cPre G [.ref h0, .int (nI k), .int b] [(h0, .inr (1, [.ref h1, .ref h2, .ref h3, .int (nI n)])), (h1, .inl (G.2 0, 5, .inl f)), (h2, .inl (G.2 0, 5, .inl lo)), (h3, .inl (G.2 0, 5, .inl hi))]) (va_Qi (fun (rv : Int32) (_u : Unit) => rv = if b = 0 then lo k else hi k) (cW G [(h0, .inr (1, [.ref h1, .ref h2, .ref h3, .int (nI n)])), (h1, .inl (G.2 0, 5, .inl f)), (h2, .inl (G.2 0, 5, .inl lo)), (h3, .inl (G.2 0, 5, .inl hi))] (fun (_u : Unit) => [(h0, .inr (1, [.ref h1, .ref h2, .ref h3, .int (nI n)])), (h1, .inl (G.2 0, 5, .inl f)), (h2, .inl (G.2 0, 5, .inl lo)), (h3, .inl (G.2 0, 5, .inl hi))])) (pB [(h0, .inr (1, [.ref h1, .ref h2, .ref h3, .int (nI n)])), (h1, .inl (G.2 0, 5, .inl f)), (h2, .inl (G.2 0, 5, .inl lo)), (h3, .inl (G.2 0, 5, .inl hi))])) 0 0 (pB [(h0, .inr (1, [.ref h1, .ref h2, .ref h3, .int (nI n)])), (h1, .inl (G.2 0, 5, .inl f)), (h2, .inl (G.2 0, 5, .inl lo)), (h3, .inl (G.2 0, 5, .inl hi))]) := by
  refine ofCX (G := G) (cc := cX1_shiftAt) (maxL := 3) (ret := (some .int)) (by decide) rfl (Nat.le_of_ble_eq_true rfl) ?_
  intro p e s m below meth c ls C hr hin hD hP hl
  obtain ⟨hx, hb, hml, hown, hts, hlocks, hK⟩ := id C
  have hown : s.vm.findClass RX1 = some m.cls := hown
  have hfl_21 := hts (.fieldLink RX1 21 "AfterDesk$Clock" "size" "I") (by decide +kernel)
  have hin_X1 : ∀ w ∈ wsX10, w ∈ wsX1_shiftAt := by decide +kernel
  have hini_RX7 := hts (.initialized RX7) (by decide +kernel)
  have hst_X7_isWithin := hts (.static yX7_isWithin) (by decide +kernel)
  have hfl_15 := hts (.fieldLink RX1 15 "AfterDesk$Clock" "lows" "[I") (by decide +kernel)
  have hfl_18 := hts (.fieldLink RX1 18 "AfterDesk$Clock" "highs" "[I") (by decide +kernel)
  generalize hAe : pB [(h0, .inr (1, [.ref h1, .ref h2, .ref h3, .int (nI n)])), (h1, .inl (G.2 0, 5, .inl f)), (h2, .inl (G.2 0, 5, .inl lo)), (h3, .inl (G.2 0, 5, .inl hi))] = A at hD ⊢
  have hS : va_S A s.heap s.heap [] := va_S.rf
  have hP : va_P G.1 vwCl [(h0, .inr (1, [.ref h1, .ref h2, .ref h3, .int (nI n)])), (h1, .inl (G.2 0, 5, .inl f)), (h2, .inl (G.2 0, 5, .inl lo)), (h3, .inl (G.2 0, 5, .inl hi))] s.heap := hP
  have hD : va_D A [(h0, .inr (1, [.ref h1, .ref h2, .ref h3, .int (nI n)])), (h1, .inl (G.2 0, 5, .inl f)), (h2, .inl (G.2 0, 5, .inl lo)), (h3, .inl (G.2 0, 5, .inl hi))] := hD
  have hl : lv_has ls 3 [(0, .ref h0), (1, .int (nI k)), (2, .int b)] := hl
  refine lv_iload_n hx hb dX1_shiftAt_0 rfl (lv_at hl 1 rfl) ?_
  refine lv_iconst (v := 0) hx hb dX1_shiftAt_1 (by decide) ?_
  refine lv_aload_n hx hb dX1_shiftAt_2 rfl (lv_at hl 0 rfl) ?_
  refine va_get (D := G.1) (ci := 1) (v := .int (nI n)) (C := RX1) (T := TX1) (N := 4) hx hb hts hin_X1 hown hK.1 hP 0 rfl rfl 3 (by decide) hfl_21 (fun _ h9 => h9) rfl dX1_shiftAt_3 ?_
  refine lv_iconst (v := 1) hx hb dX1_shiftAt_6 (by decide) ?_
  refine lv_isub hx hb dX1_shiftAt_7 ?_
  refine xI (S := Unit) (va_runSN (As := [.int (nI k), .int 0, .int ((nI n) - 1)]) (rest := []) ⟨hx, hb, hml, hown, hts⟩ (c_X7_isWithin l G (nI k) 0 ((nI n) - 1)) ⟨va_cnB 3 hts gX1_shiftAt_X7_isWithin_n29 rfl rfl rfl (hK.2.1 _ nst_X1_29) hini_RX7 (by decide +kernel) ⟨Nat.le_of_ble_eq_true rfl, Nat.le_of_ble_eq_true rfl⟩, hst_X7_isWithin, trivial⟩ (pS [.int (nI k), .int 0, .int ((nI n) - 1)] hK (hP.sub (ws' := []) [] rfl) (hD.sub (ws' := []) [] (by decide) rfl)) rfl rfl hl.1 rfl (lv_room (Nat.le_of_ble_eq_true rfl)) dX1_shiftAt_8 ⟨Nat.zero_le _, Nat.zero_le _⟩) hP hD hS [] [0, 1, 2, 3] (wr := [(h0, .inr (1, [.ref h1, .ref h2, .ref h3, .int (nI n)])), (h1, .inl (G.2 0, 5, .inl f)), (h2, .inl (G.2 0, 5, .inl lo)), (h3, .inl (G.2 0, 5, .inl hi))]) rfl rfl (by decide) (by decide) [0, 1, 2, 3] (w2 := fun (_ : Unit) => [(h0, .inr (1, [.ref h1, .ref h2, .ref h3, .int (nI n)])), (h1, .inl (G.2 0, 5, .inl f)), (h2, .inl (G.2 0, 5, .inl lo)), (h3, .inl (G.2 0, 5, .inl hi))]) (fun _ => rfl) (by decide) (fun r_1 u_2 H locs hw_3 hP hD hS => ?_)
  (try dsimp only at hw_3); subst hw_3
  have hP : va_P G.1 vwCl [(h0, .inr (1, [.ref h1, .ref h2, .ref h3, .int (nI n)])), (h1, .inl (G.2 0, 5, .inl f)), (h2, .inl (G.2 0, 5, .inl lo)), (h3, .inl (G.2 0, 5, .inl hi))] H := hP
  have hD : va_D A [(h0, .inr (1, [.ref h1, .ref h2, .ref h3, .int (nI n)])), (h1, .inl (G.2 0, 5, .inl f)), (h2, .inl (G.2 0, 5, .inl lo)), (h3, .inl (G.2 0, 5, .inl hi))] := hD
  refine lv_if_ne (tgt := 16) hx hb dX1_shiftAt_11 (by decide) (fun c_4 => ?_) (fun c_4 => ?_)
  · -- yes: bI (decide (0 ≤ (nI k).toInt ∧ (nI k).toInt ≤ ((nI n) - 1).t ne 0
    have c_4 : 0 ≤ (nI k).toInt ∧ (nI k).toInt ≤ ((nI n) - 1).toInt := bD1 c_4
    simp (disch := omega) only [sub1_toInt, nI_toInt] at c_4
    refine lv_iload_n hx hb dX1_shiftAt_16 rfl (lv_at hl 2 rfl) ?_
    refine lv_if_eq (tgt := 29) hx hb dX1_shiftAt_17 (by decide) (fun c_5 => ?_) (fun c_5 => ?_)
    · -- yes: b eq 0
      refine lv_aload_n hx hb dX1_shiftAt_29 rfl (lv_at hl 0 rfl) ?_
      refine va_get (D := G.1) (ci := 1) (v := .ref h2) (C := RX1) (T := TX1) (N := 4) hx hb hts hin_X1 hown hK.1 hP 0 rfl rfl 1 (by decide) hfl_15 (fun _ h9 => h9) rfl dX1_shiftAt_30 ?_
      refine lv_iload_n hx hb dX1_shiftAt_33 rfl (lv_at hl 1 rfl) ?_
      refine aIld hx hb hK.1 hP 2 0 rfl rfl (k := k) rfl (by omega) (by decide) dX1_shiftAt_34 ?_
      exact rtI C hr hAe (u := ()) hP hD hS dX1_shiftAt_35 (by first | exact (if_pos (by assumption)).symm | exact (if_neg (by assumption)).symm)
    · -- no: b ne 0
      refine lv_aload_n hx hb dX1_shiftAt_20 rfl (lv_at hl 0 rfl) ?_
      refine va_get (D := G.1) (ci := 1) (v := .ref h3) (C := RX1) (T := TX1) (N := 4) hx hb hts hin_X1 hown hK.1 hP 0 rfl rfl 2 (by decide) hfl_18 (fun _ h9 => h9) rfl dX1_shiftAt_21 ?_
      refine lv_iload_n hx hb dX1_shiftAt_24 rfl (lv_at hl 1 rfl) ?_
      refine aIld hx hb hK.1 hP 3 0 rfl rfl (k := k) rfl (by omega) (by decide) dX1_shiftAt_25 ?_
      refine lv_goto (tgt := 35) hx hb dX1_shiftAt_26 (by decide) ?_
      exact rtI C hr hAe (u := ()) hP hD hS dX1_shiftAt_35 (by first | exact (if_pos (by assumption)).symm | exact (if_neg (by assumption)).symm)
  · -- no: bI (decide (0 ≤ (nI k).toInt ∧ (nI k).toInt ≤ ((nI n) - 1).t eq 0
    have c_4 : ¬ (0 ≤ (nI k).toInt ∧ (nI k).toInt ≤ ((nI n) - 1).toInt) := bD0 c_4
    simp (disch := omega) only [sub1_toInt, nI_toInt] at c_4
    exfalso; omega
