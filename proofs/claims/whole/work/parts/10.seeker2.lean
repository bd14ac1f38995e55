set_option maxHeartbeats 4000000 in
set_option maxRecDepth 100000 in
theorem lp_X4_leastRing_10 {p : Program} {l : Launch} {e : Env} {R : Room} {s : State} {m : MethodId} {args : Array Value} {below : List Frame} {meth : Method} {c : Code} {A : Nat → Prop} {H0 : Heap} {Q : State → Prop} {G : gT} (C : CX p s m meth c args cX4_leastRing 6 RX4 wsX4_leastRing G) (h0 : Nat) (h1 : Nat) (st : Nat → Int64) (n : Nat) (on : Int32) (d : Nat) (ST : Nat → Nat → Int64) (hn : n ≤ 12) (hd : d < 1000) (hst : AG n st ST) (hRf : 3 ≤ R.frames) (hRl : 74 ≤ R.locals)  (he0 : ∀ (k : Nat) (h2 : Nat) (h3 : Nat) (wk : Nat → Int64) (lg : Nat → Int64) (kep : Int32), k ≤ n → (kep = lrM ST n d n on) → ∀ (H : Heap) (locs : List Loc) (ls : Array Slot), va_P G.1 vwCl [(h0, .inr (4, [.ref h1, .ref h2, .ref h3, .int (nI n)])), (h1, .inl (G.2 1, 144, .inr (.inl st))), (h2, .inl (G.2 1, 144, .inr (.inl wk))), (h3, .inl (G.2 1, 144, .inr (.inl lg)))] H → va_D A [(h0, .inr (4, [.ref h1, .ref h2, .ref h3, .int (nI n)])), (h1, .inl (G.2 1, 144, .inr (.inl st))), (h2, .inl (G.2 1, 144, .inr (.inl wk))), (h3, .inl (G.2 1, 144, .inr (.inl lg)))] → va_S A H0 H locs → lv_has ls 6 [(0, .ref h0), (1, .int on), (2, .int (nI (d + 1))), (3, .int kep)] → W p l e R s m args below meth c H locs 0 0 Q (F0 m 65 ls [])) : ∀ (fu k : Nat)  (h2 : Nat) (h3 : Nat) (wk : Nat → Int64) (lg : Nat → Int64) (kep : Int32), k ≤ n → n - k < fu → (lrM ST n d (n - k) kep = lrM ST n d n on) → ∀ (H : Heap) (locs : List Loc) (ls : Array Slot), va_P G.1 vwCl [(h0, .inr (4, [.ref h1, .ref h2, .ref h3, .int (nI n)])), (h1, .inl (G.2 1, 144, .inr (.inl st))), (h2, .inl (G.2 1, 144, .inr (.inl wk))), (h3, .inl (G.2 1, 144, .inr (.inl lg)))] H → va_D A [(h0, .inr (4, [.ref h1, .ref h2, .ref h3, .int (nI n)])), (h1, .inl (G.2 1, 144, .inr (.inl st))), (h2, .inl (G.2 1, 144, .inr (.inl wk))), (h3, .inl (G.2 1, 144, .inr (.inl lg)))] → va_S A H0 H locs → lv_has ls 6 [(0, .ref h0), (1, .int on), (2, .int (nI (d + 1))), (3, .int kep), (4, .int (nI (n - k) - 1))] → W p l e R s m args below meth c H locs 0 0 Q (F0 m 10 ls []) := by
  obtain ⟨hx, hb, hml, hown, hts, hlocks, hK⟩ := id C
  intro fu
  induction fu with
  | zero =>
    intro k h2 h3 wk lg kep h1 h2
    exact absurd h2 (by omega)
  | succ fu ih =>
    intro k h2 h3 wk lg kep hkle hkn  hlr H locs ls hP hD hS hl
    refine lv_iload hx hb dX4_leastRing_10 (lv_at hl 4 rfl) ?_
    refine lv_if_lt (tgt := 65) hx hb dX4_leastRing_12 (by decide) (fun c_1 => ?_) (fun c_1 => ?_)
    · -- yes: nI (n - k) - 1 lt 0
      have c_1 : (nI (n - k) - 1).toInt < 0 := Int32.lt_iff_toInt_lt.mp c_1
      simp (disch := omega) only [sub1_toInt, nI_toInt] at c_1
      exact he0 k h2 h3 wk lg kep (by omega)  (by rw [show n - k = 0 by omega] at hlr; exact hlr) _ _ _ hP hD hS (lv_sub hl [0, 1, 2, 3] rfl)
    · -- no: nI (n - k) - 1 ge 0
      have c_1 : ¬ (nI (n - k) - 1).toInt < 0 := fun z => c_1 (Int32.lt_iff_toInt_lt.mpr z)
      simp (disch := omega) only [sub1_toInt, nI_toInt] at c_1
      obtain ⟨j, ej⟩ : ∃ j, n - k = j + 1 := ⟨n - k - 1, by omega⟩
      rw [ej] at hlr
      have et : nI (n - k) - 1 = nI j := by rw [ej]; exact nI_pred j
      rw [et] at hl
      have hl : lv_has ls 6 [(0, .ref h0), (1, .int on), (2, .int (nI (d + 1))), (3, .int kep), (4, .int (nI j))] := hl
      refine lv_iload_n hx hb dX4_leastRing_15 rfl (lv_at hl 3 rfl) ?_
      refine xI (S := Unit) (va_runS (As := [.int kep]) (rest := []) ⟨hx, hb, hml, hown, hts⟩ (c_J6_bitCount_0f7a4 l G kep) (va_cwS 1 hts gX4_leastRing_J6_bitCount_0f7a4 rfl rfl rfl (by decide +kernel) ⟨Nat.le_trans (Nat.le_of_ble_eq_true (m := 3) rfl) hRf, Nat.le_trans (Nat.le_of_ble_eq_true (m := 74) rfl) hRl⟩) (pS [.int kep] hK (hP.sub (ws' := []) [] rfl) (hD.sub (ws' := []) [] (by decide) rfl)) rfl rfl hl.1 rfl (lv_room (Nat.le_of_ble_eq_true rfl)) dX4_leastRing_16 ⟨Nat.zero_le _, Nat.zero_le _⟩) hP hD hS [] [0, 1, 2, 3] (wr := [(h0, .inr (4, [.ref h1, .ref h2, .ref h3, .int (nI n)])), (h1, .inl (G.2 1, 144, .inr (.inl st))), (h2, .inl (G.2 1, 144, .inr (.inl wk))), (h3, .inl (G.2 1, 144, .inr (.inl lg)))]) rfl rfl (by decide) (by decide) [0, 1, 2, 3] (w2 := fun (_ : Unit) => [(h0, .inr (4, [.ref h1, .ref h2, .ref h3, .int (nI n)])), (h1, .inl (G.2 1, 144, .inr (.inl st))), (h2, .inl (G.2 1, 144, .inr (.inl wk))), (h3, .inl (G.2 1, 144, .inr (.inl lg)))]) (fun _ => rfl) (by decide) (fun r_2 u_3 H locs hw_4 hP hD hS => ?_)
      (try dsimp only at hw_4); subst hw_4
      have hP : va_P G.1 vwCl [(h0, .inr (4, [.ref h1, .ref h2, .ref h3, .int (nI n)])), (h1, .inl (G.2 1, 144, .inr (.inl st))), (h2, .inl (G.2 1, 144, .inr (.inl wk))), (h3, .inl (G.2 1, 144, .inr (.inl lg)))] H := hP
      have hD : va_D A [(h0, .inr (4, [.ref h1, .ref h2, .ref h3, .int (nI n)])), (h1, .inl (G.2 1, 144, .inr (.inl st))), (h2, .inl (G.2 1, 144, .inr (.inl wk))), (h3, .inl (G.2 1, 144, .inr (.inl lg)))] := hD
      refine lv_iload_n hx hb dX4_leastRing_19 rfl (lv_at hl 2 rfl) ?_
      refine lv_icmp_le (tgt := 65) hx hb dX4_leastRing_20 (by decide) (fun c_5 => ?_) (fun c_5 => ?_)
      · -- yes: popc kep le nI (d + 1)
        have c_5 : (popc kep).toInt ≤ (((d + 1) : Nat) : Int) := by rw [Int32.le_iff_toInt_le] at c_5; rw [nI_toInt (n := (d + 1)) (by omega)] at c_5; exact c_5
        exact he0 k h2 h3 wk lg kep (by omega)  (by exact lrM_1 hlr c_5) _ _ _ hP hD hS (lv_sub hl [0, 1, 2, 3] rfl)
      · -- no: popc kep gt nI (d + 1)
        have c_5 : ¬ (popc kep).toInt ≤ (((d + 1) : Nat) : Int) := by rw [Int32.le_iff_toInt_le] at c_5; rw [nI_toInt (n := (d + 1)) (by omega)] at c_5; exact c_5
        refine lv_iload_n hx hb dX4_leastRing_23 rfl (lv_at hl 3 rfl) ?_
        refine lv_iload hx hb dX4_leastRing_24 (lv_at hl 4 rfl) ?_
        refine lv_ishr hx hb dX4_leastRing_26 ?_
        refine lv_iconst (v := 1) hx hb dX4_leastRing_27 (by decide) ?_
        refine lv_iand hx hb dX4_leastRing_28 ?_
        refine lv_if_eq (tgt := 59) hx hb dX4_leastRing_29 (by decide) (fun c_6 => ?_) (fun c_6 => ?_)
        · -- yes: (kep >>> ((nI j) &&& 31)) &&& 1 eq 0
          refine lv_iinc (v := (nI j) + (-1)) (lv' := [(4, .int ((nI j) + (-1))), (0, .ref h0), (1, .int on), (2, .int (nI (d + 1))), (3, .int kep)]) hx hb dX4_leastRing_59 hl (k := 4) rfl rfl (by decide) rfl (fun ls hl => ?_)
          have e4 : nI j + (-1) = nI (n - (k + 1)) - 1 := by rw [show n - (k + 1) = j by omega, Int32.sub_eq_add_neg]
          rw [e4] at hl
          refine lv_goto (tgt := 10) hx hb dX4_leastRing_62 (by decide) ?_
          exact ih (k + 1) h2 h3 wk lg kep (by omega) (by omega)  (by rw [show n - (k + 1) = j by omega]; exact lrM_2 hlr c_5 c_6) _ _ _ hP hD hS (lv_sub hl [1, 2, 3, 4, 0] rfl)
        · -- no: (kep >>> ((nI j) &&& 31)) &&& 1 ne 0
          refine lv_aload_n hx hb dX4_leastRing_32 rfl (lv_at hl 0 rfl) ?_
          refine lv_iload_n hx hb dX4_leastRing_33 rfl (lv_at hl 3 rfl) ?_
          refine lv_iconst (v := 1) hx hb dX4_leastRing_34 (by decide) ?_
          refine lv_iload hx hb dX4_leastRing_35 (lv_at hl 4 rfl) ?_
          refine lv_ishl hx hb dX4_leastRing_37 ?_
          refine lv_iconst (v := -1) hx hb dX4_leastRing_38 (by decide) ?_
          refine lv_ixor hx hb dX4_leastRing_39 ?_
          refine lv_iand hx hb dX4_leastRing_40 ?_
          refine lv_iload_n hx hb dX4_leastRing_41 rfl (lv_at hl 2 rfl) ?_
          refine xI (S := Nat × Nat × (Nat → Int64) × (Nat → Int64)) (va_runV (As := [.int (kep &&& ((1 <<< ((nI j) &&& 31)) ^^^ (-1))), .int (nI (d + 1))]) (rest := []) ⟨hx, hb, hml, hown, hts⟩ (c_X4_onRingsAmong l G h0 h1 h2 h3 st wk lg n (kep &&& ((1 <<< ((nI j) &&& 31)) ^^^ (-1))) d ST (by first | omega | assumption) (by first | omega | assumption) (by first | omega | assumption)) (cwV 2 hts gX4_leastRing_X4_onRingsAmong rfl rfl rfl (by decide +kernel) ⟨Nat.le_trans (Nat.le_of_ble_eq_true (m := 3) rfl) hRf, Nat.le_trans (Nat.le_of_ble_eq_true (m := 74) rfl) hRl⟩) (pV [.int (kep &&& ((1 <<< ((nI j) &&& 31)) ^^^ (-1))), .int (nI (d + 1))] hK (hP.sub (ws' := [(h0, .inr (4, [.ref h1, .ref h2, .ref h3, .int (nI n)])), (h1, .inl (G.2 1, 144, .inr (.inl st))), (h2, .inl (G.2 1, 144, .inr (.inl wk))), (h3, .inl (G.2 1, 144, .inr (.inl lg)))]) [0, 1, 2, 3] rfl) (hD.sub (ws' := [(h0, .inr (4, [.ref h1, .ref h2, .ref h3, .int (nI n)])), (h1, .inl (G.2 1, 144, .inr (.inl st))), (h2, .inl (G.2 1, 144, .inr (.inl wk))), (h3, .inl (G.2 1, 144, .inr (.inl lg)))]) [0, 1, 2, 3] (by decide) rfl) (ci := 4) (q0 := 0) rfl rfl) rfl rfl hl.1 rfl (lv_room (Nat.le_of_ble_eq_true rfl)) dX4_leastRing_42 ⟨Nat.zero_le _, Nat.zero_le _⟩) hP hD hS [0, 1, 2, 3] [] (wr := []) rfl rfl (by decide) (by decide) [0, 1, 2, 3] (w2 := fun (u_12 : Nat × Nat × (Nat → Int64) × (Nat → Int64)) => [(h0, .inr (4, [.ref h1, .ref u_12.1, .ref u_12.2.1, .int (nI n)])), (h1, .inl (G.2 1, 144, .inr (.inl st))), (u_12.1, .inl (G.2 1, 144, .inr (.inl u_12.2.2.1))), (u_12.2.1, .inl (G.2 1, 144, .inr (.inl u_12.2.2.2)))]) (fun _ => rfl) (by decide) (fun r_11 u_12 H locs hw_13 hP hD hS => ?_)
          obtain ⟨qv_7, qv_8, wkv_9, lgv_10⟩ := u_12
          (try dsimp only at hw_13); subst hw_13
          have hP : va_P G.1 vwCl [(h0, .inr (4, [.ref h1, .ref qv_7, .ref qv_8, .int (nI n)])), (h1, .inl (G.2 1, 144, .inr (.inl st))), (qv_7, .inl (G.2 1, 144, .inr (.inl wkv_9))), (qv_8, .inl (G.2 1, 144, .inr (.inl lgv_10)))] H := hP
          have hD : va_D A [(h0, .inr (4, [.ref h1, .ref qv_7, .ref qv_8, .int (nI n)])), (h1, .inl (G.2 1, 144, .inr (.inl st))), (qv_7, .inl (G.2 1, 144, .inr (.inl wkv_9))), (qv_8, .inl (G.2 1, 144, .inr (.inl lgv_10)))] := hD
          refine lv_istore (lv' := [(5, .int (oraM ST n (kep &&& ((1 <<< ((nI j) &&& 31)) ^^^ (-1))) d)), (0, .ref h0), (1, .int on), (2, .int (nI (d + 1))), (3, .int kep), (4, .int (nI j))]) hx hb dX4_leastRing_45 hl (by decide) rfl (fun ls hl => ?_)
          refine lv_iload hx hb dX4_leastRing_47 (lv_at hl 0 rfl) ?_
          refine lv_if_eq (tgt := 57) hx hb dX4_leastRing_49 (by decide) (fun c_14 => ?_) (fun c_14 => ?_)
          · -- yes: oraM ST n (kep &&& ((1 <<< ((nI j) &&& 31)) ^^^ (-1))) d eq 0
            refine lv_iload_n hx hb dX4_leastRing_57 rfl (lv_at hl 4 rfl) ?_
            refine lv_istore_n (lv' := [(3, .int kep), (5, .int (oraM ST n (kep &&& ((1 <<< ((nI j) &&& 31)) ^^^ (-1))) d)), (0, .ref h0), (1, .int on), (2, .int (nI (d + 1))), (4, .int (nI j))]) hx hb dX4_leastRing_58 rfl hl (by decide) rfl (fun ls hl => ?_)
            refine lv_iinc (v := (nI j) + (-1)) (lv' := [(4, .int ((nI j) + (-1))), (3, .int kep), (5, .int (oraM ST n (kep &&& ((1 <<< ((nI j) &&& 31)) ^^^ (-1))) d)), (0, .ref h0), (1, .int on), (2, .int (nI (d + 1)))]) hx hb dX4_leastRing_59 hl (k := 5) rfl rfl (by decide) rfl (fun ls hl => ?_)
            have e4 : nI j + (-1) = nI (n - (k + 1)) - 1 := by rw [show n - (k + 1) = j by omega, Int32.sub_eq_add_neg]
            rw [e4] at hl
            refine lv_goto (tgt := 10) hx hb dX4_leastRing_62 (by decide) ?_
            exact ih (k + 1) qv_7 qv_8 wkv_9 lgv_10 kep (by omega) (by omega)  (by rw [show n - (k + 1) = j by omega]; exact lrM_3 hlr c_5 c_6 c_14) _ _ _ hP hD hS (lv_sub hl [3, 4, 5, 1, 0] rfl)
          · -- no: oraM ST n (kep &&& ((1 <<< ((nI j) &&& 31)) ^^^ (-1))) d ne 0
            refine lv_iload hx hb dX4_leastRing_52 (lv_at hl 0 rfl) ?_
            refine lv_goto (tgt := 58) hx hb dX4_leastRing_54 (by decide) ?_
            refine lv_istore_n (lv' := [(3, .int (oraM ST n (kep &&& ((1 <<< ((nI j) &&& 31)) ^^^ (-1))) d)), (5, .int (oraM ST n (kep &&& ((1 <<< ((nI j) &&& 31)) ^^^ (-1))) d)), (0, .ref h0), (1, .int on), (2, .int (nI (d + 1))), (4, .int (nI j))]) hx hb dX4_leastRing_58 rfl hl (by decide) rfl (fun ls hl => ?_)
            refine lv_iinc (v := (nI j) + (-1)) (lv' := [(4, .int ((nI j) + (-1))), (3, .int (oraM ST n (kep &&& ((1 <<< ((nI j) &&& 31)) ^^^ (-1))) d)), (5, .int (oraM ST n (kep &&& ((1 <<< ((nI j) &&& 31)) ^^^ (-1))) d)), (0, .ref h0), (1, .int on), (2, .int (nI (d + 1)))]) hx hb dX4_leastRing_59 hl (k := 5) rfl rfl (by decide) rfl (fun ls hl => ?_)
            have e4 : nI j + (-1) = nI (n - (k + 1)) - 1 := by rw [show n - (k + 1) = j by omega, Int32.sub_eq_add_neg]
            rw [e4] at hl
            refine lv_goto (tgt := 10) hx hb dX4_leastRing_62 (by decide) ?_
            exact ih (k + 1) qv_7 qv_8 wkv_9 lgv_10 (oraM ST n (kep &&& ((1 <<< ((nI j) &&& 31)) ^^^ (-1))) d) (by omega) (by omega)  (by rw [show n - (k + 1) = j by omega]; exact lrM_4 hlr c_5 c_6 c_14) _ _ _ hP hD hS (lv_sub hl [3, 4, 5, 1, 0] rfl)

set_option maxHeartbeats 4000000 in
set_option maxRecDepth 100000 in
theorem c_X4_leastRing (l : Launch) (G : gT) (h0 : Nat) (h1 : Nat) (h2 : Nat) (h3 : Nat) (st : Nat → Int64) (wk : Nat → Int64) (lg : Nat → Int64) (n : Nat) (on : Int32) (d : Nat) (ST : Nat → Nat → Int64) (hn : n ≤ 12) (hd : d < 1000) (hst : AG n st ST) : Met l yX4_leastRing wsX4_leastRing ({ frames := 3, cells := 0, slots := 0, locals := 74 }) (cPre G [.ref h0, .int on, .int (nI (d + 1))] [(h0, .inr (4, [.ref h1, .ref h2, .ref h3, .int (nI n)])), (h1, .inl (G.2 1, 144, .inr (.inl st))), (h2, .inl (G.2 1, 144, .inr (.inl wk))), (h3, .inl (G.2 1, 144, .inr (.inl lg)))]) (va_Qi (fun (rv : Int32) (u : Nat × Nat × (Nat → Int64) × (Nat → Int64)) => rv = lrM ST n d n on) (cW G [(h0, .inr (4, [.ref h1, .ref h2, .ref h3, .int (nI n)])), (h1, .inl (G.2 1, 144, .inr (.inl st))), (h2, .inl (G.2 1, 144, .inr (.inl wk))), (h3, .inl (G.2 1, 144, .inr (.inl lg)))] (fun (u : Nat × Nat × (Nat → Int64) × (Nat → Int64)) => [(h0, .inr (4, [.ref h1, .ref u.1, .ref u.2.1, .int (nI n)])), (h1, .inl (G.2 1, 144, .inr (.inl st))), (u.1, .inl (G.2 1, 144, .inr (.inl u.2.2.1))), (u.2.1, .inl (G.2 1, 144, .inr (.inl u.2.2.2)))])) (pB [(h0, .inr (4, [.ref h1, .ref h2, .ref h3, .int (nI n)])), (h1, .inl (G.2 1, 144, .inr (.inl st))), (h2, .inl (G.2 1, 144, .inr (.inl wk))), (h3, .inl (G.2 1, 144, .inr (.inl lg)))])) 0 0 (pB [(h0, .inr (4, [.ref h1, .ref h2, .ref h3, .int (nI n)])), (h1, .inl (G.2 1, 144, .inr (.inl st))), (h2, .inl (G.2 1, 144, .inr (.inl wk))), (h3, .inl (G.2 1, 144, .inr (.inl lg)))]) := by
  refine ofCX (G := G) (cc := cX4_leastRing) (maxL := 6) (ret := (some .int)) (by decide) rfl (Nat.le_of_ble_eq_true rfl) ?_
  intro p e s m below meth c ls C hr hin hD hP hl
  obtain ⟨hx, hb, hml, hown, hts, hlocks, hK⟩ := id C
  have hown : s.vm.findClass RX4 = some m.cls := hown
  have hfl_21 := hts (.fieldLink RX4 21 "AfterDesk$QuarrelSeeker" "size" "I") (by decide +kernel)
  have hin_X4 : ∀ w ∈ wsX40, w ∈ wsX4_leastRing := by decide +kernel
  generalize hAe : pB [(h0, .inr (4, [.ref h1, .ref h2, .ref h3, .int (nI n)])), (h1, .inl (G.2 1, 144, .inr (.inl st))), (h2, .inl (G.2 1, 144, .inr (.inl wk))), (h3, .inl (G.2 1, 144, .inr (.inl lg)))] = A at hD ⊢
  have hS : va_S A s.heap s.heap [] := va_S.rf
  have hP : va_P G.1 vwCl [(h0, .inr (4, [.ref h1, .ref h2, .ref h3, .int (nI n)])), (h1, .inl (G.2 1, 144, .inr (.inl st))), (h2, .inl (G.2 1, 144, .inr (.inl wk))), (h3, .inl (G.2 1, 144, .inr (.inl lg)))] s.heap := hP
  have hD : va_D A [(h0, .inr (4, [.ref h1, .ref h2, .ref h3, .int (nI n)])), (h1, .inl (G.2 1, 144, .inr (.inl st))), (h2, .inl (G.2 1, 144, .inr (.inl wk))), (h3, .inl (G.2 1, 144, .inr (.inl lg)))] := hD
  have hl : lv_has ls 6 [(0, .ref h0), (1, .int on), (2, .int (nI (d + 1)))] := hl
  refine lv_iload_n hx hb dX4_leastRing_0 rfl (lv_at hl 1 rfl) ?_
  refine lv_istore_n (lv' := [(3, .int on), (0, .ref h0), (1, .int on), (2, .int (nI (d + 1)))]) hx hb dX4_leastRing_1 rfl hl (by decide) rfl (fun ls hl => ?_)
  refine lv_aload_n hx hb dX4_leastRing_2 rfl (lv_at hl 1 rfl) ?_
  refine va_get (D := G.1) (ci := 4) (v := .int (nI n)) (C := RX4) (T := TX4) (N := 4) hx hb hts hin_X4 hown hK.1 hP 0 rfl rfl 3 (by decide) hfl_21 (fun _ h9 => h9) rfl dX4_leastRing_3 ?_
  refine lv_iconst (v := 1) hx hb dX4_leastRing_6 (by decide) ?_
  refine lv_isub hx hb dX4_leastRing_7 ?_
  refine lv_istore (lv' := [(4, .int ((nI n) - 1)), (3, .int on), (0, .ref h0), (1, .int on), (2, .int (nI (d + 1)))]) hx hb dX4_leastRing_8 hl (by decide) rfl (fun ls hl => ?_)
  refine lp_X4_leastRing_10 C h0 h1 st n on d ST (by first | omega | assumption) (by first | omega | assumption) (by first | omega | assumption) (Nat.le_of_ble_eq_true rfl) (Nat.le_of_ble_eq_true rfl) (fun kq hz_1 hz_2 wkz_3 lgz_4 kepz_5 hlt  hres H locs ls hP hD hS hl => ?_) (n + 1) 0 h2 h3 wk lg on (by omega) (by omega)  (by rfl) _ _ _ hP hD hS (lv_sub hl [2, 3, 4, 1, 0] rfl)
  have hP : va_P G.1 vwCl [(h0, .inr (4, [.ref h1, .ref hz_1, .ref hz_2, .int (nI n)])), (h1, .inl (G.2 1, 144, .inr (.inl st))), (hz_1, .inl (G.2 1, 144, .inr (.inl wkz_3))), (hz_2, .inl (G.2 1, 144, .inr (.inl lgz_4)))] H := hP
  have hD : va_D A [(h0, .inr (4, [.ref h1, .ref hz_1, .ref hz_2, .int (nI n)])), (h1, .inl (G.2 1, 144, .inr (.inl st))), (hz_1, .inl (G.2 1, 144, .inr (.inl wkz_3))), (hz_2, .inl (G.2 1, 144, .inr (.inl lgz_4)))] := hD
  refine lv_iload_n hx hb dX4_leastRing_65 rfl (lv_at hl 3 rfl) ?_
  exact rtI C hr hAe (u := (hz_1, hz_2, wkz_3, lgz_4)) hP hD hS dX4_leastRing_66 (by exact hres)

set_option maxHeartbeats 4000000 in
set_option maxRecDepth 100000 in
theorem lp_X4_seek_36 {p : Program} {l : Launch} {e : Env} {R : Room} {s : State} {m : MethodId} {args : Array Value} {below : List Frame} {meth : Method} {c : Code} {A : Nat → Prop} {H0 : Heap} {Q : State → Prop} {G : gT} (C : CX p s m meth c args cX4_seek 5 RX4 wsX4_seek G) (h0 : Nat) (h1 : Nat) (st : Nat → Int64) (n : Nat) (k0 : Nat) (k1 : Nat) (ms : Nat → Int64) (b : Int32) (ST : Nat → Nat → Int64) (hn : n ≤ 12) (hst : AG n st ST) (hRf : 2 ≤ R.frames) (hRl : 51 ≤ R.locals) (hk : ∀ (h2 : Nat) (h3 : Nat) (wk : Nat → Int64) (lg : Nat → Int64), (AG n wk (wkP ST b n (n - 1))) → (skM ST n b (n - 1 - (n - 1)) ((n - 1) + 1) = skM ST n b (n - 1) 1) → ∀ (H : Heap) (locs : List Loc) (ls : Array Slot), va_P G.1 vwCl [(h0, .inr (4, [.ref h1, .ref h2, .ref h3, .int (nI n)])), (h1, .inl (G.2 1, 144, .inr (.inl st))), (h2, .inl (G.2 1, 144, .inr (.inl wk))), (h3, .inl (G.2 1, 144, .inr (.inl lg))), (k0, .inr (0, [.ref k1, .int (nI (n + 1))])), (k1, .inl (G.2 1, 169, .inr (.inl ms)))] H → va_D A [(h0, .inr (4, [.ref h1, .ref h2, .ref h3, .int (nI n)])), (h1, .inl (G.2 1, 144, .inr (.inl st))), (h2, .inl (G.2 1, 144, .inr (.inl wk))), (h3, .inl (G.2 1, 144, .inr (.inl lg))), (k0, .inr (0, [.ref k1, .int (nI (n + 1))])), (k1, .inl (G.2 1, 169, .inr (.inl ms)))] → va_S A H0 H locs → lv_has ls 5 [(0, .ref h0), (1, .ref k0), (2, .int b), (3, .int (nI ((n - 1) + 1 + 1)))] → W p l e R s m args below meth c H locs 0 0 Q (F0 m 74 ls [])) (he0 : ∀ (k : Nat) (h2 : Nat) (h3 : Nat) (wk : Nat → Int64) (lg : Nat → Int64), k < n - 1 → (lrM ST n (k + 1) n (oraM ST n b (k + 1)) = skM ST n b (n - 1) 1) → ∀ (H : Heap) (locs : List Loc) (ls : Array Slot), va_P G.1 vwCl [(h0, .inr (4, [.ref h1, .ref h2, .ref h3, .int (nI n)])), (h1, .inl (G.2 1, 144, .inr (.inl st))), (h2, .inl (G.2 1, 144, .inr (.inl wk))), (h3, .inl (G.2 1, 144, .inr (.inl lg))), (k0, .inr (0, [.ref k1, .int (nI (n + 1))])), (k1, .inl (G.2 1, 169, .inr (.inl ms)))] H → va_D A [(h0, .inr (4, [.ref h1, .ref h2, .ref h3, .int (nI n)])), (h1, .inl (G.2 1, 144, .inr (.inl st))), (h2, .inl (G.2 1, 144, .inr (.inl wk))), (h3, .inl (G.2 1, 144, .inr (.inl lg))), (k0, .inr (0, [.ref k1, .int (nI (n + 1))])), (k1, .inl (G.2 1, 169, .inr (.inl ms)))] → va_S A H0 H locs → lv_has ls 5 [(0, .ref h0), (1, .ref k0), (2, .int b), (3, .int (nI (k + 1 + 1))), (4, .int (oraM ST n b (k + 1)))] → W p l e R s m args below meth c H locs 0 0 Q (F0 m 60 ls [])) : ∀ (fu k : Nat)  (h2 : Nat) (h3 : Nat) (wk : Nat → Int64) (lg : Nat → Int64), k ≤ n - 1 → (n - 1) - k < fu → (AG n wk (wkP ST b n k)) → (skM ST n b (n - 1 - k) (k + 1) = skM ST n b (n - 1) 1) → ∀ (H : Heap) (locs : List Loc) (ls : Array Slot), va_P G.1 vwCl [(h0, .inr (4, [.ref h1, .ref h2, .ref h3, .int (nI n)])), (h1, .inl (G.2 1, 144, .inr (.inl st))), (h2, .inl (G.2 1, 144, .inr (.inl wk))), (h3, .inl (G.2 1, 144, .inr (.inl lg))), (k0, .inr (0, [.ref k1, .int (nI (n + 1))])), (k1, .inl (G.2 1, 169, .inr (.inl ms)))] H → va_D A [(h0, .inr (4, [.ref h1, .ref h2, .ref h3, .int (nI n)])), (h1, .inl (G.2 1, 144, .inr (.inl st))), (h2, .inl (G.2 1, 144, .inr (.inl wk))), (h3, .inl (G.2 1, 144, .inr (.inl lg))), (k0, .inr (0, [.ref k1, .int (nI (n + 1))])), (k1, .inl (G.2 1, 169, .inr (.inl ms)))] → va_S A H0 H locs → lv_has ls 5 [(0, .ref h0), (1, .ref k0), (2, .int b), (3, .int (nI (k + 1 + 1)))] → W p l e R s m args below meth c H locs 0 0 Q (F0 m 36 ls []) := by
  obtain ⟨hx, hb, hml, hown, hts, hlocks, hK⟩ := id C
  have hfl_21 := hts (.fieldLink RX4 21 "AfterDesk$QuarrelSeeker" "size" "I") (by decide +kernel)
  have hin_X4 : ∀ w ∈ wsX40, w ∈ wsX4_seek := by decide +kernel
  intro fu
  induction fu with
  | zero =>
    intro k h2 h3 wk lg h1 h2
    exact absurd h2 (by omega)
  | succ fu ih =>
    intro k h2 h3 wk lg hkle hkn  hwk hsk H locs ls hP hD hS hl
    refine lv_iload_n hx hb dX4_seek_36 rfl (lv_at hl 3 rfl) ?_
    refine lv_aload_n hx hb dX4_seek_37 rfl (lv_at hl 0 rfl) ?_
    refine va_get (D := G.1) (ci := 4) (v := .int (nI n)) (C := RX4) (T := TX4) (N := 4) hx hb hts hin_X4 hown hK.1 hP 0 rfl rfl 3 (by decide) hfl_21 (fun _ h9 => h9) rfl dX4_seek_38 ?_
    refine lv_icmp_gt (tgt := 74) hx hb dX4_seek_41 (by decide) (fun c_1 => ?_) (fun c_1 => ?_)
    · -- yes: nI (k + 1 + 1) gt nI n
      have c_1 : n < (k + 1 + 1) := (nI_ltI (a := n) (b := (k + 1 + 1)) (by omega) (by omega)).mp c_1
      have hkN : k = n - 1 := by omega
      subst hkN
      exact hk _ _ _ _ hwk hsk _ _ _ hP hD hS (lv_sub hl [0, 1, 2, 3] rfl)
    · -- no: nI (k + 1 + 1) le nI n
      have c_1 : ¬ n < (k + 1 + 1) := fun z => c_1 ((nI_ltI (a := n) (b := (k + 1 + 1)) (by omega) (by omega)).mpr z)
      refine lv_aload_n hx hb dX4_seek_44 rfl (lv_at hl 0 rfl) ?_
      refine lv_iload_n hx hb dX4_seek_45 rfl (lv_at hl 2 rfl) ?_
      refine xV (S := (Nat → Int64)) (va_runV (As := [.int b]) (rest := []) ⟨hx, hb, hml, hown, hts⟩ (c_X4_lengthenWalks l G h0 h1 h2 h3 st wk lg n b ST (wkP ST b n k) (by first | omega | assumption) (by first | omega | assumption) (by first | omega | assumption)) (cwV 1 hts gX4_seek_X4_lengthenWalks rfl rfl rfl (by decide +kernel) ⟨Nat.le_trans (Nat.le_of_ble_eq_true (m := 2) rfl) hRf, Nat.le_trans (Nat.le_of_ble_eq_true (m := 51) rfl) hRl⟩) (pV [.int b] hK (hP.sub (ws' := [(h0, .inr (4, [.ref h1, .ref h2, .ref h3, .int (nI n)])), (h1, .inl (G.2 1, 144, .inr (.inl st))), (h2, .inl (G.2 1, 144, .inr (.inl wk))), (h3, .inl (G.2 1, 144, .inr (.inl lg)))]) [0, 1, 2, 3] rfl) (hD.sub (ws' := [(h0, .inr (4, [.ref h1, .ref h2, .ref h3, .int (nI n)])), (h1, .inl (G.2 1, 144, .inr (.inl st))), (h2, .inl (G.2 1, 144, .inr (.inl wk))), (h3, .inl (G.2 1, 144, .inr (.inl lg)))]) [0, 1, 2, 3] (by decide) rfl) (ci := 4) (q0 := 0) rfl rfl) rfl rfl hl.1 rfl (lv_room (Nat.le_of_ble_eq_true rfl)) dX4_seek_46 ⟨Nat.zero_le _, Nat.zero_le _⟩) hP hD hS [0, 1, 2, 3] [4, 5] (wr := [(k0, .inr (0, [.ref k1, .int (nI (n + 1))])), (k1, .inl (G.2 1, 169, .inr (.inl ms)))]) rfl rfl (by decide) (by decide) [2, 3, 4, 5, 0, 1] (w2 := fun (u_4 : (Nat → Int64)) => [(h0, .inr (4, [.ref h1, .ref h3, .ref h2, .int (nI n)])), (h1, .inl (G.2 1, 144, .inr (.inl st))), (h3, .inl (G.2 1, 144, .inr (.inl u_4))), (h2, .inl (G.2 1, 144, .inr (.inl wk))), (k0, .inr (0, [.ref k1, .int (nI (n + 1))])), (k1, .inl (G.2 1, 169, .inr (.inl ms)))]) (fun _ => rfl) (by decide) (fun u_4 H locs hw_5 hP hD hS => ?_)
      obtain ⟨wkv_2, rfl⟩ : ∃ z, z = u_4 := ⟨_, rfl⟩
      obtain hp_6 := hw_5
      have hP : va_P G.1 vwCl [(h0, .inr (4, [.ref h1, .ref h3, .ref h2, .int (nI n)])), (h1, .inl (G.2 1, 144, .inr (.inl st))), (h3, .inl (G.2 1, 144, .inr (.inl wkv_2))), (h2, .inl (G.2 1, 144, .inr (.inl wk))), (k0, .inr (0, [.ref k1, .int (nI (n + 1))])), (k1, .inl (G.2 1, 169, .inr (.inl ms)))] H := hP
      have hD : va_D A [(h0, .inr (4, [.ref h1, .ref h3, .ref h2, .int (nI n)])), (h1, .inl (G.2 1, 144, .inr (.inl st))), (h3, .inl (G.2 1, 144, .inr (.inl wkv_2))), (h2, .inl (G.2 1, 144, .inr (.inl wk))), (k0, .inr (0, [.ref k1, .int (nI (n + 1))])), (k1, .inl (G.2 1, 169, .inr (.inl ms)))] := hD
      refine lv_aload_n hx hb dX4_seek_49 rfl (lv_at hl 0 rfl) ?_
      refine xI (S := Unit) (va_runV (As := []) (rest := []) ⟨hx, hb, hml, hown, hts⟩ (c_X4_startsBelowZero l G h0 h1 h3 h2 st wkv_2 wk n (wkP ST b n (k + 1)) (by first | omega | assumption) (by first | omega | assumption)) (cwV 0 hts gX4_seek_X4_startsBelowZero rfl rfl rfl (by decide +kernel) ⟨Nat.le_trans (Nat.le_of_ble_eq_true (m := 2) rfl) hRf, Nat.le_trans (Nat.le_of_ble_eq_true (m := 51) rfl) hRl⟩) (pV [] hK (hP.sub (ws' := [(h0, .inr (4, [.ref h1, .ref h3, .ref h2, .int (nI n)])), (h1, .inl (G.2 1, 144, .inr (.inl st))), (h3, .inl (G.2 1, 144, .inr (.inl wkv_2))), (h2, .inl (G.2 1, 144, .inr (.inl wk)))]) [0, 1, 2, 3] rfl) (hD.sub (ws' := [(h0, .inr (4, [.ref h1, .ref h3, .ref h2, .int (nI n)])), (h1, .inl (G.2 1, 144, .inr (.inl st))), (h3, .inl (G.2 1, 144, .inr (.inl wkv_2))), (h2, .inl (G.2 1, 144, .inr (.inl wk)))]) [0, 1, 2, 3] (by decide) rfl) (ci := 4) (q0 := 0) rfl rfl) rfl rfl hl.1 rfl (lv_room (Nat.le_of_ble_eq_true rfl)) dX4_seek_50 ⟨Nat.zero_le _, Nat.zero_le _⟩) hP hD hS [0, 1, 2, 3] [4, 5] (wr := [(k0, .inr (0, [.ref k1, .int (nI (n + 1))])), (k1, .inl (G.2 1, 169, .inr (.inl ms)))]) rfl rfl (by decide) (by decide) [2, 3, 4, 5, 0, 1] (w2 := fun (_ : Unit) => [(h0, .inr (4, [.ref h1, .ref h3, .ref h2, .int (nI n)])), (h1, .inl (G.2 1, 144, .inr (.inl st))), (h3, .inl (G.2 1, 144, .inr (.inl wkv_2))), (h2, .inl (G.2 1, 144, .inr (.inl wk))), (k0, .inr (0, [.ref k1, .int (nI (n + 1))])), (k1, .inl (G.2 1, 169, .inr (.inl ms)))]) (fun _ => rfl) (by decide) (fun r_7 u_8 H locs hw_9 hP hD hS => ?_)
      (try dsimp only at hw_9); subst hw_9
      have hP : va_P G.1 vwCl [(h0, .inr (4, [.ref h1, .ref h3, .ref h2, .int (nI n)])), (h1, .inl (G.2 1, 144, .inr (.inl st))), (h3, .inl (G.2 1, 144, .inr (.inl wkv_2))), (h2, .inl (G.2 1, 144, .inr (.inl wk))), (k0, .inr (0, [.ref k1, .int (nI (n + 1))])), (k1, .inl (G.2 1, 169, .inr (.inl ms)))] H := hP
      have hD : va_D A [(h0, .inr (4, [.ref h1, .ref h3, .ref h2, .int (nI n)])), (h1, .inl (G.2 1, 144, .inr (.inl st))), (h3, .inl (G.2 1, 144, .inr (.inl wkv_2))), (h2, .inl (G.2 1, 144, .inr (.inl wk))), (k0, .inr (0, [.ref k1, .int (nI (n + 1))])), (k1, .inl (G.2 1, 169, .inr (.inl ms)))] := hD
      refine nmI ((show _ = oraM ST n b (k + 1) from rfl)) ?_
      refine lv_istore (lv' := [(4, .int (oraM ST n b (k + 1))), (0, .ref h0), (1, .ref k0), (2, .int b), (3, .int (nI (k + 1 + 1)))]) hx hb dX4_seek_53 hl (by decide) rfl (fun ls hl => ?_)
      refine lv_iload hx hb dX4_seek_55 (lv_at hl 0 rfl) ?_
      refine lv_if_eq (tgt := 68) hx hb dX4_seek_57 (by decide) (fun c_10 => ?_) (fun c_10 => ?_)
      · -- yes: oraM ST n b (k + 1) eq 0
        refine lv_iinc (v := nI ((k + 1 + 1) + 1)) (lv' := [(3, .int (nI ((k + 1 + 1) + 1))), (4, .int (oraM ST n b (k + 1))), (0, .ref h0), (1, .ref k0), (2, .int b)]) hx hb dX4_seek_68 hl (k := 4) rfl (nI_inc _) (by decide) rfl (fun ls hl => ?_)
        refine lv_goto (tgt := 36) hx hb dX4_seek_71 (by decide) ?_
        exact ih (k + 1) h3 h2 wkv_2 wk (by omega) (by omega)  (by assumption) (by rw [show n - 1 - k = (n - 1 - (k + 1)) + 1 by omega, skM_s, if_pos c_10] at hsk; exact hsk) _ _ _ hP hD hS (lv_sub hl [2, 3, 4, 0] rfl)
      · -- no: oraM ST n b (k + 1) ne 0
        exact he0 k h3 h2 wkv_2 wk (by omega)  (by rw [show n - 1 - k = (n - 1 - (k + 1)) + 1 by omega, skM_s, if_neg c_10] at hsk; exact hsk) _ _ _ hP hD hS (lv_sub hl [1, 2, 3, 4, 0] rfl)

set_option maxHeartbeats 4000000 in
set_option maxRecDepth 100000 in
theorem c_X4_seek (l : Launch) (G : gT) (h0 : Nat) (h1 : Nat) (h2 : Nat) (h3 : Nat) (st : Nat → Int64) (wk : Nat → Int64) (lg : Nat → Int64) (sz : Int32) (k0 : Nat) (k1 : Nat) (ms : Nat → Int64) (n : Nat) (hn : n ≤ 12) : Met l yX4_seek wsX4_seek ({ frames := 5, cells := 0, slots := 0, locals := 116 }) (cPre G [.ref h0, .ref k0] [(h0, .inr (4, [.ref h1, .ref h2, .ref h3, .int sz])), (h1, .inl (G.2 1, 144, .inr (.inl st))), (h2, .inl (G.2 1, 144, .inr (.inl wk))), (h3, .inl (G.2 1, 144, .inr (.inl lg))), (k0, .inr (0, [.ref k1, .int (nI (n + 1))])), (k1, .inl (G.2 1, 169, .inr (.inl ms)))]) (va_Qi (fun (rv : Int32) (u : Nat × Nat × (Nat → Int64) × (Nat → Int64) × (Nat → Int64)) => rv = skM (stM ms) n (allB n) (n - 1) 1) (cW G [(h0, .inr (4, [.ref h1, .ref h2, .ref h3, .int sz])), (h1, .inl (G.2 1, 144, .inr (.inl st))), (h2, .inl (G.2 1, 144, .inr (.inl wk))), (h3, .inl (G.2 1, 144, .inr (.inl lg))), (k0, .inr (0, [.ref k1, .int (nI (n + 1))])), (k1, .inl (G.2 1, 169, .inr (.inl ms)))] (fun (u : Nat × Nat × (Nat → Int64) × (Nat → Int64) × (Nat → Int64)) => [(h0, .inr (4, [.ref h1, .ref u.1, .ref u.2.1, .int (nI n)])), (h1, .inl (G.2 1, 144, .inr (.inl u.2.2.1))), (u.1, .inl (G.2 1, 144, .inr (.inl u.2.2.2.1))), (u.2.1, .inl (G.2 1, 144, .inr (.inl u.2.2.2.2))), (k0, .inr (0, [.ref k1, .int (nI (n + 1))])), (k1, .inl (G.2 1, 169, .inr (.inl ms)))])) (pB [(h0, .inr (4, [.ref h1, .ref h2, .ref h3, .int sz])), (h1, .inl (G.2 1, 144, .inr (.inl st))), (h2, .inl (G.2 1, 144, .inr (.inl wk))), (h3, .inl (G.2 1, 144, .inr (.inl lg))), (k0, .inr (0, [.ref k1, .int (nI (n + 1))])), (k1, .inl (G.2 1, 169, .inr (.inl ms)))])) 0 0 (pB [(h0, .inr (4, [.ref h1, .ref h2, .ref h3, .int sz])), (h1, .inl (G.2 1, 144, .inr (.inl st))), (h2, .inl (G.2 1, 144, .inr (.inl wk))), (h3, .inl (G.2 1, 144, .inr (.inl lg))), (k0, .inr (0, [.ref k1, .int (nI (n + 1))])), (k1, .inl (G.2 1, 169, .inr (.inl ms)))]) := by
  refine ofCX (G := G) (cc := cX4_seek) (maxL := 5) (ret := (some .int)) (by decide) rfl (Nat.le_of_ble_eq_true rfl) ?_
  intro p e s m below meth c ls C hr hin hD hP hl
  obtain ⟨hx, hb, hml, hown, hts, hlocks, hK⟩ := id C
  have hown : s.vm.findClass RX4 = some m.cls := hown
  have hml_31 := hts (.methodLink RX4 31 Lib.Math.min.name) (by decide +kernel)
  have hms_min := hts (.static Lib.Math.min.name) (by decide +kernel)
  have hmi := hts (.initialized "java/lang/Math") (by decide +kernel)
  have hmc_min := hts (.code Lib.Math.min.name Lib.Math.min.code 2 (some .int)) (by decide +kernel)
  have hfl_21 := hts (.fieldLink RX4 21 "AfterDesk$QuarrelSeeker" "size" "I") (by decide +kernel)
  have hin_X4 : ∀ w ∈ wsX40, w ∈ wsX4_seek := by decide +kernel
  generalize hAe : pB [(h0, .inr (4, [.ref h1, .ref h2, .ref h3, .int sz])), (h1, .inl (G.2 1, 144, .inr (.inl st))), (h2, .inl (G.2 1, 144, .inr (.inl wk))), (h3, .inl (G.2 1, 144, .inr (.inl lg))), (k0, .inr (0, [.ref k1, .int (nI (n + 1))])), (k1, .inl (G.2 1, 169, .inr (.inl ms)))] = A at hD ⊢
  have hS : va_S A s.heap s.heap [] := va_S.rf
  have hP : va_P G.1 vwCl [(h0, .inr (4, [.ref h1, .ref h2, .ref h3, .int sz])), (h1, .inl (G.2 1, 144, .inr (.inl st))), (h2, .inl (G.2 1, 144, .inr (.inl wk))), (h3, .inl (G.2 1, 144, .inr (.inl lg))), (k0, .inr (0, [.ref k1, .int (nI (n + 1))])), (k1, .inl (G.2 1, 169, .inr (.inl ms)))] s.heap := hP
  have hD : va_D A [(h0, .inr (4, [.ref h1, .ref h2, .ref h3, .int sz])), (h1, .inl (G.2 1, 144, .inr (.inl st))), (h2, .inl (G.2 1, 144, .inr (.inl wk))), (h3, .inl (G.2 1, 144, .inr (.inl lg))), (k0, .inr (0, [.ref k1, .int (nI (n + 1))])), (k1, .inl (G.2 1, 169, .inr (.inl ms)))] := hD
  have hl : lv_has ls 5 [(0, .ref h0), (1, .ref k0)] := hl
  refine lv_aload_n hx hb dX4_seek_0 rfl (lv_at hl 0 rfl) ?_
  refine lv_aload_n hx hb dX4_seek_1 rfl (lv_at hl 1 rfl) ?_
  refine xI (S := Unit) (va_runV (As := []) (rest := [.ref h0]) ⟨hx, hb, hml, hown, hts⟩ (c_X0_nodes l G k0 k1 ms (nI (n + 1))) (cwV 0 hts gX4_seek_X0_nodes rfl rfl rfl (by decide +kernel) ⟨Nat.le_of_ble_eq_true rfl, Nat.le_of_ble_eq_true rfl⟩) (pV [] hK (hP.sub (ws' := [(k0, .inr (0, [.ref k1, .int (nI (n + 1))])), (k1, .inl (G.2 1, 169, .inr (.inl ms)))]) [4, 5] rfl) (hD.sub (ws' := [(k0, .inr (0, [.ref k1, .int (nI (n + 1))])), (k1, .inl (G.2 1, 169, .inr (.inl ms)))]) [4, 5] (by decide) rfl) (ci := 0) (q0 := 0) rfl rfl) rfl rfl hl.1 rfl (lv_room (Nat.le_of_ble_eq_true rfl)) dX4_seek_2 ⟨Nat.zero_le _, Nat.zero_le _⟩) hP hD hS [4, 5] [0, 1, 2, 3] (wr := [(h0, .inr (4, [.ref h1, .ref h2, .ref h3, .int sz])), (h1, .inl (G.2 1, 144, .inr (.inl st))), (h2, .inl (G.2 1, 144, .inr (.inl wk))), (h3, .inl (G.2 1, 144, .inr (.inl lg)))]) rfl rfl (by decide) (by decide) [0, 1, 2, 3, 4, 5] (w2 := fun (_ : Unit) => [(h0, .inr (4, [.ref h1, .ref h2, .ref h3, .int sz])), (h1, .inl (G.2 1, 144, .inr (.inl st))), (h2, .inl (G.2 1, 144, .inr (.inl wk))), (h3, .inl (G.2 1, 144, .inr (.inl lg))), (k0, .inr (0, [.ref k1, .int (nI (n + 1))])), (k1, .inl (G.2 1, 169, .inr (.inl ms)))]) (fun _ => rfl) (by decide) (fun r_1 u_2 H locs hw_3 hP hD hS => ?_)
  (try dsimp only at hw_3); subst hw_3
  have hP : va_P G.1 vwCl [(h0, .inr (4, [.ref h1, .ref h2, .ref h3, .int sz])), (h1, .inl (G.2 1, 144, .inr (.inl st))), (h2, .inl (G.2 1, 144, .inr (.inl wk))), (h3, .inl (G.2 1, 144, .inr (.inl lg))), (k0, .inr (0, [.ref k1, .int (nI (n + 1))])), (k1, .inl (G.2 1, 169, .inr (.inl ms)))] H := hP
  have hD : va_D A [(h0, .inr (4, [.ref h1, .ref h2, .ref h3, .int sz])), (h1, .inl (G.2 1, 144, .inr (.inl st))), (h2, .inl (G.2 1, 144, .inr (.inl wk))), (h3, .inl (G.2 1, 144, .inr (.inl lg))), (k0, .inr (0, [.ref k1, .int (nI (n + 1))])), (k1, .inl (G.2 1, 169, .inr (.inl ms)))] := hD
  refine lv_iconst (v := 1) hx hb dX4_seek_5 (by decide) ?_
  refine lv_isub hx hb dX4_seek_6 ?_
  refine nmI (nI_pred n) ?_
  refine lv_bipush (v := 12) hx hb dX4_seek_7 (by decide) ?_
  refine va_mmin hx hb (hml.trans hl.1.symm) hown hml_31 hms_min hmi hmc_min (Nat.le_of_ble_eq_true rfl) (Nat.le_of_ble_eq_true rfl) (Nat.zero_le _) (Nat.zero_le _) dX4_seek_9 ?_
  refine nmI (mmz n (by omega)) ?_
  refine va_put (D := G.1) (ci := 4) (v := .int (nI n)) (ty := .int) (C := RX4) (T := TX4) (N := 4) hx hb hts hin_X4 tyX4 tyX4_ok nmX4 hown hK.1 hP hD hS 0 rfl rfl 3 (by decide) hfl_21 (fun _ h9 => h9) rfl (by decide +kernel) rfl rfl (Nat.le_of_ble_eq_true rfl) dX4_seek_12 (fun H locs hP hD hS => ?_)
  have hP : va_P G.1 vwCl [(h0, .inr (4, [.ref h1, .ref h2, .ref h3, .int (nI n)])), (h1, .inl (G.2 1, 144, .inr (.inl st))), (h2, .inl (G.2 1, 144, .inr (.inl wk))), (h3, .inl (G.2 1, 144, .inr (.inl lg))), (k0, .inr (0, [.ref k1, .int (nI (n + 1))])), (k1, .inl (G.2 1, 169, .inr (.inl ms)))] H := hP
  have hD : va_D A [(h0, .inr (4, [.ref h1, .ref h2, .ref h3, .int (nI n)])), (h1, .inl (G.2 1, 144, .inr (.inl st))), (h2, .inl (G.2 1, 144, .inr (.inl wk))), (h3, .inl (G.2 1, 144, .inr (.inl lg))), (k0, .inr (0, [.ref k1, .int (nI (n + 1))])), (k1, .inl (G.2 1, 169, .inr (.inl ms)))] := hD
  refine lv_aload_n hx hb dX4_seek_15 rfl (lv_at hl 0 rfl) ?_
  refine lv_aload_n hx hb dX4_seek_16 rfl (lv_at hl 1 rfl) ?_
  refine xV (S := (Nat → Int64)) (va_runV (As := [.ref k0]) (rest := []) ⟨hx, hb, hml, hown, hts⟩ (c_X4_takeSteps l G h0 h1 h2 h3 st wk lg n k0 k1 ms (n + 1) (by first | omega | assumption) (by first | omega | assumption) (by first | omega | assumption)) (cwV 1 hts gX4_seek_X4_takeSteps rfl rfl rfl (by decide +kernel) ⟨Nat.le_of_ble_eq_true rfl, Nat.le_of_ble_eq_true rfl⟩) (pV [.ref k0] hK (hP.sub (ws' := [(h0, .inr (4, [.ref h1, .ref h2, .ref h3, .int (nI n)])), (h1, .inl (G.2 1, 144, .inr (.inl st))), (h2, .inl (G.2 1, 144, .inr (.inl wk))), (h3, .inl (G.2 1, 144, .inr (.inl lg))), (k0, .inr (0, [.ref k1, .int (nI (n + 1))])), (k1, .inl (G.2 1, 169, .inr (.inl ms)))]) [0, 1, 2, 3, 4, 5] rfl) (hD.sub (ws' := [(h0, .inr (4, [.ref h1, .ref h2, .ref h3, .int (nI n)])), (h1, .inl (G.2 1, 144, .inr (.inl st))), (h2, .inl (G.2 1, 144, .inr (.inl wk))), (h3, .inl (G.2 1, 144, .inr (.inl lg))), (k0, .inr (0, [.ref k1, .int (nI (n + 1))])), (k1, .inl (G.2 1, 169, .inr (.inl ms)))]) [0, 1, 2, 3, 4, 5] (by decide) rfl) (ci := 4) (q0 := 0) rfl rfl) rfl rfl hl.1 rfl (lv_room (Nat.le_of_ble_eq_true rfl)) dX4_seek_17 ⟨Nat.zero_le _, Nat.zero_le _⟩) hP hD hS [0, 1, 2, 3, 4, 5] [] (wr := []) rfl rfl (by decide) (by decide) [0, 1, 2, 3, 4, 5] (w2 := fun (u_6 : (Nat → Int64)) => [(h0, .inr (4, [.ref h1, .ref h2, .ref h3, .int (nI n)])), (h1, .inl (G.2 1, 144, .inr (.inl u_6))), (h2, .inl (G.2 1, 144, .inr (.inl wk))), (h3, .inl (G.2 1, 144, .inr (.inl lg))), (k0, .inr (0, [.ref k1, .int (nI (n + 1))])), (k1, .inl (G.2 1, 169, .inr (.inl ms)))]) (fun _ => rfl) (by decide) (fun u_6 H locs hw_7 hP hD hS => ?_)
  obtain ⟨stv_4, rfl⟩ : ∃ z, z = u_6 := ⟨_, rfl⟩
  obtain hp_8 := hw_7
  have hP : va_P G.1 vwCl [(h0, .inr (4, [.ref h1, .ref h2, .ref h3, .int (nI n)])), (h1, .inl (G.2 1, 144, .inr (.inl stv_4))), (h2, .inl (G.2 1, 144, .inr (.inl wk))), (h3, .inl (G.2 1, 144, .inr (.inl lg))), (k0, .inr (0, [.ref k1, .int (nI (n + 1))])), (k1, .inl (G.2 1, 169, .inr (.inl ms)))] H := hP
  have hD : va_D A [(h0, .inr (4, [.ref h1, .ref h2, .ref h3, .int (nI n)])), (h1, .inl (G.2 1, 144, .inr (.inl stv_4))), (h2, .inl (G.2 1, 144, .inr (.inl wk))), (h3, .inl (G.2 1, 144, .inr (.inl lg))), (k0, .inr (0, [.ref k1, .int (nI (n + 1))])), (k1, .inl (G.2 1, 169, .inr (.inl ms)))] := hD
  refine lv_iconst (v := 1) hx hb dX4_seek_20 (by decide) ?_
  refine lv_aload_n hx hb dX4_seek_21 rfl (lv_at hl 0 rfl) ?_
  refine va_get (D := G.1) (ci := 4) (v := .int (nI n)) (C := RX4) (T := TX4) (N := 4) hx hb hts hin_X4 hown hK.1 hP 0 rfl rfl 3 (by decide) hfl_21 (fun _ h9 => h9) rfl dX4_seek_22 ?_
  refine lv_ishl hx hb dX4_seek_25 ?_
  refine lv_iconst (v := 1) hx hb dX4_seek_26 (by decide) ?_
  refine lv_isub hx hb dX4_seek_27 ?_
  refine nmI ((show _ = allB n from rfl)) ?_
  refine lv_istore_n (lv' := [(2, .int (allB n)), (0, .ref h0), (1, .ref k0)]) hx hb dX4_seek_28 rfl hl (by decide) rfl (fun ls hl => ?_)
  refine lv_aload_n hx hb dX4_seek_29 rfl (lv_at hl 1 rfl) ?_
  refine lv_iload_n hx hb dX4_seek_30 rfl (lv_at hl 0 rfl) ?_
  refine xV (S := (Nat → Int64)) (va_runV (As := [.int (allB n)]) (rest := []) ⟨hx, hb, hml, hown, hts⟩ (c_X4_startWalks l G h0 h1 h2 h3 stv_4 wk lg n (allB n) (stM ms) (by first | omega | assumption) (by first | omega | assumption)) (cwV 1 hts gX4_seek_X4_startWalks rfl rfl rfl (by decide +kernel) ⟨Nat.le_of_ble_eq_true rfl, Nat.le_of_ble_eq_true rfl⟩) (pV [.int (allB n)] hK (hP.sub (ws' := [(h0, .inr (4, [.ref h1, .ref h2, .ref h3, .int (nI n)])), (h1, .inl (G.2 1, 144, .inr (.inl stv_4))), (h2, .inl (G.2 1, 144, .inr (.inl wk))), (h3, .inl (G.2 1, 144, .inr (.inl lg)))]) [0, 1, 2, 3] rfl) (hD.sub (ws' := [(h0, .inr (4, [.ref h1, .ref h2, .ref h3, .int (nI n)])), (h1, .inl (G.2 1, 144, .inr (.inl stv_4))), (h2, .inl (G.2 1, 144, .inr (.inl wk))), (h3, .inl (G.2 1, 144, .inr (.inl lg)))]) [0, 1, 2, 3] (by decide) rfl) (ci := 4) (q0 := 0) rfl rfl) rfl rfl hl.1 rfl (lv_room (Nat.le_of_ble_eq_true rfl)) dX4_seek_31 ⟨Nat.zero_le _, Nat.zero_le _⟩) hP hD hS [0, 1, 2, 3] [4, 5] (wr := [(k0, .inr (0, [.ref k1, .int (nI (n + 1))])), (k1, .inl (G.2 1, 169, .inr (.inl ms)))]) rfl rfl (by decide) (by decide) [2, 3, 4, 5, 0, 1] (w2 := fun (u_11 : (Nat → Int64)) => [(h0, .inr (4, [.ref h1, .ref h2, .ref h3, .int (nI n)])), (h1, .inl (G.2 1, 144, .inr (.inl stv_4))), (h2, .inl (G.2 1, 144, .inr (.inl u_11))), (h3, .inl (G.2 1, 144, .inr (.inl lg))), (k0, .inr (0, [.ref k1, .int (nI (n + 1))])), (k1, .inl (G.2 1, 169, .inr (.inl ms)))]) (fun _ => rfl) (by decide) (fun u_11 H locs hw_12 hP hD hS => ?_)
  obtain ⟨wkv_9, rfl⟩ : ∃ z, z = u_11 := ⟨_, rfl⟩
  obtain hp_13 := hw_12
  have hP : va_P G.1 vwCl [(h0, .inr (4, [.ref h1, .ref h2, .ref h3, .int (nI n)])), (h1, .inl (G.2 1, 144, .inr (.inl stv_4))), (h2, .inl (G.2 1, 144, .inr (.inl wkv_9))), (h3, .inl (G.2 1, 144, .inr (.inl lg))), (k0, .inr (0, [.ref k1, .int (nI (n + 1))])), (k1, .inl (G.2 1, 169, .inr (.inl ms)))] H := hP
  have hD : va_D A [(h0, .inr (4, [.ref h1, .ref h2, .ref h3, .int (nI n)])), (h1, .inl (G.2 1, 144, .inr (.inl stv_4))), (h2, .inl (G.2 1, 144, .inr (.inl wkv_9))), (h3, .inl (G.2 1, 144, .inr (.inl lg))), (k0, .inr (0, [.ref k1, .int (nI (n + 1))])), (k1, .inl (G.2 1, 169, .inr (.inl ms)))] := hD
  refine lv_iconst (v := 2) hx hb dX4_seek_34 (by decide) ?_
  refine lv_istore_n (lv' := [(3, .int 2), (2, .int (allB n)), (0, .ref h0), (1, .ref k0)]) hx hb dX4_seek_35 rfl hl (by decide) rfl (fun ls hl => ?_)
  refine lp_X4_seek_36 C h0 h1 stv_4 n k0 k1 ms (allB n) (stM ms) (by first | omega | assumption) (by first | omega | assumption) (Nat.le_of_ble_eq_true rfl) (Nat.le_of_ble_eq_true rfl) (fun hz_14 hz_15 wkz_16 lgz_17 hwk hsk H locs ls hP hD hS hl => ?_) (fun kq hz_18 hz_19 wkz_20 lgz_21 hlt  hres H locs ls hP hD hS hl => ?_) ((n - 1) + 1) 0 h2 h3 wkv_9 lg (by omega) (by omega)  (by assumption) (by rfl) _ _ _ hP hD hS (lv_sub hl [2, 3, 1, 0] rfl)
  · -- loop lp_X4_seek_36, end 0
    have hP : va_P G.1 vwCl [(h0, .inr (4, [.ref h1, .ref hz_14, .ref hz_15, .int (nI n)])), (h1, .inl (G.2 1, 144, .inr (.inl stv_4))), (hz_14, .inl (G.2 1, 144, .inr (.inl wkz_16))), (hz_15, .inl (G.2 1, 144, .inr (.inl lgz_17))), (k0, .inr (0, [.ref k1, .int (nI (n + 1))])), (k1, .inl (G.2 1, 169, .inr (.inl ms)))] H := hP
    have hD : va_D A [(h0, .inr (4, [.ref h1, .ref hz_14, .ref hz_15, .int (nI n)])), (h1, .inl (G.2 1, 144, .inr (.inl stv_4))), (hz_14, .inl (G.2 1, 144, .inr (.inl wkz_16))), (hz_15, .inl (G.2 1, 144, .inr (.inl lgz_17))), (k0, .inr (0, [.ref k1, .int (nI (n + 1))])), (k1, .inl (G.2 1, 169, .inr (.inl ms)))] := hD
    refine lv_iconst (v := 0) hx hb dX4_seek_74 (by decide) ?_
    exact rtI C hr hAe (u := (hz_14, hz_15, stv_4, wkz_16, lgz_17)) hP hD hS dX4_seek_75 (by rw [show n - 1 - (n - 1) = 0 by omega] at hsk; exact hsk)
  · -- loop lp_X4_seek_36, end 1
    have hP : va_P G.1 vwCl [(h0, .inr (4, [.ref h1, .ref hz_18, .ref hz_19, .int (nI n)])), (h1, .inl (G.2 1, 144, .inr (.inl stv_4))), (hz_18, .inl (G.2 1, 144, .inr (.inl wkz_20))), (hz_19, .inl (G.2 1, 144, .inr (.inl lgz_21))), (k0, .inr (0, [.ref k1, .int (nI (n + 1))])), (k1, .inl (G.2 1, 169, .inr (.inl ms)))] H := hP
    have hD : va_D A [(h0, .inr (4, [.ref h1, .ref hz_18, .ref hz_19, .int (nI n)])), (h1, .inl (G.2 1, 144, .inr (.inl stv_4))), (hz_18, .inl (G.2 1, 144, .inr (.inl wkz_20))), (hz_19, .inl (G.2 1, 144, .inr (.inl lgz_21))), (k0, .inr (0, [.ref k1, .int (nI (n + 1))])), (k1, .inl (G.2 1, 169, .inr (.inl ms)))] := hD
    refine lv_aload_n hx hb dX4_seek_60 rfl (lv_at hl 0 rfl) ?_
    refine lv_iload hx hb dX4_seek_61 (lv_at hl 4 rfl) ?_
    refine lv_iload_n hx hb dX4_seek_63 rfl (lv_at hl 3 rfl) ?_
    refine xI (S := Nat × Nat × (Nat → Int64) × (Nat → Int64)) (va_runV (As := [.int (oraM (stM ms) n (allB n) (kq + 1)), .int (nI (kq + 1 + 1))]) (rest := []) ⟨hx, hb, hml, hown, hts⟩ (c_X4_leastRing l G h0 h1 hz_18 hz_19 stv_4 wkz_20 lgz_21 n (oraM (stM ms) n (allB n) (kq + 1)) (kq + 1) (stM ms) (by first | omega | assumption) (by first | omega | assumption) (by first | omega | assumption)) (cwV 2 hts gX4_seek_X4_leastRing rfl rfl rfl (by decide +kernel) ⟨Nat.le_of_ble_eq_true rfl, Nat.le_of_ble_eq_true rfl⟩) (pV [.int (oraM (stM ms) n (allB n) (kq + 1)), .int (nI (kq + 1 + 1))] hK (hP.sub (ws' := [(h0, .inr (4, [.ref h1, .ref hz_18, .ref hz_19, .int (nI n)])), (h1, .inl (G.2 1, 144, .inr (.inl stv_4))), (hz_18, .inl (G.2 1, 144, .inr (.inl wkz_20))), (hz_19, .inl (G.2 1, 144, .inr (.inl lgz_21)))]) [0, 1, 2, 3] rfl) (hD.sub (ws' := [(h0, .inr (4, [.ref h1, .ref hz_18, .ref hz_19, .int (nI n)])), (h1, .inl (G.2 1, 144, .inr (.inl stv_4))), (hz_18, .inl (G.2 1, 144, .inr (.inl wkz_20))), (hz_19, .inl (G.2 1, 144, .inr (.inl lgz_21)))]) [0, 1, 2, 3] (by decide) rfl) (ci := 4) (q0 := 0) rfl rfl) rfl rfl hl.1 rfl (lv_room (Nat.le_of_ble_eq_true rfl)) dX4_seek_64 ⟨Nat.zero_le _, Nat.zero_le _⟩) hP hD hS [0, 1, 2, 3] [4, 5] (wr := [(k0, .inr (0, [.ref k1, .int (nI (n + 1))])), (k1, .inl (G.2 1, 169, .inr (.inl ms)))]) rfl rfl (by decide) (by decide) [2, 3, 4, 5, 0, 1] (w2 := fun (u_27 : Nat × Nat × (Nat → Int64) × (Nat → Int64)) => [(h0, .inr (4, [.ref h1, .ref u_27.1, .ref u_27.2.1, .int (nI n)])), (h1, .inl (G.2 1, 144, .inr (.inl stv_4))), (u_27.1, .inl (G.2 1, 144, .inr (.inl u_27.2.2.1))), (u_27.2.1, .inl (G.2 1, 144, .inr (.inl u_27.2.2.2))), (k0, .inr (0, [.ref k1, .int (nI (n + 1))])), (k1, .inl (G.2 1, 169, .inr (.inl ms)))]) (fun _ => rfl) (by decide) (fun r_26 u_27 H locs hw_28 hP hD hS => ?_)
    obtain ⟨qv_22, qv_23, wkv_24, lgv_25⟩ := u_27
    (try dsimp only at hw_28); subst hw_28
    have hP : va_P G.1 vwCl [(h0, .inr (4, [.ref h1, .ref qv_22, .ref qv_23, .int (nI n)])), (h1, .inl (G.2 1, 144, .inr (.inl stv_4))), (qv_22, .inl (G.2 1, 144, .inr (.inl wkv_24))), (qv_23, .inl (G.2 1, 144, .inr (.inl lgv_25))), (k0, .inr (0, [.ref k1, .int (nI (n + 1))])), (k1, .inl (G.2 1, 169, .inr (.inl ms)))] H := hP
    have hD : va_D A [(h0, .inr (4, [.ref h1, .ref qv_22, .ref qv_23, .int (nI n)])), (h1, .inl (G.2 1, 144, .inr (.inl stv_4))), (qv_22, .inl (G.2 1, 144, .inr (.inl wkv_24))), (qv_23, .inl (G.2 1, 144, .inr (.inl lgv_25))), (k0, .inr (0, [.ref k1, .int (nI (n + 1))])), (k1, .inl (G.2 1, 169, .inr (.inl ms)))] := hD
    exact rtI C hr hAe (u := (qv_22, qv_23, stv_4, wkv_24, lgv_25)) hP hD hS dX4_seek_67 (by exact hres)
