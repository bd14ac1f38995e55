set_option maxHeartbeats 4000000 in
set_option maxRecDepth 100000 in
theorem c_X4_stepOverZero (l : Launch) (G : gT) (h0 : Nat) (h1 : Nat) (h2 : Nat) (h3 : Nat) (st : Nat → Int64) (wk : Nat → Int64) (lg : Nat → Int64) (n : Nat) (k0 : Nat) (k1 : Nat) (ms : Nat → Int64) (N : Nat) (i : Nat) (j : Nat) (hN : N ≤ 13) (hi : i + 1 < N) (hj : j + 1 < N) : Met l yX4_stepOverZero wsX4_stepOverZero ({ frames := 3, cells := 0, slots := 0, locals := 66 }) (cPre G [.ref h0, .ref k0, .int (nI i), .int (nI j)] [(h0, .inr (4, [.ref h1, .ref h2, .ref h3, .int (nI n)])), (h1, .inl (G.2 1, 144, .inr (.inl st))), (h2, .inl (G.2 1, 144, .inr (.inl wk))), (h3, .inl (G.2 1, 144, .inr (.inl lg))), (k0, .inr (0, [.ref k1, .int (nI N)])), (k1, .inl (G.2 1, 169, .inr (.inl ms)))]) (va_Ql (fun (rv : Int64) (_u : Unit) => rv = stO ms i j) (cW G [(h0, .inr (4, [.ref h1, .ref h2, .ref h3, .int (nI n)])), (h1, .inl (G.2 1, 144, .inr (.inl st))), (h2, .inl (G.2 1, 144, .inr (.inl wk))), (h3, .inl (G.2 1, 144, .inr (.inl lg))), (k0, .inr (0, [.ref k1, .int (nI N)])), (k1, .inl (G.2 1, 169, .inr (.inl ms)))] (fun (_u : Unit) => [(h0, .inr (4, [.ref h1, .ref h2, .ref h3, .int (nI n)])), (h1, .inl (G.2 1, 144, .inr (.inl st))), (h2, .inl (G.2 1, 144, .inr (.inl wk))), (h3, .inl (G.2 1, 144, .inr (.inl lg))), (k0, .inr (0, [.ref k1, .int (nI N)])), (k1, .inl (G.2 1, 169, .inr (.inl ms)))])) (pB [(h0, .inr (4, [.ref h1, .ref h2, .ref h3, .int (nI n)])), (h1, .inl (G.2 1, 144, .inr (.inl st))), (h2, .inl (G.2 1, 144, .inr (.inl wk))), (h3, .inl (G.2 1, 144, .inr (.inl lg))), (k0, .inr (0, [.ref k1, .int (nI N)])), (k1, .inl (G.2 1, 169, .inr (.inl ms)))])) 0 0 (pB [(h0, .inr (4, [.ref h1, .ref h2, .ref h3, .int (nI n)])), (h1, .inl (G.2 1, 144, .inr (.inl st))), (h2, .inl (G.2 1, 144, .inr (.inl wk))), (h3, .inl (G.2 1, 144, .inr (.inl lg))), (k0, .inr (0, [.ref k1, .int (nI N)])), (k1, .inl (G.2 1, 169, .inr (.inl ms)))]) := by
  refine ofCX (G := G) (cc := cX4_stepOverZero) (maxL := 8) (ret := (some .long)) (by decide) rfl (Nat.le_of_ble_eq_true rfl) ?_
  intro p e s m below meth c ls C hr hin hD hP hl
  obtain ⟨hx, hb, hml, hown, hts, hlocks, hK⟩ := id C
  have hown : s.vm.findClass RX4 = some m.cls := hown
  have hcl_63 := hts (.constantLong RX4 63 (1152921504606846976)) (by decide +kernel)
  generalize hAe : pB [(h0, .inr (4, [.ref h1, .ref h2, .ref h3, .int (nI n)])), (h1, .inl (G.2 1, 144, .inr (.inl st))), (h2, .inl (G.2 1, 144, .inr (.inl wk))), (h3, .inl (G.2 1, 144, .inr (.inl lg))), (k0, .inr (0, [.ref k1, .int (nI N)])), (k1, .inl (G.2 1, 169, .inr (.inl ms)))] = A at hD ⊢
  have hS : va_S A s.heap s.heap [] := va_S.rf
  have hP : va_P G.1 vwCl [(h0, .inr (4, [.ref h1, .ref h2, .ref h3, .int (nI n)])), (h1, .inl (G.2 1, 144, .inr (.inl st))), (h2, .inl (G.2 1, 144, .inr (.inl wk))), (h3, .inl (G.2 1, 144, .inr (.inl lg))), (k0, .inr (0, [.ref k1, .int (nI N)])), (k1, .inl (G.2 1, 169, .inr (.inl ms)))] s.heap := hP
  have hD : va_D A [(h0, .inr (4, [.ref h1, .ref h2, .ref h3, .int (nI n)])), (h1, .inl (G.2 1, 144, .inr (.inl st))), (h2, .inl (G.2 1, 144, .inr (.inl wk))), (h3, .inl (G.2 1, 144, .inr (.inl lg))), (k0, .inr (0, [.ref k1, .int (nI N)])), (k1, .inl (G.2 1, 169, .inr (.inl ms)))] := hD
  have hl : lv_has ls 8 [(0, .ref h0), (1, .ref k0), (2, .int (nI i)), (3, .int (nI j))] := hl
  refine lv_aload_n hx hb dX4_stepOverZero_0 rfl (lv_at hl 1 rfl) ?_
  refine lv_iload_n hx hb dX4_stepOverZero_1 rfl (lv_at hl 2 rfl) ?_
  refine lv_iconst (v := 1) hx hb dX4_stepOverZero_2 (by decide) ?_
  refine lv_iadd hx hb dX4_stepOverZero_3 ?_
  refine nmI (nI_add i 1) ?_
  refine lv_iconst (v := 0) hx hb dX4_stepOverZero_4 (by decide) ?_
  refine xL (S := Unit) (va_runV (As := [.int (nI (i + 1)), .int 0]) (rest := []) ⟨hx, hb, hml, hown, hts⟩ (c_X0_between l G k0 k1 ms N (i + 1) 0 (by first | omega | assumption) (by first | omega | assumption) (by first | omega | assumption)) (cwV 2 hts gX4_stepOverZero_X0_between rfl rfl rfl (by decide +kernel) ⟨Nat.le_of_ble_eq_true rfl, Nat.le_of_ble_eq_true rfl⟩) (pV [.int (nI (i + 1)), .int 0] hK (hP.sub (ws' := [(k0, .inr (0, [.ref k1, .int (nI N)])), (k1, .inl (G.2 1, 169, .inr (.inl ms)))]) [4, 5] rfl) (hD.sub (ws' := [(k0, .inr (0, [.ref k1, .int (nI N)])), (k1, .inl (G.2 1, 169, .inr (.inl ms)))]) [4, 5] (by decide) rfl) (ci := 0) (q0 := 0) rfl rfl) rfl rfl hl.1 rfl (lv_room (Nat.le_of_ble_eq_true rfl)) dX4_stepOverZero_5 ⟨Nat.zero_le _, Nat.zero_le _⟩) hP hD hS [4, 5] [0, 1, 2, 3] (wr := [(h0, .inr (4, [.ref h1, .ref h2, .ref h3, .int (nI n)])), (h1, .inl (G.2 1, 144, .inr (.inl st))), (h2, .inl (G.2 1, 144, .inr (.inl wk))), (h3, .inl (G.2 1, 144, .inr (.inl lg)))]) rfl rfl (by decide) (by decide) [0, 1, 2, 3, 4, 5] (w2 := fun (_ : Unit) => [(h0, .inr (4, [.ref h1, .ref h2, .ref h3, .int (nI n)])), (h1, .inl (G.2 1, 144, .inr (.inl st))), (h2, .inl (G.2 1, 144, .inr (.inl wk))), (h3, .inl (G.2 1, 144, .inr (.inl lg))), (k0, .inr (0, [.ref k1, .int (nI N)])), (k1, .inl (G.2 1, 169, .inr (.inl ms)))]) (fun _ => rfl) (by decide) (fun r_1 u_2 H locs hw_3 hP hD hS => ?_)
  (try dsimp only at hw_3); subst hw_3
  have hP : va_P G.1 vwCl [(h0, .inr (4, [.ref h1, .ref h2, .ref h3, .int (nI n)])), (h1, .inl (G.2 1, 144, .inr (.inl st))), (h2, .inl (G.2 1, 144, .inr (.inl wk))), (h3, .inl (G.2 1, 144, .inr (.inl lg))), (k0, .inr (0, [.ref k1, .int (nI N)])), (k1, .inl (G.2 1, 169, .inr (.inl ms)))] H := hP
  have hD : va_D A [(h0, .inr (4, [.ref h1, .ref h2, .ref h3, .int (nI n)])), (h1, .inl (G.2 1, 144, .inr (.inl st))), (h2, .inl (G.2 1, 144, .inr (.inl wk))), (h3, .inl (G.2 1, 144, .inr (.inl lg))), (k0, .inr (0, [.ref k1, .int (nI N)])), (k1, .inl (G.2 1, 169, .inr (.inl ms)))] := hD
  refine lv_lstore (lv' := [(4, .long (ms (((i + 1) * 13) + 0))), (0, .ref h0), (1, .ref k0), (2, .int (nI i)), (3, .int (nI j))]) hx hb dX4_stepOverZero_8 hl (by decide) rfl (fun ls hl => ?_)
  refine lv_aload_n hx hb dX4_stepOverZero_10 rfl (lv_at hl 2 rfl) ?_
  refine lv_iconst (v := 0) hx hb dX4_stepOverZero_11 (by decide) ?_
  refine lv_iload_n hx hb dX4_stepOverZero_12 rfl (lv_at hl 4 rfl) ?_
  refine lv_iconst (v := 1) hx hb dX4_stepOverZero_13 (by decide) ?_
  refine lv_iadd hx hb dX4_stepOverZero_14 ?_
  refine nmI (nI_add j 1) ?_
  refine xL (S := Unit) (va_runV (As := [.int 0, .int (nI (j + 1))]) (rest := []) ⟨hx, hb, hml, hown, hts⟩ (c_X0_between l G k0 k1 ms N 0 (j + 1) (by first | omega | assumption) (by first | omega | assumption) (by first | omega | assumption)) (cwV 2 hts gX4_stepOverZero_X0_between rfl rfl rfl (by decide +kernel) ⟨Nat.le_of_ble_eq_true rfl, Nat.le_of_ble_eq_true rfl⟩) (pV [.int 0, .int (nI (j + 1))] hK (hP.sub (ws' := [(k0, .inr (0, [.ref k1, .int (nI N)])), (k1, .inl (G.2 1, 169, .inr (.inl ms)))]) [4, 5] rfl) (hD.sub (ws' := [(k0, .inr (0, [.ref k1, .int (nI N)])), (k1, .inl (G.2 1, 169, .inr (.inl ms)))]) [4, 5] (by decide) rfl) (ci := 0) (q0 := 0) rfl rfl) rfl rfl hl.1 rfl (lv_room (Nat.le_of_ble_eq_true rfl)) dX4_stepOverZero_15 ⟨Nat.zero_le _, Nat.zero_le _⟩) hP hD hS [4, 5] [0, 1, 2, 3] (wr := [(h0, .inr (4, [.ref h1, .ref h2, .ref h3, .int (nI n)])), (h1, .inl (G.2 1, 144, .inr (.inl st))), (h2, .inl (G.2 1, 144, .inr (.inl wk))), (h3, .inl (G.2 1, 144, .inr (.inl lg)))]) rfl rfl (by decide) (by decide) [0, 1, 2, 3, 4, 5] (w2 := fun (_ : Unit) => [(h0, .inr (4, [.ref h1, .ref h2, .ref h3, .int (nI n)])), (h1, .inl (G.2 1, 144, .inr (.inl st))), (h2, .inl (G.2 1, 144, .inr (.inl wk))), (h3, .inl (G.2 1, 144, .inr (.inl lg))), (k0, .inr (0, [.ref k1, .int (nI N)])), (k1, .inl (G.2 1, 169, .inr (.inl ms)))]) (fun _ => rfl) (by decide) (fun r_4 u_5 H locs hw_6 hP hD hS => ?_)
  (try dsimp only at hw_6); subst hw_6
  have hP : va_P G.1 vwCl [(h0, .inr (4, [.ref h1, .ref h2, .ref h3, .int (nI n)])), (h1, .inl (G.2 1, 144, .inr (.inl st))), (h2, .inl (G.2 1, 144, .inr (.inl wk))), (h3, .inl (G.2 1, 144, .inr (.inl lg))), (k0, .inr (0, [.ref k1, .int (nI N)])), (k1, .inl (G.2 1, 169, .inr (.inl ms)))] H := hP
  have hD : va_D A [(h0, .inr (4, [.ref h1, .ref h2, .ref h3, .int (nI n)])), (h1, .inl (G.2 1, 144, .inr (.inl st))), (h2, .inl (G.2 1, 144, .inr (.inl wk))), (h3, .inl (G.2 1, 144, .inr (.inl lg))), (k0, .inr (0, [.ref k1, .int (nI N)])), (k1, .inl (G.2 1, 169, .inr (.inl ms)))] := hD
  refine lv_lstore (lv' := [(6, .long (ms ((0 * 13) + (j + 1)))), (4, .long (ms (((i + 1) * 13) + 0))), (0, .ref h0), (1, .ref k0), (2, .int (nI i)), (3, .int (nI j))]) hx hb dX4_stepOverZero_18 hl (by decide) rfl (fun ls hl => ?_)
  refine lv_lload hx hb dX4_stepOverZero_20 (lv_at hl 1 rfl) ?_
  refine lv_ldc2 hx hb hown hcl_63 dX4_stepOverZero_22 ?_
  refine W.lcmp hx hb dX4_stepOverZero_25 ?_
  refine lv_if_ge (tgt := 46) hx hb dX4_stepOverZero_26 (by decide) (fun c_7 => ?_) (fun c_7 => ?_)
  · -- yes: lg_cmp (ms (((i + 1) * 13) + 0)) 1152921504606846976 ge 0
    have c_7 : 1152921504606846976 ≤ (ms (((i + 1) * 13) + 0)).toInt := Int64.le_iff_toInt_le.mp ((lg_cmp_ge _ _).mp c_7)
    refine lv_ldc2 hx hb hown hcl_63 dX4_stepOverZero_46 ?_
    exact rtL C hr hAe (u := ()) hP hD hS dX4_stepOverZero_49 (by unfold stO; first | rw [if_pos (by omega)] | rw [if_neg (by omega)])
  · -- no: lg_cmp (ms (((i + 1) * 13) + 0)) 1152921504606846976 lt 0
    have c_7 : ¬ 1152921504606846976 ≤ (ms (((i + 1) * 13) + 0)).toInt := fun z => c_7 ((lg_cmp_ge _ _).mpr (Int64.le_iff_toInt_le.mpr z))
    refine lv_lload hx hb dX4_stepOverZero_29 (lv_at hl 0 rfl) ?_
    refine lv_ldc2 hx hb hown hcl_63 dX4_stepOverZero_31 ?_
    refine W.lcmp hx hb dX4_stepOverZero_34 ?_
    refine lv_if_ge (tgt := 46) hx hb dX4_stepOverZero_35 (by decide) (fun c_8 => ?_) (fun c_8 => ?_)
    · -- yes: lg_cmp (ms ((0 * 13) + (j + 1))) 1152921504606846976 ge 0
      have c_8 : 1152921504606846976 ≤ (ms ((0 * 13) + (j + 1))).toInt := Int64.le_iff_toInt_le.mp ((lg_cmp_ge _ _).mp c_8)
      refine lv_ldc2 hx hb hown hcl_63 dX4_stepOverZero_46 ?_
      exact rtL C hr hAe (u := ()) hP hD hS dX4_stepOverZero_49 (by unfold stO; first | rw [if_pos (by omega)] | rw [if_neg (by omega)])
    · -- no: lg_cmp (ms ((0 * 13) + (j + 1))) 1152921504606846976 lt 0
      have c_8 : ¬ 1152921504606846976 ≤ (ms ((0 * 13) + (j + 1))).toInt := fun z => c_8 ((lg_cmp_ge _ _).mpr (Int64.le_iff_toInt_le.mpr z))
      refine lv_lload hx hb dX4_stepOverZero_38 (lv_at hl 1 rfl) ?_
      refine lv_lload hx hb dX4_stepOverZero_40 (lv_at hl 0 rfl) ?_
      refine lv_ladd hx hb dX4_stepOverZero_42 ?_
      refine lv_goto (tgt := 49) hx hb dX4_stepOverZero_43 (by decide) ?_
      exact rtL C hr hAe (u := ()) hP hD hS dX4_stepOverZero_49 (by unfold stO; first | rw [if_pos (by omega)] | rw [if_neg (by omega)])

set_option maxHeartbeats 4000000 in
set_option maxRecDepth 100000 in
theorem lp_X4_takeSteps_22 {p : Program} {l : Launch} {e : Env} {R : Room} {s : State} {m : MethodId} {args : Array Value} {below : List Frame} {meth : Method} {c : Code} {A : Nat → Prop} {H0 : Heap} {Q : State → Prop} {G : gT} (C : CX p s m meth c args cX4_takeSteps 4 RX4 wsX4_takeSteps G) (h0 : Nat) (h1 : Nat) (h2 : Nat) (h3 : Nat) (wk : Nat → Int64) (lg : Nat → Int64) (n : Nat) (st0 : Nat → Int64) (k0 : Nat) (k1 : Nat) (ms : Nat → Int64) (N : Nat) (i : Nat) (hn : n ≤ 12) (hN : N ≤ 13) (hnN : n < N) (hi : i < n) (hRf : 4 ≤ R.frames) (hRl : 93 ≤ R.locals) (hk : ∀ (H : Heap) (locs : List Loc) (ls : Array Slot), va_P G.1 vwCl [(h0, .inr (4, [.ref h1, .ref h2, .ref h3, .int (nI n)])), (h1, .inl (G.2 1, 144, .inr (.inl (stJ st0 ms i n)))), (h2, .inl (G.2 1, 144, .inr (.inl wk))), (h3, .inl (G.2 1, 144, .inr (.inl lg))), (k0, .inr (0, [.ref k1, .int (nI N)])), (k1, .inl (G.2 1, 169, .inr (.inl ms)))] H → va_D A [(h0, .inr (4, [.ref h1, .ref h2, .ref h3, .int (nI n)])), (h1, .inl (G.2 1, 144, .inr (.inl (stJ st0 ms i n)))), (h2, .inl (G.2 1, 144, .inr (.inl wk))), (h3, .inl (G.2 1, 144, .inr (.inl lg))), (k0, .inr (0, [.ref k1, .int (nI N)])), (k1, .inl (G.2 1, 169, .inr (.inl ms)))] → va_S A H0 H locs → lv_has ls 4 [(0, .ref h0), (1, .ref k0), (2, .int (nI i)), (3, .int (nI n))] → W p l e R s m args below meth c H locs 0 0 Q (F0 m 72 ls [])) : ∀ (fu j : Nat) (st : Nat → Int64), j ≤ n → n - j < fu → st = stJ st0 ms i j → ∀ (H : Heap) (locs : List Loc) (ls : Array Slot), va_P G.1 vwCl [(h0, .inr (4, [.ref h1, .ref h2, .ref h3, .int (nI n)])), (h1, .inl (G.2 1, 144, .inr (.inl st))), (h2, .inl (G.2 1, 144, .inr (.inl wk))), (h3, .inl (G.2 1, 144, .inr (.inl lg))), (k0, .inr (0, [.ref k1, .int (nI N)])), (k1, .inl (G.2 1, 169, .inr (.inl ms)))] H → va_D A [(h0, .inr (4, [.ref h1, .ref h2, .ref h3, .int (nI n)])), (h1, .inl (G.2 1, 144, .inr (.inl st))), (h2, .inl (G.2 1, 144, .inr (.inl wk))), (h3, .inl (G.2 1, 144, .inr (.inl lg))), (k0, .inr (0, [.ref k1, .int (nI N)])), (k1, .inl (G.2 1, 169, .inr (.inl ms)))] → va_S A H0 H locs → lv_has ls 4 [(0, .ref h0), (1, .ref k0), (2, .int (nI i)), (3, .int (nI j))] → W p l e R s m args below meth c H locs 0 0 Q (F0 m 22 ls []) := by
  obtain ⟨hx, hb, hml, hown, hts, hlocks, hK⟩ := id C
  have hfl_21 := hts (.fieldLink RX4 21 "AfterDesk$QuarrelSeeker" "size" "I") (by decide +kernel)
  have hin_X4 : ∀ w ∈ wsX40, w ∈ wsX4_takeSteps := by decide +kernel
  have hfl_9 := hts (.fieldLink RX4 9 "AfterDesk$QuarrelSeeker" "steps" "[J") (by decide +kernel)
  have hml_79 := hts (.methodLink RX4 79 Lib.MathLoose.min_long.x) (by decide +kernel)
  have hms_mL := hts (.static Lib.MathLoose.min_long.x) (by decide +kernel)
  have hmi := hts (.initialized "java/lang/Math") (by decide +kernel)
  have hmc_mL := hts (.code Lib.MathLoose.min_long.x Lib.MathLoose.min_long.code 4 (some .long)) (by decide +kernel)
  intro fu
  induction fu with
  | zero =>
    intro j st h1 h2
    exact absurd h2 (by omega)
  | succ fu ih =>
    intro j st hkle hkn e_st  H locs ls hP hD hS hl
    subst e_st
    refine lv_iload_n hx hb dX4_takeSteps_22 rfl (lv_at hl 3 rfl) ?_
    refine lv_aload_n hx hb dX4_takeSteps_23 rfl (lv_at hl 0 rfl) ?_
    refine va_get (D := G.1) (ci := 4) (v := .int (nI n)) (C := RX4) (T := TX4) (N := 4) hx hb hts hin_X4 hown hK.1 hP 0 rfl rfl 3 (by decide) hfl_21 (fun _ h9 => h9) rfl dX4_takeSteps_24 ?_
    refine lv_icmp_ge (tgt := 72) hx hb dX4_takeSteps_27 (by decide) (fun c_1 => ?_) (fun c_1 => ?_)
    · -- yes: nI j ge nI n
      have c_1 : n ≤ j := (nI_leI (a := n) (b := j) (by omega) (by omega)).mp c_1
      have hkN : j = n := by omega
      subst hkN
      exact hk  _ _ _ hP hD hS (lv_sub hl [0, 1, 2, 3] rfl)
    · -- no: nI j lt nI n
      have c_1 : ¬ n ≤ j := fun z => c_1 ((nI_leI (a := n) (b := j) (by omega) (by omega)).mpr z)
      refine lv_iload_n hx hb dX4_takeSteps_30 rfl (lv_at hl 2 rfl) ?_
      refine lv_iload_n hx hb dX4_takeSteps_31 rfl (lv_at hl 3 rfl) ?_
      refine lv_icmp_eq (tgt := 66) hx hb dX4_takeSteps_32 (by decide) (fun c_2 => ?_) (fun c_2 => ?_)
      · -- yes: nI i eq nI j
        have c_2 : i = j := (nI_eq (a := i) (b := j) (by omega) (by omega)).mp c_2
        refine lv_iinc (v := nI (j + 1)) (lv' := [(3, .int (nI (j + 1))), (0, .ref h0), (1, .ref k0), (2, .int (nI i))]) hx hb dX4_takeSteps_66 hl (k := 3) rfl (nI_inc _) (by decide) rfl (fun ls hl => ?_)
        refine lv_goto (tgt := 22) hx hb dX4_takeSteps_69 (by decide) ?_
        exact ih (j + 1) (stJ st0 ms i j) (by omega) (by omega) (by rw [stJ_s]; first | rw [if_pos (by omega)] | rw [if_neg (by omega)])  _ _ _ hP hD hS (lv_sub hl [1, 2, 3, 0] rfl)
      · -- no: nI i ne nI j
        have c_2 : ¬ i = j := fun z => c_2 ((nI_eq (a := i) (b := j) (by omega) (by omega)).mpr z)
        refine lv_aload_n hx hb dX4_takeSteps_35 rfl (lv_at hl 0 rfl) ?_
        refine va_get (D := G.1) (ci := 4) (v := .ref h1) (C := RX4) (T := TX4) (N := 4) hx hb hts hin_X4 hown hK.1 hP 0 rfl rfl 0 (by decide) hfl_9 (fun _ h9 => h9) rfl dX4_takeSteps_36 ?_
        refine lv_iload_n hx hb dX4_takeSteps_39 rfl (lv_at hl 2 rfl) ?_
        refine lv_bipush (v := 12) hx hb dX4_takeSteps_40 (by decide) ?_
        refine lv_imul hx hb dX4_takeSteps_42 ?_
        refine nmI (pk_mul i 12) ?_
        refine lv_iload_n hx hb dX4_takeSteps_43 rfl (lv_at hl 3 rfl) ?_
        refine lv_iadd hx hb dX4_takeSteps_44 ?_
        refine nmI (nI_add (i * 12) j) ?_
        refine lv_aload_n hx hb dX4_takeSteps_45 rfl (lv_at hl 1 rfl) ?_
        refine lv_iload_n hx hb dX4_takeSteps_46 rfl (lv_at hl 2 rfl) ?_
        refine lv_iconst (v := 1) hx hb dX4_takeSteps_47 (by decide) ?_
        refine lv_iadd hx hb dX4_takeSteps_48 ?_
        refine nmI (nI_add i 1) ?_
        refine lv_iload_n hx hb dX4_takeSteps_49 rfl (lv_at hl 3 rfl) ?_
        refine lv_iconst (v := 1) hx hb dX4_takeSteps_50 (by decide) ?_
        refine lv_iadd hx hb dX4_takeSteps_51 ?_
        refine nmI (nI_add j 1) ?_
        refine xL (S := Unit) (va_runV (As := [.int (nI (i + 1)), .int (nI (j + 1))]) (rest := [.int (nI ((i * 12) + j)), .ref h1]) ⟨hx, hb, hml, hown, hts⟩ (c_X0_between l G k0 k1 ms N (i + 1) (j + 1) (by first | omega | assumption) (by first | omega | assumption) (by first | omega | assumption)) (cwV 2 hts gX4_takeSteps_X0_between rfl rfl rfl (by decide +kernel) ⟨Nat.le_trans (Nat.le_of_ble_eq_true (m := 4) rfl) hRf, Nat.le_trans (Nat.le_of_ble_eq_true (m := 93) rfl) hRl⟩) (pV [.int (nI (i + 1)), .int (nI (j + 1))] hK (hP.sub (ws' := [(k0, .inr (0, [.ref k1, .int (nI N)])), (k1, .inl (G.2 1, 169, .inr (.inl ms)))]) [4, 5] rfl) (hD.sub (ws' := [(k0, .inr (0, [.ref k1, .int (nI N)])), (k1, .inl (G.2 1, 169, .inr (.inl ms)))]) [4, 5] (by decide) rfl) (ci := 0) (q0 := 0) rfl rfl) rfl rfl hl.1 rfl (lv_room (Nat.le_of_ble_eq_true rfl)) dX4_takeSteps_52 ⟨Nat.zero_le _, Nat.zero_le _⟩) hP hD hS [4, 5] [0, 1, 2, 3] (wr := [(h0, .inr (4, [.ref h1, .ref h2, .ref h3, .int (nI n)])), (h1, .inl (G.2 1, 144, .inr (.inl (stJ st0 ms i j)))), (h2, .inl (G.2 1, 144, .inr (.inl wk))), (h3, .inl (G.2 1, 144, .inr (.inl lg)))]) rfl rfl (by decide) (by decide) [0, 1, 2, 3, 4, 5] (w2 := fun (_ : Unit) => [(h0, .inr (4, [.ref h1, .ref h2, .ref h3, .int (nI n)])), (h1, .inl (G.2 1, 144, .inr (.inl (stJ st0 ms i j)))), (h2, .inl (G.2 1, 144, .inr (.inl wk))), (h3, .inl (G.2 1, 144, .inr (.inl lg))), (k0, .inr (0, [.ref k1, .int (nI N)])), (k1, .inl (G.2 1, 169, .inr (.inl ms)))]) (fun _ => rfl) (by decide) (fun r_3 u_4 H locs hw_5 hP hD hS => ?_)
        (try dsimp only at hw_5); subst hw_5
        have hP : va_P G.1 vwCl [(h0, .inr (4, [.ref h1, .ref h2, .ref h3, .int (nI n)])), (h1, .inl (G.2 1, 144, .inr (.inl (stJ st0 ms i j)))), (h2, .inl (G.2 1, 144, .inr (.inl wk))), (h3, .inl (G.2 1, 144, .inr (.inl lg))), (k0, .inr (0, [.ref k1, .int (nI N)])), (k1, .inl (G.2 1, 169, .inr (.inl ms)))] H := hP
        have hD : va_D A [(h0, .inr (4, [.ref h1, .ref h2, .ref h3, .int (nI n)])), (h1, .inl (G.2 1, 144, .inr (.inl (stJ st0 ms i j)))), (h2, .inl (G.2 1, 144, .inr (.inl wk))), (h3, .inl (G.2 1, 144, .inr (.inl lg))), (k0, .inr (0, [.ref k1, .int (nI N)])), (k1, .inl (G.2 1, 169, .inr (.inl ms)))] := hD
        refine lv_aload_n hx hb dX4_takeSteps_55 rfl (lv_at hl 0 rfl) ?_
        refine lv_aload_n hx hb dX4_takeSteps_56 rfl (lv_at hl 1 rfl) ?_
        refine lv_iload_n hx hb dX4_takeSteps_57 rfl (lv_at hl 2 rfl) ?_
        refine lv_iload_n hx hb dX4_takeSteps_58 rfl (lv_at hl 3 rfl) ?_
        refine xL (S := Unit) (va_runV (As := [.ref k0, .int (nI i), .int (nI j)]) (rest := [.long (ms (((i + 1) * 13) + (j + 1))), .int (nI ((i * 12) + j)), .ref h1]) ⟨hx, hb, hml, hown, hts⟩ (c_X4_stepOverZero l G h0 h1 h2 h3 (stJ st0 ms i j) wk lg n k0 k1 ms N i j (by first | omega | assumption) (by first | omega | assumption) (by first | omega | assumption)) (cwV 3 hts gX4_takeSteps_X4_stepOverZero rfl rfl rfl (by decide +kernel) ⟨Nat.le_trans (Nat.le_of_ble_eq_true (m := 4) rfl) hRf, Nat.le_trans (Nat.le_of_ble_eq_true (m := 93) rfl) hRl⟩) (pV [.ref k0, .int (nI i), .int (nI j)] hK (hP.sub (ws' := [(h0, .inr (4, [.ref h1, .ref h2, .ref h3, .int (nI n)])), (h1, .inl (G.2 1, 144, .inr (.inl (stJ st0 ms i j)))), (h2, .inl (G.2 1, 144, .inr (.inl wk))), (h3, .inl (G.2 1, 144, .inr (.inl lg))), (k0, .inr (0, [.ref k1, .int (nI N)])), (k1, .inl (G.2 1, 169, .inr (.inl ms)))]) [0, 1, 2, 3, 4, 5] rfl) (hD.sub (ws' := [(h0, .inr (4, [.ref h1, .ref h2, .ref h3, .int (nI n)])), (h1, .inl (G.2 1, 144, .inr (.inl (stJ st0 ms i j)))), (h2, .inl (G.2 1, 144, .inr (.inl wk))), (h3, .inl (G.2 1, 144, .inr (.inl lg))), (k0, .inr (0, [.ref k1, .int (nI N)])), (k1, .inl (G.2 1, 169, .inr (.inl ms)))]) [0, 1, 2, 3, 4, 5] (by decide) rfl) (ci := 4) (q0 := 0) rfl rfl) rfl rfl hl.1 rfl (lv_room (Nat.le_of_ble_eq_true rfl)) dX4_takeSteps_59 ⟨Nat.zero_le _, Nat.zero_le _⟩) hP hD hS [0, 1, 2, 3, 4, 5] [] (wr := []) rfl rfl (by decide) (by decide) [0, 1, 2, 3, 4, 5] (w2 := fun (_ : Unit) => [(h0, .inr (4, [.ref h1, .ref h2, .ref h3, .int (nI n)])), (h1, .inl (G.2 1, 144, .inr (.inl (stJ st0 ms i j)))), (h2, .inl (G.2 1, 144, .inr (.inl wk))), (h3, .inl (G.2 1, 144, .inr (.inl lg))), (k0, .inr (0, [.ref k1, .int (nI N)])), (k1, .inl (G.2 1, 169, .inr (.inl ms)))]) (fun _ => rfl) (by decide) (fun r_6 u_7 H locs hw_8 hP hD hS => ?_)
        (try dsimp only at hw_8); subst hw_8
        have hP : va_P G.1 vwCl [(h0, .inr (4, [.ref h1, .ref h2, .ref h3, .int (nI n)])), (h1, .inl (G.2 1, 144, .inr (.inl (stJ st0 ms i j)))), (h2, .inl (G.2 1, 144, .inr (.inl wk))), (h3, .inl (G.2 1, 144, .inr (.inl lg))), (k0, .inr (0, [.ref k1, .int (nI N)])), (k1, .inl (G.2 1, 169, .inr (.inl ms)))] H := hP
        have hD : va_D A [(h0, .inr (4, [.ref h1, .ref h2, .ref h3, .int (nI n)])), (h1, .inl (G.2 1, 144, .inr (.inl (stJ st0 ms i j)))), (h2, .inl (G.2 1, 144, .inr (.inl wk))), (h3, .inl (G.2 1, 144, .inr (.inl lg))), (k0, .inr (0, [.ref k1, .int (nI N)])), (k1, .inl (G.2 1, 169, .inr (.inl ms)))] := hD
        refine va_mmin_long hx hb (hml.trans hl.1.symm) hown hml_79 hms_mL hmi hmc_mL (Nat.le_trans (Nat.le_of_ble_eq_true (m := 4) rfl) hRf) (Nat.le_trans (Nat.le_of_ble_eq_true (m := 93) rfl) hRl) (Nat.zero_le _) (Nat.zero_le _) dX4_takeSteps_62 ?_
        refine aJst hx hb hK.1 hP hD hS 1 1 rfl rfl (k := ((i * 12) + j)) rfl (by omega) (by decide) dX4_takeSteps_65 (fun H locs hP hD hS => ?_)
        have hP : va_P G.1 vwCl [(h0, .inr (4, [.ref h1, .ref h2, .ref h3, .int (nI n)])), (h1, .inl (G.2 1, 144, .inr (.inl (vp_updL (stJ st0 ms i j) ((i * 12) + j) (mnL (ms (((i + 1) * 13) + (j + 1))) (stO ms i j)))))), (h2, .inl (G.2 1, 144, .inr (.inl wk))), (h3, .inl (G.2 1, 144, .inr (.inl lg))), (k0, .inr (0, [.ref k1, .int (nI N)])), (k1, .inl (G.2 1, 169, .inr (.inl ms)))] H := hP
        have hD : va_D A [(h0, .inr (4, [.ref h1, .ref h2, .ref h3, .int (nI n)])), (h1, .inl (G.2 1, 144, .inr (.inl (vp_updL (stJ st0 ms i j) ((i * 12) + j) (mnL (ms (((i + 1) * 13) + (j + 1))) (stO ms i j)))))), (h2, .inl (G.2 1, 144, .inr (.inl wk))), (h3, .inl (G.2 1, 144, .inr (.inl lg))), (k0, .inr (0, [.ref k1, .int (nI N)])), (k1, .inl (G.2 1, 169, .inr (.inl ms)))] := hD
        refine lv_iinc (v := nI (j + 1)) (lv' := [(3, .int (nI (j + 1))), (0, .ref h0), (1, .ref k0), (2, .int (nI i))]) hx hb dX4_takeSteps_66 hl (k := 3) rfl (nI_inc _) (by decide) rfl (fun ls hl => ?_)
        refine lv_goto (tgt := 22) hx hb dX4_takeSteps_69 (by decide) ?_
        exact ih (j + 1) (vp_updL (stJ st0 ms i j) ((i * 12) + j) (mnL (ms (((i + 1) * 13) + (j + 1))) (stO ms i j))) (by omega) (by omega) (by rw [stJ_s]; first | rw [if_pos (by omega)] | rw [if_neg (by omega)])  _ _ _ hP hD hS (lv_sub hl [1, 2, 3, 0] rfl)

set_option maxHeartbeats 4000000 in
set_option maxRecDepth 100000 in
theorem lp_X4_takeSteps_12 {p : Program} {l : Launch} {e : Env} {R : Room} {s : State} {m : MethodId} {args : Array Value} {below : List Frame} {meth : Method} {c : Code} {A : Nat → Prop} {H0 : Heap} {Q : State → Prop} {G : gT} (C : CX p s m meth c args cX4_takeSteps 4 RX4 wsX4_takeSteps G) (h0 : Nat) (h1 : Nat) (h2 : Nat) (h3 : Nat) (wk : Nat → Int64) (lg : Nat → Int64) (n : Nat) (st0 : Nat → Int64) (k0 : Nat) (k1 : Nat) (ms : Nat → Int64) (N : Nat) (hn : n ≤ 12) (hN : N ≤ 13) (hnN : n < N) (hRf : 4 ≤ R.frames) (hRl : 93 ≤ R.locals) (hk : ∀ (H : Heap) (locs : List Loc) (ls : Array Slot), va_P G.1 vwCl [(h0, .inr (4, [.ref h1, .ref h2, .ref h3, .int (nI n)])), (h1, .inl (G.2 1, 144, .inr (.inl (stI st0 ms n n)))), (h2, .inl (G.2 1, 144, .inr (.inl wk))), (h3, .inl (G.2 1, 144, .inr (.inl lg))), (k0, .inr (0, [.ref k1, .int (nI N)])), (k1, .inl (G.2 1, 169, .inr (.inl ms)))] H → va_D A [(h0, .inr (4, [.ref h1, .ref h2, .ref h3, .int (nI n)])), (h1, .inl (G.2 1, 144, .inr (.inl (stI st0 ms n n)))), (h2, .inl (G.2 1, 144, .inr (.inl wk))), (h3, .inl (G.2 1, 144, .inr (.inl lg))), (k0, .inr (0, [.ref k1, .int (nI N)])), (k1, .inl (G.2 1, 169, .inr (.inl ms)))] → va_S A H0 H locs → lv_has ls 4 [(0, .ref h0), (1, .ref k0), (2, .int (nI n))] → W p l e R s m args below meth c H locs 0 0 Q (F0 m 78 ls [])) : ∀ (fu i : Nat) (st : Nat → Int64), i ≤ n → n - i < fu → st = stI st0 ms n i → ∀ (H : Heap) (locs : List Loc) (ls : Array Slot), va_P G.1 vwCl [(h0, .inr (4, [.ref h1, .ref h2, .ref h3, .int (nI n)])), (h1, .inl (G.2 1, 144, .inr (.inl st))), (h2, .inl (G.2 1, 144, .inr (.inl wk))), (h3, .inl (G.2 1, 144, .inr (.inl lg))), (k0, .inr (0, [.ref k1, .int (nI N)])), (k1, .inl (G.2 1, 169, .inr (.inl ms)))] H → va_D A [(h0, .inr (4, [.ref h1, .ref h2, .ref h3, .int (nI n)])), (h1, .inl (G.2 1, 144, .inr (.inl st))), (h2, .inl (G.2 1, 144, .inr (.inl wk))), (h3, .inl (G.2 1, 144, .inr (.inl lg))), (k0, .inr (0, [.ref k1, .int (nI N)])), (k1, .inl (G.2 1, 169, .inr (.inl ms)))] → va_S A H0 H locs → lv_has ls 4 [(0, .ref h0), (1, .ref k0), (2, .int (nI i))] → W p l e R s m args below meth c H locs 0 0 Q (F0 m 12 ls []) := by
  obtain ⟨hx, hb, hml, hown, hts, hlocks, hK⟩ := id C
  have hfl_21 := hts (.fieldLink RX4 21 "AfterDesk$QuarrelSeeker" "size" "I") (by decide +kernel)
  have hin_X4 : ∀ w ∈ wsX40, w ∈ wsX4_takeSteps := by decide +kernel
  intro fu
  induction fu with
  | zero =>
    intro i st h1 h2
    exact absurd h2 (by omega)
  | succ fu ih =>
    intro i st hkle hkn e_st  H locs ls hP hD hS hl
    subst e_st
    refine lv_iload_n hx hb dX4_takeSteps_12 rfl (lv_at hl 2 rfl) ?_
    refine lv_aload_n hx hb dX4_takeSteps_13 rfl (lv_at hl 0 rfl) ?_
    refine va_get (D := G.1) (ci := 4) (v := .int (nI n)) (C := RX4) (T := TX4) (N := 4) hx hb hts hin_X4 hown hK.1 hP 0 rfl rfl 3 (by decide) hfl_21 (fun _ h9 => h9) rfl dX4_takeSteps_14 ?_
    refine lv_icmp_ge (tgt := 78) hx hb dX4_takeSteps_17 (by decide) (fun c_1 => ?_) (fun c_1 => ?_)
    · -- yes: nI i ge nI n
      have c_1 : n ≤ i := (nI_leI (a := n) (b := i) (by omega) (by omega)).mp c_1
      have hkN : i = n := by omega
      subst hkN
      exact hk  _ _ _ hP hD hS (lv_sub hl [0, 1, 2] rfl)
    · -- no: nI i lt nI n
      have c_1 : ¬ n ≤ i := fun z => c_1 ((nI_leI (a := n) (b := i) (by omega) (by omega)).mpr z)
      refine lv_iconst (v := 0) hx hb dX4_takeSteps_20 (by decide) ?_
      refine lv_istore_n (lv' := [(3, .int 0), (0, .ref h0), (1, .ref k0), (2, .int (nI i))]) hx hb dX4_takeSteps_21 rfl hl (by decide) rfl (fun ls hl => ?_)
      refine lp_X4_takeSteps_22 C h0 h1 h2 h3 wk lg n (stI st0 ms n i) k0 k1 ms N i (by first | omega | assumption) (by first | omega | assumption) (by first | omega | assumption) (by first | omega | assumption) (Nat.le_trans (Nat.le_of_ble_eq_true (m := 4) rfl) hRf) (Nat.le_trans (Nat.le_of_ble_eq_true (m := 93) rfl) hRl) (fun  H locs ls hP hD hS hl => ?_) (n + 1) 0 (stI st0 ms n i) (by omega) (by omega) rfl  _ _ _ hP hD hS (lv_sub hl [1, 2, 3, 0] rfl)
      have hP : va_P G.1 vwCl [(h0, .inr (4, [.ref h1, .ref h2, .ref h3, .int (nI n)])), (h1, .inl (G.2 1, 144, .inr (.inl (stJ (stI st0 ms n i) ms i n)))), (h2, .inl (G.2 1, 144, .inr (.inl wk))), (h3, .inl (G.2 1, 144, .inr (.inl lg))), (k0, .inr (0, [.ref k1, .int (nI N)])), (k1, .inl (G.2 1, 169, .inr (.inl ms)))] H := hP
      have hD : va_D A [(h0, .inr (4, [.ref h1, .ref h2, .ref h3, .int (nI n)])), (h1, .inl (G.2 1, 144, .inr (.inl (stJ (stI st0 ms n i) ms i n)))), (h2, .inl (G.2 1, 144, .inr (.inl wk))), (h3, .inl (G.2 1, 144, .inr (.inl lg))), (k0, .inr (0, [.ref k1, .int (nI N)])), (k1, .inl (G.2 1, 169, .inr (.inl ms)))] := hD
      refine lv_iinc (v := nI (i + 1)) (lv' := [(2, .int (nI (i + 1))), (0, .ref h0), (1, .ref k0), (3, .int (nI n))]) hx hb dX4_takeSteps_72 hl (k := 2) rfl (nI_inc _) (by decide) rfl (fun ls hl => ?_)
      refine lv_goto (tgt := 12) hx hb dX4_takeSteps_75 (by decide) ?_
      exact ih (i + 1) (stJ (stI st0 ms n i) ms i n) (by omega) (by omega) rfl  _ _ _ hP hD hS (lv_sub hl [1, 2, 0] rfl)

set_option maxHeartbeats 4000000 in
set_option maxRecDepth 100000 in
theorem c_X4_takeSteps (l : Launch) (G : gT) (h0 : Nat) (h1 : Nat) (h2 : Nat) (h3 : Nat) (st : Nat → Int64) (wk : Nat → Int64) (lg : Nat → Int64) (n : Nat) (k0 : Nat) (k1 : Nat) (ms : Nat → Int64) (N : Nat) (hn : n ≤ 12) (hN : N ≤ 13) (hnN : n < N) : Met l yX4_takeSteps wsX4_takeSteps ({ frames := 4, cells := 0, slots := 0, locals := 93 }) (cPre G [.ref h0, .ref k0] [(h0, .inr (4, [.ref h1, .ref h2, .ref h3, .int (nI n)])), (h1, .inl (G.2 1, 144, .inr (.inl st))), (h2, .inl (G.2 1, 144, .inr (.inl wk))), (h3, .inl (G.2 1, 144, .inr (.inl lg))), (k0, .inr (0, [.ref k1, .int (nI N)])), (k1, .inl (G.2 1, 169, .inr (.inl ms)))]) (va_Qv (fun (u : (Nat → Int64)) => AG n u (stM ms)) (cW G [(h0, .inr (4, [.ref h1, .ref h2, .ref h3, .int (nI n)])), (h1, .inl (G.2 1, 144, .inr (.inl st))), (h2, .inl (G.2 1, 144, .inr (.inl wk))), (h3, .inl (G.2 1, 144, .inr (.inl lg))), (k0, .inr (0, [.ref k1, .int (nI N)])), (k1, .inl (G.2 1, 169, .inr (.inl ms)))] (fun (u : (Nat → Int64)) => [(h0, .inr (4, [.ref h1, .ref h2, .ref h3, .int (nI n)])), (h1, .inl (G.2 1, 144, .inr (.inl u))), (h2, .inl (G.2 1, 144, .inr (.inl wk))), (h3, .inl (G.2 1, 144, .inr (.inl lg))), (k0, .inr (0, [.ref k1, .int (nI N)])), (k1, .inl (G.2 1, 169, .inr (.inl ms)))])) (pB [(h0, .inr (4, [.ref h1, .ref h2, .ref h3, .int (nI n)])), (h1, .inl (G.2 1, 144, .inr (.inl st))), (h2, .inl (G.2 1, 144, .inr (.inl wk))), (h3, .inl (G.2 1, 144, .inr (.inl lg))), (k0, .inr (0, [.ref k1, .int (nI N)])), (k1, .inl (G.2 1, 169, .inr (.inl ms)))])) 0 0 (pB [(h0, .inr (4, [.ref h1, .ref h2, .ref h3, .int (nI n)])), (h1, .inl (G.2 1, 144, .inr (.inl st))), (h2, .inl (G.2 1, 144, .inr (.inl wk))), (h3, .inl (G.2 1, 144, .inr (.inl lg))), (k0, .inr (0, [.ref k1, .int (nI N)])), (k1, .inl (G.2 1, 169, .inr (.inl ms)))]) := by
  refine ofCX (G := G) (cc := cX4_takeSteps) (maxL := 4) (ret := none) (by decide) rfl (Nat.le_of_ble_eq_true rfl) ?_
  intro p e s m below meth c ls C hr hin hD hP hl
  obtain ⟨hx, hb, hml, hown, hts, hlocks, hK⟩ := id C
  have hown : s.vm.findClass RX4 = some m.cls := hown
  have hfl_9 := hts (.fieldLink RX4 9 "AfterDesk$QuarrelSeeker" "steps" "[J") (by decide +kernel)
  have hin_X4 : ∀ w ∈ wsX40, w ∈ wsX4_takeSteps := by decide +kernel
  have hcl_63 := hts (.constantLong RX4 63 (1152921504606846976)) (by decide +kernel)
  generalize hAe : pB [(h0, .inr (4, [.ref h1, .ref h2, .ref h3, .int (nI n)])), (h1, .inl (G.2 1, 144, .inr (.inl st))), (h2, .inl (G.2 1, 144, .inr (.inl wk))), (h3, .inl (G.2 1, 144, .inr (.inl lg))), (k0, .inr (0, [.ref k1, .int (nI N)])), (k1, .inl (G.2 1, 169, .inr (.inl ms)))] = A at hD ⊢
  have hS : va_S A s.heap s.heap [] := va_S.rf
  have hP : va_P G.1 vwCl [(h0, .inr (4, [.ref h1, .ref h2, .ref h3, .int (nI n)])), (h1, .inl (G.2 1, 144, .inr (.inl st))), (h2, .inl (G.2 1, 144, .inr (.inl wk))), (h3, .inl (G.2 1, 144, .inr (.inl lg))), (k0, .inr (0, [.ref k1, .int (nI N)])), (k1, .inl (G.2 1, 169, .inr (.inl ms)))] s.heap := hP
  have hD : va_D A [(h0, .inr (4, [.ref h1, .ref h2, .ref h3, .int (nI n)])), (h1, .inl (G.2 1, 144, .inr (.inl st))), (h2, .inl (G.2 1, 144, .inr (.inl wk))), (h3, .inl (G.2 1, 144, .inr (.inl lg))), (k0, .inr (0, [.ref k1, .int (nI N)])), (k1, .inl (G.2 1, 169, .inr (.inl ms)))] := hD
  have hl : lv_has ls 4 [(0, .ref h0), (1, .ref k0)] := hl
  refine lv_aload_n hx hb dX4_takeSteps_0 rfl (lv_at hl 0 rfl) ?_
  refine va_get (D := G.1) (ci := 4) (v := .ref h1) (C := RX4) (T := TX4) (N := 4) hx hb hts hin_X4 hown hK.1 hP 0 rfl rfl 0 (by decide) hfl_9 (fun _ h9 => h9) rfl dX4_takeSteps_1 ?_
  refine lv_ldc2 hx hb hown hcl_63 dX4_takeSteps_4 ?_
  refine xV (S := (Nat → Int64)) (va_runS (As := [.ref h1, .long 1152921504606846976]) (rest := []) ⟨hx, hb, hml, hown, hts⟩ (c_J7_fill_d0a16 l G h1 144 st 1152921504606846976 (by first | omega | assumption)) (va_cwS 2 hts gX4_takeSteps_J7_fill_d0a16 rfl rfl rfl (by decide +kernel) ⟨Nat.le_of_ble_eq_true rfl, Nat.le_of_ble_eq_true rfl⟩) (pS [.ref h1, .long 1152921504606846976] hK (hP.sub (ws' := [(h1, .inl (G.2 1, 144, .inr (.inl st)))]) [1] rfl) (hD.sub (ws' := [(h1, .inl (G.2 1, 144, .inr (.inl st)))]) [1] (by decide) rfl)) rfl rfl hl.1 rfl (lv_room (Nat.le_of_ble_eq_true rfl)) dX4_takeSteps_7 ⟨Nat.zero_le _, Nat.zero_le _⟩) hP hD hS [1] [0, 2, 3, 4, 5] (wr := [(h0, .inr (4, [.ref h1, .ref h2, .ref h3, .int (nI n)])), (h2, .inl (G.2 1, 144, .inr (.inl wk))), (h3, .inl (G.2 1, 144, .inr (.inl lg))), (k0, .inr (0, [.ref k1, .int (nI N)])), (k1, .inl (G.2 1, 169, .inr (.inl ms)))]) rfl rfl (by decide) (by decide) [0, 5, 1, 2, 3, 4] (w2 := fun (u_3 : (Nat → Int64)) => [(h0, .inr (4, [.ref h1, .ref h2, .ref h3, .int (nI n)])), (h1, .inl (G.2 1, 144, .inr (.inl u_3))), (h2, .inl (G.2 1, 144, .inr (.inl wk))), (h3, .inl (G.2 1, 144, .inr (.inl lg))), (k0, .inr (0, [.ref k1, .int (nI N)])), (k1, .inl (G.2 1, 169, .inr (.inl ms)))]) (fun _ => rfl) (by decide) (fun u_3 H locs hw_4 hP hD hS => ?_)
  obtain ⟨gv_1, rfl⟩ : ∃ z, z = u_3 := ⟨_, rfl⟩
  (try dsimp only at hw_4); subst hw_4
  have hP : va_P G.1 vwCl [(h0, .inr (4, [.ref h1, .ref h2, .ref h3, .int (nI n)])), (h1, .inl (G.2 1, 144, .inr (.inl (fillF 1152921504606846976 st 144)))), (h2, .inl (G.2 1, 144, .inr (.inl wk))), (h3, .inl (G.2 1, 144, .inr (.inl lg))), (k0, .inr (0, [.ref k1, .int (nI N)])), (k1, .inl (G.2 1, 169, .inr (.inl ms)))] H := hP
  have hD : va_D A [(h0, .inr (4, [.ref h1, .ref h2, .ref h3, .int (nI n)])), (h1, .inl (G.2 1, 144, .inr (.inl (fillF 1152921504606846976 st 144)))), (h2, .inl (G.2 1, 144, .inr (.inl wk))), (h3, .inl (G.2 1, 144, .inr (.inl lg))), (k0, .inr (0, [.ref k1, .int (nI N)])), (k1, .inl (G.2 1, 169, .inr (.inl ms)))] := hD
  refine lv_iconst (v := 0) hx hb dX4_takeSteps_10 (by decide) ?_
  refine lv_istore_n (lv' := [(2, .int 0), (0, .ref h0), (1, .ref k0)]) hx hb dX4_takeSteps_11 rfl hl (by decide) rfl (fun ls hl => ?_)
  refine lp_X4_takeSteps_12 C h0 h1 h2 h3 wk lg n st k0 k1 ms N (by first | omega | assumption) (by first | omega | assumption) (by first | omega | assumption) (Nat.le_of_ble_eq_true rfl) (Nat.le_of_ble_eq_true rfl) (fun  H locs ls hP hD hS hl => ?_) (n + 1) 0 (fillF 1152921504606846976 st 144) (by omega) (by omega) rfl  _ _ _ hP hD hS (lv_sub hl [1, 2, 0] rfl)
  have hP : va_P G.1 vwCl [(h0, .inr (4, [.ref h1, .ref h2, .ref h3, .int (nI n)])), (h1, .inl (G.2 1, 144, .inr (.inl (stI st ms n n)))), (h2, .inl (G.2 1, 144, .inr (.inl wk))), (h3, .inl (G.2 1, 144, .inr (.inl lg))), (k0, .inr (0, [.ref k1, .int (nI N)])), (k1, .inl (G.2 1, 169, .inr (.inl ms)))] H := hP
  have hD : va_D A [(h0, .inr (4, [.ref h1, .ref h2, .ref h3, .int (nI n)])), (h1, .inl (G.2 1, 144, .inr (.inl (stI st ms n n)))), (h2, .inl (G.2 1, 144, .inr (.inl wk))), (h3, .inl (G.2 1, 144, .inr (.inl lg))), (k0, .inr (0, [.ref k1, .int (nI N)])), (k1, .inl (G.2 1, 169, .inr (.inl ms)))] := hD
  exact rtV C hr hAe (u := (stI st ms n n)) hP hD hS dX4_takeSteps_78 (by exact stI_AG _ _ hn)

set_option maxHeartbeats 4000000 in
set_option maxRecDepth 100000 in
theorem lp_X4_startWalks_22 {p : Program} {l : Launch} {e : Env} {R : Room} {s : State} {m : MethodId} {args : Array Value} {below : List Frame} {meth : Method} {c : Code} {A : Nat → Prop} {H0 : Heap} {Q : State → Prop} {G : gT} (C : CX p s m meth c args cX4_startWalks 4 RX4 wsX4_startWalks G) (h0 : Nat) (h1 : Nat) (h2 : Nat) (h3 : Nat) (st : Nat → Int64) (lg : Nat → Int64) (n : Nat) (wk0 : Nat → Int64) (b : Int32) (i : Nat) (hn : n ≤ 12) (hi : i < n) (hk : ∀ (H : Heap) (locs : List Loc) (ls : Array Slot), va_P G.1 vwCl [(h0, .inr (4, [.ref h1, .ref h2, .ref h3, .int (nI n)])), (h1, .inl (G.2 1, 144, .inr (.inl st))), (h2, .inl (G.2 1, 144, .inr (.inl (swJ wk0 st b i n)))), (h3, .inl (G.2 1, 144, .inr (.inl lg)))] H → va_D A [(h0, .inr (4, [.ref h1, .ref h2, .ref h3, .int (nI n)])), (h1, .inl (G.2 1, 144, .inr (.inl st))), (h2, .inl (G.2 1, 144, .inr (.inl (swJ wk0 st b i n)))), (h3, .inl (G.2 1, 144, .inr (.inl lg)))] → va_S A H0 H locs → lv_has ls 4 [(0, .ref h0), (1, .int b), (2, .int (nI i)), (3, .int (nI n))] → W p l e R s m args below meth c H locs 0 0 Q (F0 m 74 ls [])) : ∀ (fu j : Nat) (wk : Nat → Int64), j ≤ n → n - j < fu → wk = swJ wk0 st b i j → ∀ (H : Heap) (locs : List Loc) (ls : Array Slot), va_P G.1 vwCl [(h0, .inr (4, [.ref h1, .ref h2, .ref h3, .int (nI n)])), (h1, .inl (G.2 1, 144, .inr (.inl st))), (h2, .inl (G.2 1, 144, .inr (.inl wk))), (h3, .inl (G.2 1, 144, .inr (.inl lg)))] H → va_D A [(h0, .inr (4, [.ref h1, .ref h2, .ref h3, .int (nI n)])), (h1, .inl (G.2 1, 144, .inr (.inl st))), (h2, .inl (G.2 1, 144, .inr (.inl wk))), (h3, .inl (G.2 1, 144, .inr (.inl lg)))] → va_S A H0 H locs → lv_has ls 4 [(0, .ref h0), (1, .int b), (2, .int (nI i)), (3, .int (nI j))] → W p l e R s m args below meth c H locs 0 0 Q (F0 m 22 ls []) := by
  obtain ⟨hx, hb, hml, hown, hts, hlocks, hK⟩ := id C
  have hfl_21 := hts (.fieldLink RX4 21 "AfterDesk$QuarrelSeeker" "size" "I") (by decide +kernel)
  have hin_X4 : ∀ w ∈ wsX40, w ∈ wsX4_startWalks := by decide +kernel
  have hfl_15 := hts (.fieldLink RX4 15 "AfterDesk$QuarrelSeeker" "walks" "[J") (by decide +kernel)
  have hfl_9 := hts (.fieldLink RX4 9 "AfterDesk$QuarrelSeeker" "steps" "[J") (by decide +kernel)
  intro fu
  induction fu with
  | zero =>
    intro j wk h1 h2
    exact absurd h2 (by omega)
  | succ fu ih =>
    intro j wk hkle hkn e_wk  H locs ls hP hD hS hl
    subst e_wk
    refine lv_iload_n hx hb dX4_startWalks_22 rfl (lv_at hl 3 rfl) ?_
    refine lv_aload_n hx hb dX4_startWalks_23 rfl (lv_at hl 0 rfl) ?_
    refine va_get (D := G.1) (ci := 4) (v := .int (nI n)) (C := RX4) (T := TX4) (N := 4) hx hb hts hin_X4 hown hK.1 hP 0 rfl rfl 3 (by decide) hfl_21 (fun _ h9 => h9) rfl dX4_startWalks_24 ?_
    refine lv_icmp_ge (tgt := 74) hx hb dX4_startWalks_27 (by decide) (fun c_1 => ?_) (fun c_1 => ?_)
    · -- yes: nI j ge nI n
      have c_1 : n ≤ j := (nI_leI (a := n) (b := j) (by omega) (by omega)).mp c_1
      have hkN : j = n := by omega
      subst hkN
      exact hk  _ _ _ hP hD hS (lv_sub hl [0, 1, 2, 3] rfl)
    · -- no: nI j lt nI n
      have c_1 : ¬ n ≤ j := fun z => c_1 ((nI_leI (a := n) (b := j) (by omega) (by omega)).mpr z)
      refine lv_iload_n hx hb dX4_startWalks_30 rfl (lv_at hl 1 rfl) ?_
      refine lv_iload_n hx hb dX4_startWalks_31 rfl (lv_at hl 2 rfl) ?_
      refine lv_ishr hx hb dX4_startWalks_32 ?_
      refine lv_iconst (v := 1) hx hb dX4_startWalks_33 (by decide) ?_
      refine lv_iand hx hb dX4_startWalks_34 ?_
      refine lv_if_eq (tgt := 68) hx hb dX4_startWalks_35 (by decide) (fun c_2 => ?_) (fun c_2 => ?_)
      · -- yes: (b >>> ((nI i) &&& 31)) &&& 1 eq 0
        refine lv_iinc (v := nI (j + 1)) (lv' := [(3, .int (nI (j + 1))), (0, .ref h0), (1, .int b), (2, .int (nI i))]) hx hb dX4_startWalks_68 hl (k := 3) rfl (nI_inc _) (by decide) rfl (fun ls hl => ?_)
        refine lv_goto (tgt := 22) hx hb dX4_startWalks_71 (by decide) ?_
        exact ih (j + 1) (swJ wk0 st b i j) (by omega) (by omega) (by rw [swJ_s]; first | rw [if_pos ⟨by assumption, by assumption⟩] | rw [if_neg (fun z => z.1 (by assumption))] | rw [if_neg (fun z => z.2 (by assumption))])  _ _ _ hP hD hS (lv_sub hl [1, 2, 3, 0] rfl)
      · -- no: (b >>> ((nI i) &&& 31)) &&& 1 ne 0
        refine lv_iload_n hx hb dX4_startWalks_38 rfl (lv_at hl 1 rfl) ?_
        refine lv_iload_n hx hb dX4_startWalks_39 rfl (lv_at hl 3 rfl) ?_
        refine lv_ishr hx hb dX4_startWalks_40 ?_
        refine lv_iconst (v := 1) hx hb dX4_startWalks_41 (by decide) ?_
        refine lv_iand hx hb dX4_startWalks_42 ?_
        refine lv_if_eq (tgt := 68) hx hb dX4_startWalks_43 (by decide) (fun c_3 => ?_) (fun c_3 => ?_)
        · -- yes: (b >>> ((nI j) &&& 31)) &&& 1 eq 0
          refine lv_iinc (v := nI (j + 1)) (lv' := [(3, .int (nI (j + 1))), (0, .ref h0), (1, .int b), (2, .int (nI i))]) hx hb dX4_startWalks_68 hl (k := 3) rfl (nI_inc _) (by decide) rfl (fun ls hl => ?_)
          refine lv_goto (tgt := 22) hx hb dX4_startWalks_71 (by decide) ?_
          exact ih (j + 1) (swJ wk0 st b i j) (by omega) (by omega) (by rw [swJ_s]; first | rw [if_pos ⟨by assumption, by assumption⟩] | rw [if_neg (fun z => z.1 (by assumption))] | rw [if_neg (fun z => z.2 (by assumption))])  _ _ _ hP hD hS (lv_sub hl [1, 2, 3, 0] rfl)
        · -- no: (b >>> ((nI j) &&& 31)) &&& 1 ne 0
          refine lv_aload_n hx hb dX4_startWalks_46 rfl (lv_at hl 0 rfl) ?_
          refine va_get (D := G.1) (ci := 4) (v := .ref h2) (C := RX4) (T := TX4) (N := 4) hx hb hts hin_X4 hown hK.1 hP 0 rfl rfl 1 (by decide) hfl_15 (fun _ h9 => h9) rfl dX4_startWalks_47 ?_
          refine lv_iload_n hx hb dX4_startWalks_50 rfl (lv_at hl 2 rfl) ?_
          refine lv_bipush (v := 12) hx hb dX4_startWalks_51 (by decide) ?_
          refine lv_imul hx hb dX4_startWalks_53 ?_
          refine nmI (pk_mul i 12) ?_
          refine lv_iload_n hx hb dX4_startWalks_54 rfl (lv_at hl 3 rfl) ?_
          refine lv_iadd hx hb dX4_startWalks_55 ?_
          refine nmI (nI_add (i * 12) j) ?_
          refine lv_aload_n hx hb dX4_startWalks_56 rfl (lv_at hl 0 rfl) ?_
          refine va_get (D := G.1) (ci := 4) (v := .ref h1) (C := RX4) (T := TX4) (N := 4) hx hb hts hin_X4 hown hK.1 hP 0 rfl rfl 0 (by decide) hfl_9 (fun _ h9 => h9) rfl dX4_startWalks_57 ?_
          refine lv_iload_n hx hb dX4_startWalks_60 rfl (lv_at hl 2 rfl) ?_
          refine lv_bipush (v := 12) hx hb dX4_startWalks_61 (by decide) ?_
          refine lv_imul hx hb dX4_startWalks_63 ?_
          refine nmI (pk_mul i 12) ?_
          refine lv_iload_n hx hb dX4_startWalks_64 rfl (lv_at hl 3 rfl) ?_
          refine lv_iadd hx hb dX4_startWalks_65 ?_
          refine nmI (nI_add (i * 12) j) ?_
          refine aJld hx hb hK.1 hP 1 1 rfl rfl (k := ((i * 12) + j)) rfl (by omega) (by decide) dX4_startWalks_66 ?_
          refine aJst hx hb hK.1 hP hD hS 2 1 rfl rfl (k := ((i * 12) + j)) rfl (by omega) (by decide) dX4_startWalks_67 (fun H locs hP hD hS => ?_)
          have hP : va_P G.1 vwCl [(h0, .inr (4, [.ref h1, .ref h2, .ref h3, .int (nI n)])), (h1, .inl (G.2 1, 144, .inr (.inl st))), (h2, .inl (G.2 1, 144, .inr (.inl (vp_updL (swJ wk0 st b i j) ((i * 12) + j) (st ((i * 12) + j)))))), (h3, .inl (G.2 1, 144, .inr (.inl lg)))] H := hP
          have hD : va_D A [(h0, .inr (4, [.ref h1, .ref h2, .ref h3, .int (nI n)])), (h1, .inl (G.2 1, 144, .inr (.inl st))), (h2, .inl (G.2 1, 144, .inr (.inl (vp_updL (swJ wk0 st b i j) ((i * 12) + j) (st ((i * 12) + j)))))), (h3, .inl (G.2 1, 144, .inr (.inl lg)))] := hD
          refine lv_iinc (v := nI (j + 1)) (lv' := [(3, .int (nI (j + 1))), (0, .ref h0), (1, .int b), (2, .int (nI i))]) hx hb dX4_startWalks_68 hl (k := 3) rfl (nI_inc _) (by decide) rfl (fun ls hl => ?_)
          refine lv_goto (tgt := 22) hx hb dX4_startWalks_71 (by decide) ?_
          exact ih (j + 1) (vp_updL (swJ wk0 st b i j) ((i * 12) + j) (st ((i * 12) + j))) (by omega) (by omega) (by rw [swJ_s]; first | rw [if_pos ⟨by assumption, by assumption⟩] | rw [if_neg (fun z => z.1 (by assumption))] | rw [if_neg (fun z => z.2 (by assumption))])  _ _ _ hP hD hS (lv_sub hl [1, 2, 3, 0] rfl)

set_option maxHeartbeats 4000000 in
set_option maxRecDepth 100000 in
theorem lp_X4_startWalks_12 {p : Program} {l : Launch} {e : Env} {R : Room} {s : State} {m : MethodId} {args : Array Value} {below : List Frame} {meth : Method} {c : Code} {A : Nat → Prop} {H0 : Heap} {Q : State → Prop} {G : gT} (C : CX p s m meth c args cX4_startWalks 4 RX4 wsX4_startWalks G) (h0 : Nat) (h1 : Nat) (h2 : Nat) (h3 : Nat) (st : Nat → Int64) (lg : Nat → Int64) (n : Nat) (wk0 : Nat → Int64) (b : Int32) (hn : n ≤ 12) (hk : ∀ (H : Heap) (locs : List Loc) (ls : Array Slot), va_P G.1 vwCl [(h0, .inr (4, [.ref h1, .ref h2, .ref h3, .int (nI n)])), (h1, .inl (G.2 1, 144, .inr (.inl st))), (h2, .inl (G.2 1, 144, .inr (.inl (swI wk0 st b n n)))), (h3, .inl (G.2 1, 144, .inr (.inl lg)))] H → va_D A [(h0, .inr (4, [.ref h1, .ref h2, .ref h3, .int (nI n)])), (h1, .inl (G.2 1, 144, .inr (.inl st))), (h2, .inl (G.2 1, 144, .inr (.inl (swI wk0 st b n n)))), (h3, .inl (G.2 1, 144, .inr (.inl lg)))] → va_S A H0 H locs → lv_has ls 4 [(0, .ref h0), (1, .int b), (2, .int (nI n))] → W p l e R s m args below meth c H locs 0 0 Q (F0 m 80 ls [])) : ∀ (fu i : Nat) (wk : Nat → Int64), i ≤ n → n - i < fu → wk = swI wk0 st b n i → ∀ (H : Heap) (locs : List Loc) (ls : Array Slot), va_P G.1 vwCl [(h0, .inr (4, [.ref h1, .ref h2, .ref h3, .int (nI n)])), (h1, .inl (G.2 1, 144, .inr (.inl st))), (h2, .inl (G.2 1, 144, .inr (.inl wk))), (h3, .inl (G.2 1, 144, .inr (.inl lg)))] H → va_D A [(h0, .inr (4, [.ref h1, .ref h2, .ref h3, .int (nI n)])), (h1, .inl (G.2 1, 144, .inr (.inl st))), (h2, .inl (G.2 1, 144, .inr (.inl wk))), (h3, .inl (G.2 1, 144, .inr (.inl lg)))] → va_S A H0 H locs → lv_has ls 4 [(0, .ref h0), (1, .int b), (2, .int (nI i))] → W p l e R s m args below meth c H locs 0 0 Q (F0 m 12 ls []) := by
  obtain ⟨hx, hb, hml, hown, hts, hlocks, hK⟩ := id C
  have hfl_21 := hts (.fieldLink RX4 21 "AfterDesk$QuarrelSeeker" "size" "I") (by decide +kernel)
  have hin_X4 : ∀ w ∈ wsX40, w ∈ wsX4_startWalks := by decide +kernel
  intro fu
  induction fu with
  | zero =>
    intro i wk h1 h2
    exact absurd h2 (by omega)
  | succ fu ih =>
    intro i wk hkle hkn e_wk  H locs ls hP hD hS hl
    subst e_wk
    refine lv_iload_n hx hb dX4_startWalks_12 rfl (lv_at hl 2 rfl) ?_
    refine lv_aload_n hx hb dX4_startWalks_13 rfl (lv_at hl 0 rfl) ?_
    refine va_get (D := G.1) (ci := 4) (v := .int (nI n)) (C := RX4) (T := TX4) (N := 4) hx hb hts hin_X4 hown hK.1 hP 0 rfl rfl 3 (by decide) hfl_21 (fun _ h9 => h9) rfl dX4_startWalks_14 ?_
    refine lv_icmp_ge (tgt := 80) hx hb dX4_startWalks_17 (by decide) (fun c_1 => ?_) (fun c_1 => ?_)
    · -- yes: nI i ge nI n
      have c_1 : n ≤ i := (nI_leI (a := n) (b := i) (by omega) (by omega)).mp c_1
      have hkN : i = n := by omega
      subst hkN
      exact hk  _ _ _ hP hD hS (lv_sub hl [0, 1, 2] rfl)
    · -- no: nI i lt nI n
      have c_1 : ¬ n ≤ i := fun z => c_1 ((nI_leI (a := n) (b := i) (by omega) (by omega)).mpr z)
      refine lv_iconst (v := 0) hx hb dX4_startWalks_20 (by decide) ?_
      refine lv_istore_n (lv' := [(3, .int 0), (0, .ref h0), (1, .int b), (2, .int (nI i))]) hx hb dX4_startWalks_21 rfl hl (by decide) rfl (fun ls hl => ?_)
      refine lp_X4_startWalks_22 C h0 h1 h2 h3 st lg n (swI wk0 st b n i) b i (by first | omega | assumption) (by first | omega | assumption) (fun  H locs ls hP hD hS hl => ?_) (n + 1) 0 (swI wk0 st b n i) (by omega) (by omega) rfl  _ _ _ hP hD hS (lv_sub hl [1, 2, 3, 0] rfl)
      have hP : va_P G.1 vwCl [(h0, .inr (4, [.ref h1, .ref h2, .ref h3, .int (nI n)])), (h1, .inl (G.2 1, 144, .inr (.inl st))), (h2, .inl (G.2 1, 144, .inr (.inl (swJ (swI wk0 st b n i) st b i n)))), (h3, .inl (G.2 1, 144, .inr (.inl lg)))] H := hP
      have hD : va_D A [(h0, .inr (4, [.ref h1, .ref h2, .ref h3, .int (nI n)])), (h1, .inl (G.2 1, 144, .inr (.inl st))), (h2, .inl (G.2 1, 144, .inr (.inl (swJ (swI wk0 st b n i) st b i n)))), (h3, .inl (G.2 1, 144, .inr (.inl lg)))] := hD
      refine lv_iinc (v := nI (i + 1)) (lv' := [(2, .int (nI (i + 1))), (0, .ref h0), (1, .int b), (3, .int (nI n))]) hx hb dX4_startWalks_74 hl (k := 2) rfl (nI_inc _) (by decide) rfl (fun ls hl => ?_)
      refine lv_goto (tgt := 12) hx hb dX4_startWalks_77 (by decide) ?_
      exact ih (i + 1) (swJ (swI wk0 st b n i) st b i n) (by omega) (by omega) rfl  _ _ _ hP hD hS (lv_sub hl [1, 2, 0] rfl)

set_option maxHeartbeats 4000000 in
set_option maxRecDepth 100000 in
theorem c_X4_startWalks (l : Launch) (G : gT) (h0 : Nat) (h1 : Nat) (h2 : Nat) (h3 : Nat) (st : Nat → Int64) (wk : Nat → Int64) (lg : Nat → Int64) (n : Nat) (b : Int32) (ST : Nat → Nat → Int64) (hn : n ≤ 12) (hst : AG n st ST) : Met l yX4_startWalks wsX4_startWalks ({ frames := 1, cells := 0, slots := 0, locals := 24 }) (cPre G [.ref h0, .int b] [(h0, .inr (4, [.ref h1, .ref h2, .ref h3, .int (nI n)])), (h1, .inl (G.2 1, 144, .inr (.inl st))), (h2, .inl (G.2 1, 144, .inr (.inl wk))), (h3, .inl (G.2 1, 144, .inr (.inl lg)))]) (va_Qv (fun (u : (Nat → Int64)) => AG n u (swM ST b)) (cW G [(h0, .inr (4, [.ref h1, .ref h2, .ref h3, .int (nI n)])), (h1, .inl (G.2 1, 144, .inr (.inl st))), (h2, .inl (G.2 1, 144, .inr (.inl wk))), (h3, .inl (G.2 1, 144, .inr (.inl lg)))] (fun (u : (Nat → Int64)) => [(h0, .inr (4, [.ref h1, .ref h2, .ref h3, .int (nI n)])), (h1, .inl (G.2 1, 144, .inr (.inl st))), (h2, .inl (G.2 1, 144, .inr (.inl u))), (h3, .inl (G.2 1, 144, .inr (.inl lg)))])) (pB [(h0, .inr (4, [.ref h1, .ref h2, .ref h3, .int (nI n)])), (h1, .inl (G.2 1, 144, .inr (.inl st))), (h2, .inl (G.2 1, 144, .inr (.inl wk))), (h3, .inl (G.2 1, 144, .inr (.inl lg)))])) 0 0 (pB [(h0, .inr (4, [.ref h1, .ref h2, .ref h3, .int (nI n)])), (h1, .inl (G.2 1, 144, .inr (.inl st))), (h2, .inl (G.2 1, 144, .inr (.inl wk))), (h3, .inl (G.2 1, 144, .inr (.inl lg)))]) := by
  refine ofCX (G := G) (cc := cX4_startWalks) (maxL := 4) (ret := none) (by decide) rfl (Nat.le_of_ble_eq_true rfl) ?_
  intro p e s m below meth c ls C hr hin hD hP hl
  obtain ⟨hx, hb, hml, hown, hts, hlocks, hK⟩ := id C
  have hown : s.vm.findClass RX4 = some m.cls := hown
  have hfl_15 := hts (.fieldLink RX4 15 "AfterDesk$QuarrelSeeker" "walks" "[J") (by decide +kernel)
  have hin_X4 : ∀ w ∈ wsX40, w ∈ wsX4_startWalks := by decide +kernel
  have hcl_63 := hts (.constantLong RX4 63 (1152921504606846976)) (by decide +kernel)
  generalize hAe : pB [(h0, .inr (4, [.ref h1, .ref h2, .ref h3, .int (nI n)])), (h1, .inl (G.2 1, 144, .inr (.inl st))), (h2, .inl (G.2 1, 144, .inr (.inl wk))), (h3, .inl (G.2 1, 144, .inr (.inl lg)))] = A at hD ⊢
  have hS : va_S A s.heap s.heap [] := va_S.rf
  have hP : va_P G.1 vwCl [(h0, .inr (4, [.ref h1, .ref h2, .ref h3, .int (nI n)])), (h1, .inl (G.2 1, 144, .inr (.inl st))), (h2, .inl (G.2 1, 144, .inr (.inl wk))), (h3, .inl (G.2 1, 144, .inr (.inl lg)))] s.heap := hP
  have hD : va_D A [(h0, .inr (4, [.ref h1, .ref h2, .ref h3, .int (nI n)])), (h1, .inl (G.2 1, 144, .inr (.inl st))), (h2, .inl (G.2 1, 144, .inr (.inl wk))), (h3, .inl (G.2 1, 144, .inr (.inl lg)))] := hD
  have hl : lv_has ls 4 [(0, .ref h0), (1, .int b)] := hl
  refine lv_aload_n hx hb dX4_startWalks_0 rfl (lv_at hl 0 rfl) ?_
  refine va_get (D := G.1) (ci := 4) (v := .ref h2) (C := RX4) (T := TX4) (N := 4) hx hb hts hin_X4 hown hK.1 hP 0 rfl rfl 1 (by decide) hfl_15 (fun _ h9 => h9) rfl dX4_startWalks_1 ?_
  refine lv_ldc2 hx hb hown hcl_63 dX4_startWalks_4 ?_
  refine xV (S := (Nat → Int64)) (va_runS (As := [.ref h2, .long 1152921504606846976]) (rest := []) ⟨hx, hb, hml, hown, hts⟩ (c_J7_fill_d0a16 l G h2 144 wk 1152921504606846976 (by first | omega | assumption)) (va_cwS 2 hts gX4_startWalks_J7_fill_d0a16 rfl rfl rfl (by decide +kernel) ⟨Nat.le_of_ble_eq_true rfl, Nat.le_of_ble_eq_true rfl⟩) (pS [.ref h2, .long 1152921504606846976] hK (hP.sub (ws' := [(h2, .inl (G.2 1, 144, .inr (.inl wk)))]) [2] rfl) (hD.sub (ws' := [(h2, .inl (G.2 1, 144, .inr (.inl wk)))]) [2] (by decide) rfl)) rfl rfl hl.1 rfl (lv_room (Nat.le_of_ble_eq_true rfl)) dX4_startWalks_7 ⟨Nat.zero_le _, Nat.zero_le _⟩) hP hD hS [2] [0, 1, 3] (wr := [(h0, .inr (4, [.ref h1, .ref h2, .ref h3, .int (nI n)])), (h1, .inl (G.2 1, 144, .inr (.inl st))), (h3, .inl (G.2 1, 144, .inr (.inl lg)))]) rfl rfl (by decide) (by decide) [0, 1, 3, 2] (w2 := fun (u_3 : (Nat → Int64)) => [(h0, .inr (4, [.ref h1, .ref h2, .ref h3, .int (nI n)])), (h1, .inl (G.2 1, 144, .inr (.inl st))), (h2, .inl (G.2 1, 144, .inr (.inl u_3))), (h3, .inl (G.2 1, 144, .inr (.inl lg)))]) (fun _ => rfl) (by decide) (fun u_3 H locs hw_4 hP hD hS => ?_)
  obtain ⟨gv_1, rfl⟩ : ∃ z, z = u_3 := ⟨_, rfl⟩
  (try dsimp only at hw_4); subst hw_4
  have hP : va_P G.1 vwCl [(h0, .inr (4, [.ref h1, .ref h2, .ref h3, .int (nI n)])), (h1, .inl (G.2 1, 144, .inr (.inl st))), (h2, .inl (G.2 1, 144, .inr (.inl (fillF 1152921504606846976 wk 144)))), (h3, .inl (G.2 1, 144, .inr (.inl lg)))] H := hP
  have hD : va_D A [(h0, .inr (4, [.ref h1, .ref h2, .ref h3, .int (nI n)])), (h1, .inl (G.2 1, 144, .inr (.inl st))), (h2, .inl (G.2 1, 144, .inr (.inl (fillF 1152921504606846976 wk 144)))), (h3, .inl (G.2 1, 144, .inr (.inl lg)))] := hD
  refine lv_iconst (v := 0) hx hb dX4_startWalks_10 (by decide) ?_
  refine lv_istore_n (lv' := [(2, .int 0), (0, .ref h0), (1, .int b)]) hx hb dX4_startWalks_11 rfl hl (by decide) rfl (fun ls hl => ?_)
  refine lp_X4_startWalks_12 C h0 h1 h2 h3 st lg n wk b (by first | omega | assumption) (fun  H locs ls hP hD hS hl => ?_) (n + 1) 0 (fillF 1152921504606846976 wk 144) (by omega) (by omega) rfl  _ _ _ hP hD hS (lv_sub hl [1, 2, 0] rfl)
  have hP : va_P G.1 vwCl [(h0, .inr (4, [.ref h1, .ref h2, .ref h3, .int (nI n)])), (h1, .inl (G.2 1, 144, .inr (.inl st))), (h2, .inl (G.2 1, 144, .inr (.inl (swI wk st b n n)))), (h3, .inl (G.2 1, 144, .inr (.inl lg)))] H := hP
  have hD : va_D A [(h0, .inr (4, [.ref h1, .ref h2, .ref h3, .int (nI n)])), (h1, .inl (G.2 1, 144, .inr (.inl st))), (h2, .inl (G.2 1, 144, .inr (.inl (swI wk st b n n)))), (h3, .inl (G.2 1, 144, .inr (.inl lg)))] := hD
  exact rtV C hr hAe (u := (swI wk st b n n)) hP hD hS dX4_startWalks_80 (by exact swI_AG hn hst)

set_option maxHeartbeats 4000000 in
set_option maxRecDepth 100000 in
theorem lp_X4_addStep_16 {p : Program} {l : Launch} {e : Env} {R : Room} {s : State} {m : MethodId} {args : Array Value} {below : List Frame} {meth : Method} {c : Code} {A : Nat → Prop} {H0 : Heap} {Q : State → Prop} {G : gT} (C : CX p s m meth c args cX4_addStep 9 RX4 wsX4_addStep G) (h0 : Nat) (h1 : Nat) (h2 : Nat) (h3 : Nat) (st : Nat → Int64) (wk : Nat → Int64) (n : Nat) (lg0 : Nat → Int64) (a : Nat) (v : Nat) (x : Int64) (b : Int32) (hn : n ≤ 12) (ha : a < n) (hv : v < n) (hk : ∀ (H : Heap) (locs : List Loc) (ls : Array Slot), va_P G.1 vwCl [(h0, .inr (4, [.ref h1, .ref h2, .ref h3, .int (nI n)])), (h1, .inl (G.2 1, 144, .inr (.inl st))), (h2, .inl (G.2 1, 144, .inr (.inl wk))), (h3, .inl (G.2 1, 144, .inr (.inl (asF lg0 st a v x b n))))] H → va_D A [(h0, .inr (4, [.ref h1, .ref h2, .ref h3, .int (nI n)])), (h1, .inl (G.2 1, 144, .inr (.inl st))), (h2, .inl (G.2 1, 144, .inr (.inl wk))), (h3, .inl (G.2 1, 144, .inr (.inl (asF lg0 st a v x b n))))] → va_S A H0 H locs → lv_has ls 9 [(0, .ref h0), (1, .int (nI a)), (2, .int (nI v)), (3, .int b), (4, .long x), (6, .int (nI n))] → W p l e R s m args below meth c H locs 0 0 Q (F0 m 101 ls [])) : ∀ (fu t : Nat) (lg : Nat → Int64), t ≤ n → n - t < fu → lg = asF lg0 st a v x b t → ∀ (H : Heap) (locs : List Loc) (ls : Array Slot), va_P G.1 vwCl [(h0, .inr (4, [.ref h1, .ref h2, .ref h3, .int (nI n)])), (h1, .inl (G.2 1, 144, .inr (.inl st))), (h2, .inl (G.2 1, 144, .inr (.inl wk))), (h3, .inl (G.2 1, 144, .inr (.inl lg)))] H → va_D A [(h0, .inr (4, [.ref h1, .ref h2, .ref h3, .int (nI n)])), (h1, .inl (G.2 1, 144, .inr (.inl st))), (h2, .inl (G.2 1, 144, .inr (.inl wk))), (h3, .inl (G.2 1, 144, .inr (.inl lg)))] → va_S A H0 H locs → lv_has ls 9 [(0, .ref h0), (1, .int (nI a)), (2, .int (nI v)), (3, .int b), (4, .long x), (6, .int (nI t))] → W p l e R s m args below meth c H locs 0 0 Q (F0 m 16 ls []) := by
  obtain ⟨hx, hb, hml, hown, hts, hlocks, hK⟩ := id C
  have hfl_21 := hts (.fieldLink RX4 21 "AfterDesk$QuarrelSeeker" "size" "I") (by decide +kernel)
  have hin_X4 : ∀ w ∈ wsX40, w ∈ wsX4_addStep := by decide +kernel
  have hfl_9 := hts (.fieldLink RX4 9 "AfterDesk$QuarrelSeeker" "steps" "[J") (by decide +kernel)
  have hcl_63 := hts (.constantLong RX4 63 (1152921504606846976)) (by decide +kernel)
  have hfl_18 := hts (.fieldLink RX4 18 "AfterDesk$QuarrelSeeker" "longer" "[J") (by decide +kernel)
  intro fu
  induction fu with
  | zero =>
    intro t lg h1 h2
    exact absurd h2 (by omega)
  | succ fu ih =>
    intro t lg hkle hkn e_lg  H locs ls hP hD hS hl
    subst e_lg
    refine lv_iload hx hb dX4_addStep_16 (lv_at hl 5 rfl) ?_
    refine lv_aload_n hx hb dX4_addStep_18 rfl (lv_at hl 0 rfl) ?_
    refine va_get (D := G.1) (ci := 4) (v := .int (nI n)) (C := RX4) (T := TX4) (N := 4) hx hb hts hin_X4 hown hK.1 hP 0 rfl rfl 3 (by decide) hfl_21 (fun _ h9 => h9) rfl dX4_addStep_19 ?_
    refine lv_icmp_ge (tgt := 101) hx hb dX4_addStep_22 (by decide) (fun c_1 => ?_) (fun c_1 => ?_)
    · -- yes: nI t ge nI n
      have c_1 : n ≤ t := (nI_leI (a := n) (b := t) (by omega) (by omega)).mp c_1
      have hkN : t = n := by omega
      subst hkN
      exact hk  _ _ _ hP hD hS (lv_sub hl [0, 1, 2, 3, 4, 5] rfl)
    · -- no: nI t lt nI n
      have c_1 : ¬ n ≤ t := fun z => c_1 ((nI_leI (a := n) (b := t) (by omega) (by omega)).mpr z)
      refine lv_aload_n hx hb dX4_addStep_25 rfl (lv_at hl 0 rfl) ?_
      refine va_get (D := G.1) (ci := 4) (v := .ref h1) (C := RX4) (T := TX4) (N := 4) hx hb hts hin_X4 hown hK.1 hP 0 rfl rfl 0 (by decide) hfl_9 (fun _ h9 => h9) rfl dX4_addStep_26 ?_
      refine lv_iload_n hx hb dX4_addStep_29 rfl (lv_at hl 2 rfl) ?_
      refine lv_bipush (v := 12) hx hb dX4_addStep_30 (by decide) ?_
      refine lv_imul hx hb dX4_addStep_32 ?_
      refine nmI (pk_mul v 12) ?_
      refine lv_iload hx hb dX4_addStep_33 (lv_at hl 5 rfl) ?_
      refine lv_iadd hx hb dX4_addStep_35 ?_
      refine nmI (nI_add (v * 12) t) ?_
      refine aJld hx hb hK.1 hP 1 1 rfl rfl (k := ((v * 12) + t)) rfl (by omega) (by decide) dX4_addStep_36 ?_
      refine lv_lstore (lv' := [(7, .long (st ((v * 12) + t))), (0, .ref h0), (1, .int (nI a)), (2, .int (nI v)), (3, .int b), (4, .long x), (6, .int (nI t))]) hx hb dX4_addStep_37 hl (by decide) rfl (fun ls hl => ?_)
      refine lv_iload_n hx hb dX4_addStep_39 rfl (lv_at hl 4 rfl) ?_
      refine lv_iload hx hb dX4_addStep_40 (lv_at hl 6 rfl) ?_
      refine lv_ishr hx hb dX4_addStep_42 ?_
      refine lv_iconst (v := 1) hx hb dX4_addStep_43 (by decide) ?_
      refine lv_iand hx hb dX4_addStep_44 ?_
      refine lv_if_eq (tgt := 95) hx hb dX4_addStep_45 (by decide) (fun c_2 => ?_) (fun c_2 => ?_)
      · -- yes: (b >>> ((nI t) &&& 31)) &&& 1 eq 0
        refine lv_iinc (v := nI (t + 1)) (lv' := [(6, .int (nI (t + 1))), (7, .long (st ((v * 12) + t))), (0, .ref h0), (1, .int (nI a)), (2, .int (nI v)), (3, .int b), (4, .long x)]) hx hb dX4_addStep_95 hl (k := 6) rfl (nI_inc _) (by decide) rfl (fun ls hl => ?_)
        refine lv_goto (tgt := 16) hx hb dX4_addStep_98 (by decide) ?_
        exact ih (t + 1) (asF lg0 st a v x b t) (by omega) (by omega) (by rw [asF_s]; first | rw [if_pos ⟨by assumption, by omega, by omega⟩] | rw [if_neg (fun z => z.1 (by assumption))] | rw [if_neg (fun z => absurd z.2 (by omega))])  _ _ _ hP hD hS (lv_sub hl [2, 3, 4, 5, 6, 0] rfl)
      · -- no: (b >>> ((nI t) &&& 31)) &&& 1 ne 0
        refine lv_lload hx hb dX4_addStep_48 (lv_at hl 0 rfl) ?_
        refine lv_ldc2 hx hb hown hcl_63 dX4_addStep_50 ?_
        refine W.lcmp hx hb dX4_addStep_53 ?_
        refine lv_if_ge (tgt := 95) hx hb dX4_addStep_54 (by decide) (fun c_3 => ?_) (fun c_3 => ?_)
        · -- yes: lg_cmp (st ((v * 12) + t)) 1152921504606846976 ge 0
          have c_3 : 1152921504606846976 ≤ (st ((v * 12) + t)).toInt := Int64.le_iff_toInt_le.mp ((lg_cmp_ge _ _).mp c_3)
          refine lv_iinc (v := nI (t + 1)) (lv' := [(6, .int (nI (t + 1))), (7, .long (st ((v * 12) + t))), (0, .ref h0), (1, .int (nI a)), (2, .int (nI v)), (3, .int b), (4, .long x)]) hx hb dX4_addStep_95 hl (k := 6) rfl (nI_inc _) (by decide) rfl (fun ls hl => ?_)
          refine lv_goto (tgt := 16) hx hb dX4_addStep_98 (by decide) ?_
          exact ih (t + 1) (asF lg0 st a v x b t) (by omega) (by omega) (by rw [asF_s]; first | rw [if_pos ⟨by assumption, by omega, by omega⟩] | rw [if_neg (fun z => z.1 (by assumption))] | rw [if_neg (fun z => absurd z.2 (by omega))])  _ _ _ hP hD hS (lv_sub hl [2, 3, 4, 5, 6, 0] rfl)
        · -- no: lg_cmp (st ((v * 12) + t)) 1152921504606846976 lt 0
          have c_3 : ¬ 1152921504606846976 ≤ (st ((v * 12) + t)).toInt := fun z => c_3 ((lg_cmp_ge _ _).mpr (Int64.le_iff_toInt_le.mpr z))
          refine lv_lload hx hb dX4_addStep_57 (lv_at hl 5 rfl) ?_
          refine lv_lload hx hb dX4_addStep_59 (lv_at hl 0 rfl) ?_
          refine lv_ladd hx hb dX4_addStep_61 ?_
          refine lv_aload_n hx hb dX4_addStep_62 rfl (lv_at hl 1 rfl) ?_
          refine va_get (D := G.1) (ci := 4) (v := .ref h3) (C := RX4) (T := TX4) (N := 4) hx hb hts hin_X4 hown hK.1 hP 0 rfl rfl 2 (by decide) hfl_18 (fun _ h9 => h9) rfl dX4_addStep_63 ?_
          refine lv_iload_n hx hb dX4_addStep_66 rfl (lv_at hl 2 rfl) ?_
          refine lv_bipush (v := 12) hx hb dX4_addStep_67 (by decide) ?_
          refine lv_imul hx hb dX4_addStep_69 ?_
          refine nmI (pk_mul a 12) ?_
          refine lv_iload hx hb dX4_addStep_70 (lv_at hl 6 rfl) ?_
          refine lv_iadd hx hb dX4_addStep_72 ?_
          refine nmI (nI_add (a * 12) t) ?_
          refine aJld hx hb hK.1 hP 3 1 rfl rfl (k := ((a * 12) + t)) rfl (by omega) (by decide) dX4_addStep_73 ?_
          refine W.lcmp hx hb dX4_addStep_74 ?_
          refine lv_if_ge (tgt := 95) hx hb dX4_addStep_75 (by decide) (fun c_4 => ?_) (fun c_4 => ?_)
          · -- yes: lg_cmp (x + (st ((v * 12) + t))) ((asF lg0 st a v x b t) ((a ge 0
            have c_4 : ((asF lg0 st a v x b t) ((a * 12) + t)).toInt ≤ (x + (st ((v * 12) + t))).toInt := Int64.le_iff_toInt_le.mp ((lg_cmp_ge _ _).mp c_4)
            refine lv_iinc (v := nI (t + 1)) (lv' := [(6, .int (nI (t + 1))), (7, .long (st ((v * 12) + t))), (0, .ref h0), (1, .int (nI a)), (2, .int (nI v)), (3, .int b), (4, .long x)]) hx hb dX4_addStep_95 hl (k := 6) rfl (nI_inc _) (by decide) rfl (fun ls hl => ?_)
            refine lv_goto (tgt := 16) hx hb dX4_addStep_98 (by decide) ?_
            exact ih (t + 1) (asF lg0 st a v x b t) (by omega) (by omega) (by rw [asF_s]; first | rw [if_pos ⟨by assumption, by omega, by omega⟩] | rw [if_neg (fun z => z.1 (by assumption))] | rw [if_neg (fun z => absurd z.2 (by omega))])  _ _ _ hP hD hS (lv_sub hl [2, 3, 4, 5, 6, 0] rfl)
          · -- no: lg_cmp (x + (st ((v * 12) + t))) ((asF lg0 st a v x b t) ((a lt 0
            have c_4 : ¬ ((asF lg0 st a v x b t) ((a * 12) + t)).toInt ≤ (x + (st ((v * 12) + t))).toInt := fun z => c_4 ((lg_cmp_ge _ _).mpr (Int64.le_iff_toInt_le.mpr z))
            refine lv_aload_n hx hb dX4_addStep_78 rfl (lv_at hl 1 rfl) ?_
            refine va_get (D := G.1) (ci := 4) (v := .ref h3) (C := RX4) (T := TX4) (N := 4) hx hb hts hin_X4 hown hK.1 hP 0 rfl rfl 2 (by decide) hfl_18 (fun _ h9 => h9) rfl dX4_addStep_79 ?_
            refine lv_iload_n hx hb dX4_addStep_82 rfl (lv_at hl 2 rfl) ?_
            refine lv_bipush (v := 12) hx hb dX4_addStep_83 (by decide) ?_
            refine lv_imul hx hb dX4_addStep_85 ?_
            refine nmI (pk_mul a 12) ?_
            refine lv_iload hx hb dX4_addStep_86 (lv_at hl 6 rfl) ?_
            refine lv_iadd hx hb dX4_addStep_88 ?_
            refine nmI (nI_add (a * 12) t) ?_
            refine lv_lload hx hb dX4_addStep_89 (lv_at hl 5 rfl) ?_
            refine lv_lload hx hb dX4_addStep_91 (lv_at hl 0 rfl) ?_
            refine lv_ladd hx hb dX4_addStep_93 ?_
            refine aJst hx hb hK.1 hP hD hS 3 1 rfl rfl (k := ((a * 12) + t)) rfl (by omega) (by decide) dX4_addStep_94 (fun H locs hP hD hS => ?_)
            have hP : va_P G.1 vwCl [(h0, .inr (4, [.ref h1, .ref h2, .ref h3, .int (nI n)])), (h1, .inl (G.2 1, 144, .inr (.inl st))), (h2, .inl (G.2 1, 144, .inr (.inl wk))), (h3, .inl (G.2 1, 144, .inr (.inl (vp_updL (asF lg0 st a v x b t) ((a * 12) + t) (x + (st ((v * 12) + t)))))))] H := hP
            have hD : va_D A [(h0, .inr (4, [.ref h1, .ref h2, .ref h3, .int (nI n)])), (h1, .inl (G.2 1, 144, .inr (.inl st))), (h2, .inl (G.2 1, 144, .inr (.inl wk))), (h3, .inl (G.2 1, 144, .inr (.inl (vp_updL (asF lg0 st a v x b t) ((a * 12) + t) (x + (st ((v * 12) + t)))))))] := hD
            refine lv_iinc (v := nI (t + 1)) (lv' := [(6, .int (nI (t + 1))), (7, .long (st ((v * 12) + t))), (0, .ref h0), (1, .int (nI a)), (2, .int (nI v)), (3, .int b), (4, .long x)]) hx hb dX4_addStep_95 hl (k := 6) rfl (nI_inc _) (by decide) rfl (fun ls hl => ?_)
            refine lv_goto (tgt := 16) hx hb dX4_addStep_98 (by decide) ?_
            exact ih (t + 1) (vp_updL (asF lg0 st a v x b t) ((a * 12) + t) (x + (st ((v * 12) + t)))) (by omega) (by omega) (by rw [asF_s]; first | rw [if_pos ⟨by assumption, by omega, by omega⟩] | rw [if_neg (fun z => z.1 (by assumption))] | rw [if_neg (fun z => absurd z.2 (by omega))])  _ _ _ hP hD hS (lv_sub hl [2, 3, 4, 5, 6, 0] rfl)

set_option maxHeartbeats 4000000 in
set_option maxRecDepth 100000 in
theorem c_X4_addStep (l : Launch) (G : gT) (h0 : Nat) (h1 : Nat) (h2 : Nat) (h3 : Nat) (st : Nat → Int64) (wk : Nat → Int64) (lg : Nat → Int64) (n : Nat) (a : Nat) (v : Nat) (b : Int32) (hn : n ≤ 12) (ha : a < n) (hv : v < n) : Met l yX4_addStep wsX4_addStep ({ frames := 0, cells := 0, slots := 0, locals := 0 }) (cPre G [.ref h0, .int (nI a), .int (nI v), .int b] [(h0, .inr (4, [.ref h1, .ref h2, .ref h3, .int (nI n)])), (h1, .inl (G.2 1, 144, .inr (.inl st))), (h2, .inl (G.2 1, 144, .inr (.inl wk))), (h3, .inl (G.2 1, 144, .inr (.inl lg)))]) (va_Qv (fun (u : (Nat → Int64)) => u = asF lg st a v (wk ((a * 12) + v)) b n) (cW G [(h0, .inr (4, [.ref h1, .ref h2, .ref h3, .int (nI n)])), (h1, .inl (G.2 1, 144, .inr (.inl st))), (h2, .inl (G.2 1, 144, .inr (.inl wk))), (h3, .inl (G.2 1, 144, .inr (.inl lg)))] (fun (u : (Nat → Int64)) => [(h0, .inr (4, [.ref h1, .ref h2, .ref h3, .int (nI n)])), (h1, .inl (G.2 1, 144, .inr (.inl st))), (h2, .inl (G.2 1, 144, .inr (.inl wk))), (h3, .inl (G.2 1, 144, .inr (.inl u)))])) (pB [(h0, .inr (4, [.ref h1, .ref h2, .ref h3, .int (nI n)])), (h1, .inl (G.2 1, 144, .inr (.inl st))), (h2, .inl (G.2 1, 144, .inr (.inl wk))), (h3, .inl (G.2 1, 144, .inr (.inl lg)))])) 0 0 (pB [(h0, .inr (4, [.ref h1, .ref h2, .ref h3, .int (nI n)])), (h1, .inl (G.2 1, 144, .inr (.inl st))), (h2, .inl (G.2 1, 144, .inr (.inl wk))), (h3, .inl (G.2 1, 144, .inr (.inl lg)))]) := by
  refine ofCX (G := G) (cc := cX4_addStep) (maxL := 9) (ret := none) (by decide) rfl (Nat.le_of_ble_eq_true rfl) ?_
  intro p e s m below meth c ls C hr hin hD hP hl
  obtain ⟨hx, hb, hml, hown, hts, hlocks, hK⟩ := id C
  have hown : s.vm.findClass RX4 = some m.cls := hown
  have hfl_15 := hts (.fieldLink RX4 15 "AfterDesk$QuarrelSeeker" "walks" "[J") (by decide +kernel)
  have hin_X4 : ∀ w ∈ wsX40, w ∈ wsX4_addStep := by decide +kernel
  generalize hAe : pB [(h0, .inr (4, [.ref h1, .ref h2, .ref h3, .int (nI n)])), (h1, .inl (G.2 1, 144, .inr (.inl st))), (h2, .inl (G.2 1, 144, .inr (.inl wk))), (h3, .inl (G.2 1, 144, .inr (.inl lg)))] = A at hD ⊢
  have hS : va_S A s.heap s.heap [] := va_S.rf
  have hP : va_P G.1 vwCl [(h0, .inr (4, [.ref h1, .ref h2, .ref h3, .int (nI n)])), (h1, .inl (G.2 1, 144, .inr (.inl st))), (h2, .inl (G.2 1, 144, .inr (.inl wk))), (h3, .inl (G.2 1, 144, .inr (.inl lg)))] s.heap := hP
  have hD : va_D A [(h0, .inr (4, [.ref h1, .ref h2, .ref h3, .int (nI n)])), (h1, .inl (G.2 1, 144, .inr (.inl st))), (h2, .inl (G.2 1, 144, .inr (.inl wk))), (h3, .inl (G.2 1, 144, .inr (.inl lg)))] := hD
  have hl : lv_has ls 9 [(0, .ref h0), (1, .int (nI a)), (2, .int (nI v)), (3, .int b)] := hl
  refine lv_aload_n hx hb dX4_addStep_0 rfl (lv_at hl 0 rfl) ?_
  refine va_get (D := G.1) (ci := 4) (v := .ref h2) (C := RX4) (T := TX4) (N := 4) hx hb hts hin_X4 hown hK.1 hP 0 rfl rfl 1 (by decide) hfl_15 (fun _ h9 => h9) rfl dX4_addStep_1 ?_
  refine lv_iload_n hx hb dX4_addStep_4 rfl (lv_at hl 1 rfl) ?_
  refine lv_bipush (v := 12) hx hb dX4_addStep_5 (by decide) ?_
  refine lv_imul hx hb dX4_addStep_7 ?_
  refine nmI (pk_mul a 12) ?_
  refine lv_iload_n hx hb dX4_addStep_8 rfl (lv_at hl 2 rfl) ?_
  refine lv_iadd hx hb dX4_addStep_9 ?_
  refine nmI (nI_add (a * 12) v) ?_
  refine aJld hx hb hK.1 hP 2 1 rfl rfl (k := ((a * 12) + v)) rfl (by omega) (by decide) dX4_addStep_10 ?_
  refine lv_lstore (lv' := [(4, .long (wk ((a * 12) + v))), (0, .ref h0), (1, .int (nI a)), (2, .int (nI v)), (3, .int b)]) hx hb dX4_addStep_11 hl (by decide) rfl (fun ls hl => ?_)
  refine lv_iconst (v := 0) hx hb dX4_addStep_13 (by decide) ?_
  refine lv_istore (lv' := [(6, .int 0), (4, .long (wk ((a * 12) + v))), (0, .ref h0), (1, .int (nI a)), (2, .int (nI v)), (3, .int b)]) hx hb dX4_addStep_14 hl (by decide) rfl (fun ls hl => ?_)
  refine lp_X4_addStep_16 C h0 h1 h2 h3 st wk n lg a v (wk ((a * 12) + v)) b (by first | omega | assumption) (by first | omega | assumption) (by first | omega | assumption) (fun  H locs ls hP hD hS hl => ?_) (n + 1) 0 lg (by omega) (by omega) rfl  _ _ _ hP hD hS (lv_sub hl [2, 3, 4, 5, 1, 0] rfl)
  have hP : va_P G.1 vwCl [(h0, .inr (4, [.ref h1, .ref h2, .ref h3, .int (nI n)])), (h1, .inl (G.2 1, 144, .inr (.inl st))), (h2, .inl (G.2 1, 144, .inr (.inl wk))), (h3, .inl (G.2 1, 144, .inr (.inl (asF lg st a v (wk ((a * 12) + v)) b n))))] H := hP
  have hD : va_D A [(h0, .inr (4, [.ref h1, .ref h2, .ref h3, .int (nI n)])), (h1, .inl (G.2 1, 144, .inr (.inl st))), (h2, .inl (G.2 1, 144, .inr (.inl wk))), (h3, .inl (G.2 1, 144, .inr (.inl (asF lg st a v (wk ((a * 12) + v)) b n))))] := hD
  exact rtV C hr hAe (u := (asF lg st a v (wk ((a * 12) + v)) b n)) hP hD hS dX4_addStep_101 rfl

set_option maxHeartbeats 4000000 in
set_option maxRecDepth 100000 in
theorem lp_X4_lengthenWalks_22 {p : Program} {l : Launch} {e : Env} {R : Room} {s : State} {m : MethodId} {args : Array Value} {below : List Frame} {meth : Method} {c : Code} {A : Nat → Prop} {H0 : Heap} {Q : State → Prop} {G : gT} (C : CX p s m meth c args cX4_lengthenWalks 4 RX4 wsX4_lengthenWalks G) (h0 : Nat) (h1 : Nat) (h2 : Nat) (h3 : Nat) (st : Nat → Int64) (wk : Nat → Int64) (n : Nat) (lg0 : Nat → Int64) (b : Int32) (a : Nat) (hn : n ≤ 12) (ha : a < n) (hRf : 1 ≤ R.frames) (hRl : 28 ≤ R.locals) (hk : ∀ (H : Heap) (locs : List Loc) (ls : Array Slot), va_P G.1 vwCl [(h0, .inr (4, [.ref h1, .ref h2, .ref h3, .int (nI n)])), (h1, .inl (G.2 1, 144, .inr (.inl st))), (h2, .inl (G.2 1, 144, .inr (.inl wk))), (h3, .inl (G.2 1, 144, .inr (.inl (lwV lg0 wk st b a n n))))] H → va_D A [(h0, .inr (4, [.ref h1, .ref h2, .ref h3, .int (nI n)])), (h1, .inl (G.2 1, 144, .inr (.inl st))), (h2, .inl (G.2 1, 144, .inr (.inl wk))), (h3, .inl (G.2 1, 144, .inr (.inl (lwV lg0 wk st b a n n))))] → va_S A H0 H locs → lv_has ls 4 [(0, .ref h0), (1, .int b), (2, .int (nI a)), (3, .int (nI n))] → W p l e R s m args below meth c H locs 0 0 Q (F0 m 61 ls [])) : ∀ (fu v : Nat) (lg : Nat → Int64), v ≤ n → n - v < fu → lg = lwV lg0 wk st b a n v → ∀ (H : Heap) (locs : List Loc) (ls : Array Slot), va_P G.1 vwCl [(h0, .inr (4, [.ref h1, .ref h2, .ref h3, .int (nI n)])), (h1, .inl (G.2 1, 144, .inr (.inl st))), (h2, .inl (G.2 1, 144, .inr (.inl wk))), (h3, .inl (G.2 1, 144, .inr (.inl lg)))] H → va_D A [(h0, .inr (4, [.ref h1, .ref h2, .ref h3, .int (nI n)])), (h1, .inl (G.2 1, 144, .inr (.inl st))), (h2, .inl (G.2 1, 144, .inr (.inl wk))), (h3, .inl (G.2 1, 144, .inr (.inl lg)))] → va_S A H0 H locs → lv_has ls 4 [(0, .ref h0), (1, .int b), (2, .int (nI a)), (3, .int (nI v))] → W p l e R s m args below meth c H locs 0 0 Q (F0 m 22 ls []) := by
  obtain ⟨hx, hb, hml, hown, hts, hlocks, hK⟩ := id C
  have hfl_21 := hts (.fieldLink RX4 21 "AfterDesk$QuarrelSeeker" "size" "I") (by decide +kernel)
  have hin_X4 : ∀ w ∈ wsX40, w ∈ wsX4_lengthenWalks := by decide +kernel
  have hfl_15 := hts (.fieldLink RX4 15 "AfterDesk$QuarrelSeeker" "walks" "[J") (by decide +kernel)
  have hcl_63 := hts (.constantLong RX4 63 (1152921504606846976)) (by decide +kernel)
  intro fu
  induction fu with
  | zero =>
    intro v lg h1 h2
    exact absurd h2 (by omega)
  | succ fu ih =>
    intro v lg hkle hkn e_lg  H locs ls hP hD hS hl
    subst e_lg
    refine lv_iload_n hx hb dX4_lengthenWalks_22 rfl (lv_at hl 3 rfl) ?_
    refine lv_aload_n hx hb dX4_lengthenWalks_23 rfl (lv_at hl 0 rfl) ?_
    refine va_get (D := G.1) (ci := 4) (v := .int (nI n)) (C := RX4) (T := TX4) (N := 4) hx hb hts hin_X4 hown hK.1 hP 0 rfl rfl 3 (by decide) hfl_21 (fun _ h9 => h9) rfl dX4_lengthenWalks_24 ?_
    refine lv_icmp_ge (tgt := 61) hx hb dX4_lengthenWalks_27 (by decide) (fun c_1 => ?_) (fun c_1 => ?_)
    · -- yes: nI v ge nI n
      have c_1 : n ≤ v := (nI_leI (a := n) (b := v) (by omega) (by omega)).mp c_1
      have hkN : v = n := by omega
      subst hkN
      exact hk  _ _ _ hP hD hS (lv_sub hl [0, 1, 2, 3] rfl)
    · -- no: nI v lt nI n
      have c_1 : ¬ n ≤ v := fun z => c_1 ((nI_leI (a := n) (b := v) (by omega) (by omega)).mpr z)
      refine lv_aload_n hx hb dX4_lengthenWalks_30 rfl (lv_at hl 0 rfl) ?_
      refine va_get (D := G.1) (ci := 4) (v := .ref h2) (C := RX4) (T := TX4) (N := 4) hx hb hts hin_X4 hown hK.1 hP 0 rfl rfl 1 (by decide) hfl_15 (fun _ h9 => h9) rfl dX4_lengthenWalks_31 ?_
      refine lv_iload_n hx hb dX4_lengthenWalks_34 rfl (lv_at hl 2 rfl) ?_
      refine lv_bipush (v := 12) hx hb dX4_lengthenWalks_35 (by decide) ?_
      refine lv_imul hx hb dX4_lengthenWalks_37 ?_
      refine nmI (pk_mul a 12) ?_
      refine lv_iload_n hx hb dX4_lengthenWalks_38 rfl (lv_at hl 3 rfl) ?_
      refine lv_iadd hx hb dX4_lengthenWalks_39 ?_
      refine nmI (nI_add (a * 12) v) ?_
      refine aJld hx hb hK.1 hP 2 1 rfl rfl (k := ((a * 12) + v)) rfl (by omega) (by decide) dX4_lengthenWalks_40 ?_
      refine lv_ldc2 hx hb hown hcl_63 dX4_lengthenWalks_41 ?_
      refine W.lcmp hx hb dX4_lengthenWalks_44 ?_
      refine lv_if_ge (tgt := 55) hx hb dX4_lengthenWalks_45 (by decide) (fun c_2 => ?_) (fun c_2 => ?_)
      · -- yes: lg_cmp (wk ((a * 12) + v)) 1152921504606846976 ge 0
        have c_2 : 1152921504606846976 ≤ (wk ((a * 12) + v)).toInt := Int64.le_iff_toInt_le.mp ((lg_cmp_ge _ _).mp c_2)
        refine lv_iinc (v := nI (v + 1)) (lv' := [(3, .int (nI (v + 1))), (0, .ref h0), (1, .int b), (2, .int (nI a))]) hx hb dX4_lengthenWalks_55 hl (k := 3) rfl (nI_inc _) (by decide) rfl (fun ls hl => ?_)
        refine lv_goto (tgt := 22) hx hb dX4_lengthenWalks_58 (by decide) ?_
        exact ih (v + 1) (lwV lg0 wk st b a n v) (by omega) (by omega) (by rw [lwV_s]; first | rw [if_pos (by omega)] | rw [if_neg (by omega)])  _ _ _ hP hD hS (lv_sub hl [1, 2, 3, 0] rfl)
      · -- no: lg_cmp (wk ((a * 12) + v)) 1152921504606846976 lt 0
        have c_2 : ¬ 1152921504606846976 ≤ (wk ((a * 12) + v)).toInt := fun z => c_2 ((lg_cmp_ge _ _).mpr (Int64.le_iff_toInt_le.mpr z))
        refine lv_aload_n hx hb dX4_lengthenWalks_48 rfl (lv_at hl 0 rfl) ?_
        refine lv_iload_n hx hb dX4_lengthenWalks_49 rfl (lv_at hl 2 rfl) ?_
        refine lv_iload_n hx hb dX4_lengthenWalks_50 rfl (lv_at hl 3 rfl) ?_
        refine lv_iload_n hx hb dX4_lengthenWalks_51 rfl (lv_at hl 1 rfl) ?_
        refine xV (S := (Nat → Int64)) (va_runV (As := [.int (nI a), .int (nI v), .int b]) (rest := []) ⟨hx, hb, hml, hown, hts⟩ (c_X4_addStep l G h0 h1 h2 h3 st wk (lwV lg0 wk st b a n v) n a v b (by first | omega | assumption) (by first | omega | assumption) (by first | omega | assumption)) (cwV 3 hts gX4_lengthenWalks_X4_addStep rfl rfl rfl (by decide +kernel) ⟨Nat.le_trans (Nat.le_of_ble_eq_true (m := 1) rfl) hRf, Nat.le_trans (Nat.le_of_ble_eq_true (m := 28) rfl) hRl⟩) (pV [.int (nI a), .int (nI v), .int b] hK (hP.sub (ws' := [(h0, .inr (4, [.ref h1, .ref h2, .ref h3, .int (nI n)])), (h1, .inl (G.2 1, 144, .inr (.inl st))), (h2, .inl (G.2 1, 144, .inr (.inl wk))), (h3, .inl (G.2 1, 144, .inr (.inl (lwV lg0 wk st b a n v))))]) [0, 1, 2, 3] rfl) (hD.sub (ws' := [(h0, .inr (4, [.ref h1, .ref h2, .ref h3, .int (nI n)])), (h1, .inl (G.2 1, 144, .inr (.inl st))), (h2, .inl (G.2 1, 144, .inr (.inl wk))), (h3, .inl (G.2 1, 144, .inr (.inl (lwV lg0 wk st b a n v))))]) [0, 1, 2, 3] (by decide) rfl) (ci := 4) (q0 := 0) rfl rfl) rfl rfl hl.1 rfl (lv_room (Nat.le_of_ble_eq_true rfl)) dX4_lengthenWalks_52 ⟨Nat.zero_le _, Nat.zero_le _⟩) hP hD hS [0, 1, 2, 3] [] (wr := []) rfl rfl (by decide) (by decide) [0, 1, 2, 3] (w2 := fun (u_5 : (Nat → Int64)) => [(h0, .inr (4, [.ref h1, .ref h2, .ref h3, .int (nI n)])), (h1, .inl (G.2 1, 144, .inr (.inl st))), (h2, .inl (G.2 1, 144, .inr (.inl wk))), (h3, .inl (G.2 1, 144, .inr (.inl u_5)))]) (fun _ => rfl) (by decide) (fun u_5 H locs hw_6 hP hD hS => ?_)
        obtain ⟨lgv_3, rfl⟩ : ∃ z, z = u_5 := ⟨_, rfl⟩
        (try dsimp only at hw_6); subst hw_6
        have hP : va_P G.1 vwCl [(h0, .inr (4, [.ref h1, .ref h2, .ref h3, .int (nI n)])), (h1, .inl (G.2 1, 144, .inr (.inl st))), (h2, .inl (G.2 1, 144, .inr (.inl wk))), (h3, .inl (G.2 1, 144, .inr (.inl (asF (lwV lg0 wk st b a n v) st a v (wk ((a * 12) + v)) b n))))] H := hP
        have hD : va_D A [(h0, .inr (4, [.ref h1, .ref h2, .ref h3, .int (nI n)])), (h1, .inl (G.2 1, 144, .inr (.inl st))), (h2, .inl (G.2 1, 144, .inr (.inl wk))), (h3, .inl (G.2 1, 144, .inr (.inl (asF (lwV lg0 wk st b a n v) st a v (wk ((a * 12) + v)) b n))))] := hD
        refine lv_iinc (v := nI (v + 1)) (lv' := [(3, .int (nI (v + 1))), (0, .ref h0), (1, .int b), (2, .int (nI a))]) hx hb dX4_lengthenWalks_55 hl (k := 3) rfl (nI_inc _) (by decide) rfl (fun ls hl => ?_)
        refine lv_goto (tgt := 22) hx hb dX4_lengthenWalks_58 (by decide) ?_
        exact ih (v + 1) (asF (lwV lg0 wk st b a n v) st a v (wk ((a * 12) + v)) b n) (by omega) (by omega) (by rw [lwV_s]; first | rw [if_pos (by omega)] | rw [if_neg (by omega)])  _ _ _ hP hD hS (lv_sub hl [1, 2, 3, 0] rfl)

set_option maxHeartbeats 4000000 in
set_option maxRecDepth 100000 in
theorem lp_X4_lengthenWalks_12 {p : Program} {l : Launch} {e : Env} {R : Room} {s : State} {m : MethodId} {args : Array Value} {below : List Frame} {meth : Method} {c : Code} {A : Nat → Prop} {H0 : Heap} {Q : State → Prop} {G : gT} (C : CX p s m meth c args cX4_lengthenWalks 4 RX4 wsX4_lengthenWalks G) (h0 : Nat) (h1 : Nat) (h2 : Nat) (h3 : Nat) (st : Nat → Int64) (wk : Nat → Int64) (n : Nat) (lg0 : Nat → Int64) (b : Int32) (hn : n ≤ 12) (hRf : 1 ≤ R.frames) (hRl : 28 ≤ R.locals) (hk : ∀ (H : Heap) (locs : List Loc) (ls : Array Slot), va_P G.1 vwCl [(h0, .inr (4, [.ref h1, .ref h2, .ref h3, .int (nI n)])), (h1, .inl (G.2 1, 144, .inr (.inl st))), (h2, .inl (G.2 1, 144, .inr (.inl wk))), (h3, .inl (G.2 1, 144, .inr (.inl (lwA lg0 wk st b n n))))] H → va_D A [(h0, .inr (4, [.ref h1, .ref h2, .ref h3, .int (nI n)])), (h1, .inl (G.2 1, 144, .inr (.inl st))), (h2, .inl (G.2 1, 144, .inr (.inl wk))), (h3, .inl (G.2 1, 144, .inr (.inl (lwA lg0 wk st b n n))))] → va_S A H0 H locs → lv_has ls 4 [(0, .ref h0), (1, .int b), (2, .int (nI n))] → W p l e R s m args below meth c H locs 0 0 Q (F0 m 67 ls [])) : ∀ (fu a : Nat) (lg : Nat → Int64), a ≤ n → n - a < fu → lg = lwA lg0 wk st b n a → ∀ (H : Heap) (locs : List Loc) (ls : Array Slot), va_P G.1 vwCl [(h0, .inr (4, [.ref h1, .ref h2, .ref h3, .int (nI n)])), (h1, .inl (G.2 1, 144, .inr (.inl st))), (h2, .inl (G.2 1, 144, .inr (.inl wk))), (h3, .inl (G.2 1, 144, .inr (.inl lg)))] H → va_D A [(h0, .inr (4, [.ref h1, .ref h2, .ref h3, .int (nI n)])), (h1, .inl (G.2 1, 144, .inr (.inl st))), (h2, .inl (G.2 1, 144, .inr (.inl wk))), (h3, .inl (G.2 1, 144, .inr (.inl lg)))] → va_S A H0 H locs → lv_has ls 4 [(0, .ref h0), (1, .int b), (2, .int (nI a))] → W p l e R s m args below meth c H locs 0 0 Q (F0 m 12 ls []) := by
  obtain ⟨hx, hb, hml, hown, hts, hlocks, hK⟩ := id C
  have hfl_21 := hts (.fieldLink RX4 21 "AfterDesk$QuarrelSeeker" "size" "I") (by decide +kernel)
  have hin_X4 : ∀ w ∈ wsX40, w ∈ wsX4_lengthenWalks := by decide +kernel
  intro fu
  induction fu with
  | zero =>
    intro a lg h1 h2
    exact absurd h2 (by omega)
  | succ fu ih =>
    intro a lg hkle hkn e_lg  H locs ls hP hD hS hl
    subst e_lg
    refine lv_iload_n hx hb dX4_lengthenWalks_12 rfl (lv_at hl 2 rfl) ?_
    refine lv_aload_n hx hb dX4_lengthenWalks_13 rfl (lv_at hl 0 rfl) ?_
    refine va_get (D := G.1) (ci := 4) (v := .int (nI n)) (C := RX4) (T := TX4) (N := 4) hx hb hts hin_X4 hown hK.1 hP 0 rfl rfl 3 (by decide) hfl_21 (fun _ h9 => h9) rfl dX4_lengthenWalks_14 ?_
    refine lv_icmp_ge (tgt := 67) hx hb dX4_lengthenWalks_17 (by decide) (fun c_1 => ?_) (fun c_1 => ?_)
    · -- yes: nI a ge nI n
      have c_1 : n ≤ a := (nI_leI (a := n) (b := a) (by omega) (by omega)).mp c_1
      have hkN : a = n := by omega
      subst hkN
      exact hk  _ _ _ hP hD hS (lv_sub hl [0, 1, 2] rfl)
    · -- no: nI a lt nI n
      have c_1 : ¬ n ≤ a := fun z => c_1 ((nI_leI (a := n) (b := a) (by omega) (by omega)).mpr z)
      refine lv_iconst (v := 0) hx hb dX4_lengthenWalks_20 (by decide) ?_
      refine lv_istore_n (lv' := [(3, .int 0), (0, .ref h0), (1, .int b), (2, .int (nI a))]) hx hb dX4_lengthenWalks_21 rfl hl (by decide) rfl (fun ls hl => ?_)
      refine lp_X4_lengthenWalks_22 C h0 h1 h2 h3 st wk n (lwA lg0 wk st b n a) b a (by first | omega | assumption) (by first | omega | assumption) (Nat.le_trans (Nat.le_of_ble_eq_true (m := 1) rfl) hRf) (Nat.le_trans (Nat.le_of_ble_eq_true (m := 28) rfl) hRl) (fun  H locs ls hP hD hS hl => ?_) (n + 1) 0 (lwA lg0 wk st b n a) (by omega) (by omega) rfl  _ _ _ hP hD hS (lv_sub hl [1, 2, 3, 0] rfl)
      have hP : va_P G.1 vwCl [(h0, .inr (4, [.ref h1, .ref h2, .ref h3, .int (nI n)])), (h1, .inl (G.2 1, 144, .inr (.inl st))), (h2, .inl (G.2 1, 144, .inr (.inl wk))), (h3, .inl (G.2 1, 144, .inr (.inl (lwV (lwA lg0 wk st b n a) wk st b a n n))))] H := hP
      have hD : va_D A [(h0, .inr (4, [.ref h1, .ref h2, .ref h3, .int (nI n)])), (h1, .inl (G.2 1, 144, .inr (.inl st))), (h2, .inl (G.2 1, 144, .inr (.inl wk))), (h3, .inl (G.2 1, 144, .inr (.inl (lwV (lwA lg0 wk st b n a) wk st b a n n))))] := hD
      refine lv_iinc (v := nI (a + 1)) (lv' := [(2, .int (nI (a + 1))), (0, .ref h0), (1, .int b), (3, .int (nI n))]) hx hb dX4_lengthenWalks_61 hl (k := 2) rfl (nI_inc _) (by decide) rfl (fun ls hl => ?_)
      refine lv_goto (tgt := 12) hx hb dX4_lengthenWalks_64 (by decide) ?_
      exact ih (a + 1) (lwV (lwA lg0 wk st b n a) wk st b a n n) (by omega) (by omega) rfl  _ _ _ hP hD hS (lv_sub hl [1, 2, 0] rfl)

set_option maxHeartbeats 4000000 in
set_option maxRecDepth 100000 in
theorem c_X4_lengthenWalks (l : Launch) (G : gT) (h0 : Nat) (h1 : Nat) (h2 : Nat) (h3 : Nat) (st : Nat → Int64) (wk : Nat → Int64) (lg : Nat → Int64) (n : Nat) (b : Int32) (ST : Nat → Nat → Int64) (M : Nat → Nat → Int64) (hn : n ≤ 12) (hst : AG n st ST) (hwk : AG n wk M) : Met l yX4_lengthenWalks wsX4_lengthenWalks ({ frames := 1, cells := 0, slots := 0, locals := 28 }) (cPre G [.ref h0, .int b] [(h0, .inr (4, [.ref h1, .ref h2, .ref h3, .int (nI n)])), (h1, .inl (G.2 1, 144, .inr (.inl st))), (h2, .inl (G.2 1, 144, .inr (.inl wk))), (h3, .inl (G.2 1, 144, .inr (.inl lg)))]) (va_Qv (fun (u : (Nat → Int64)) => AG n u (lwM ST b n M)) (cW G [(h0, .inr (4, [.ref h1, .ref h2, .ref h3, .int (nI n)])), (h1, .inl (G.2 1, 144, .inr (.inl st))), (h2, .inl (G.2 1, 144, .inr (.inl wk))), (h3, .inl (G.2 1, 144, .inr (.inl lg)))] (fun (u : (Nat → Int64)) => [(h0, .inr (4, [.ref h1, .ref h3, .ref h2, .int (nI n)])), (h1, .inl (G.2 1, 144, .inr (.inl st))), (h3, .inl (G.2 1, 144, .inr (.inl u))), (h2, .inl (G.2 1, 144, .inr (.inl wk)))])) (pB [(h0, .inr (4, [.ref h1, .ref h2, .ref h3, .int (nI n)])), (h1, .inl (G.2 1, 144, .inr (.inl st))), (h2, .inl (G.2 1, 144, .inr (.inl wk))), (h3, .inl (G.2 1, 144, .inr (.inl lg)))])) 0 0 (pB [(h0, .inr (4, [.ref h1, .ref h2, .ref h3, .int (nI n)])), (h1, .inl (G.2 1, 144, .inr (.inl st))), (h2, .inl (G.2 1, 144, .inr (.inl wk))), (h3, .inl (G.2 1, 144, .inr (.inl lg)))]) := by
  refine ofCX (G := G) (cc := cX4_lengthenWalks) (maxL := 4) (ret := none) (by decide) rfl (Nat.le_of_ble_eq_true rfl) ?_
  intro p e s m below meth c ls C hr hin hD hP hl
  obtain ⟨hx, hb, hml, hown, hts, hlocks, hK⟩ := id C
  have hown : s.vm.findClass RX4 = some m.cls := hown
  have hfl_18 := hts (.fieldLink RX4 18 "AfterDesk$QuarrelSeeker" "longer" "[J") (by decide +kernel)
  have hin_X4 : ∀ w ∈ wsX40, w ∈ wsX4_lengthenWalks := by decide +kernel
  have hcl_63 := hts (.constantLong RX4 63 (1152921504606846976)) (by decide +kernel)
  have hfl_15 := hts (.fieldLink RX4 15 "AfterDesk$QuarrelSeeker" "walks" "[J") (by decide +kernel)
  generalize hAe : pB [(h0, .inr (4, [.ref h1, .ref h2, .ref h3, .int (nI n)])), (h1, .inl (G.2 1, 144, .inr (.inl st))), (h2, .inl (G.2 1, 144, .inr (.inl wk))), (h3, .inl (G.2 1, 144, .inr (.inl lg)))] = A at hD ⊢
  have hS : va_S A s.heap s.heap [] := va_S.rf
  have hP : va_P G.1 vwCl [(h0, .inr (4, [.ref h1, .ref h2, .ref h3, .int (nI n)])), (h1, .inl (G.2 1, 144, .inr (.inl st))), (h2, .inl (G.2 1, 144, .inr (.inl wk))), (h3, .inl (G.2 1, 144, .inr (.inl lg)))] s.heap := hP
  have hD : va_D A [(h0, .inr (4, [.ref h1, .ref h2, .ref h3, .int (nI n)])), (h1, .inl (G.2 1, 144, .inr (.inl st))), (h2, .inl (G.2 1, 144, .inr (.inl wk))), (h3, .inl (G.2 1, 144, .inr (.inl lg)))] := hD
  have hl : lv_has ls 4 [(0, .ref h0), (1, .int b)] := hl
  refine lv_aload_n hx hb dX4_lengthenWalks_0 rfl (lv_at hl 0 rfl) ?_
  refine va_get (D := G.1) (ci := 4) (v := .ref h3) (C := RX4) (T := TX4) (N := 4) hx hb hts hin_X4 hown hK.1 hP 0 rfl rfl 2 (by decide) hfl_18 (fun _ h9 => h9) rfl dX4_lengthenWalks_1 ?_
  refine lv_ldc2 hx hb hown hcl_63 dX4_lengthenWalks_4 ?_
  refine xV (S := (Nat → Int64)) (va_runS (As := [.ref h3, .long 1152921504606846976]) (rest := []) ⟨hx, hb, hml, hown, hts⟩ (c_J7_fill_d0a16 l G h3 144 lg 1152921504606846976 (by first | omega | assumption)) (va_cwS 2 hts gX4_lengthenWalks_J7_fill_d0a16 rfl rfl rfl (by decide +kernel) ⟨Nat.le_of_ble_eq_true rfl, Nat.le_of_ble_eq_true rfl⟩) (pS [.ref h3, .long 1152921504606846976] hK (hP.sub (ws' := [(h3, .inl (G.2 1, 144, .inr (.inl lg)))]) [3] rfl) (hD.sub (ws' := [(h3, .inl (G.2 1, 144, .inr (.inl lg)))]) [3] (by decide) rfl)) rfl rfl hl.1 rfl (lv_room (Nat.le_of_ble_eq_true rfl)) dX4_lengthenWalks_7 ⟨Nat.zero_le _, Nat.zero_le _⟩) hP hD hS [3] [0, 1, 2] (wr := [(h0, .inr (4, [.ref h1, .ref h2, .ref h3, .int (nI n)])), (h1, .inl (G.2 1, 144, .inr (.inl st))), (h2, .inl (G.2 1, 144, .inr (.inl wk)))]) rfl rfl (by decide) (by decide) [0, 1, 2, 3] (w2 := fun (u_3 : (Nat → Int64)) => [(h0, .inr (4, [.ref h1, .ref h2, .ref h3, .int (nI n)])), (h1, .inl (G.2 1, 144, .inr (.inl st))), (h2, .inl (G.2 1, 144, .inr (.inl wk))), (h3, .inl (G.2 1, 144, .inr (.inl u_3)))]) (fun _ => rfl) (by decide) (fun u_3 H locs hw_4 hP hD hS => ?_)
  obtain ⟨gv_1, rfl⟩ : ∃ z, z = u_3 := ⟨_, rfl⟩
  (try dsimp only at hw_4); subst hw_4
  have hP : va_P G.1 vwCl [(h0, .inr (4, [.ref h1, .ref h2, .ref h3, .int (nI n)])), (h1, .inl (G.2 1, 144, .inr (.inl st))), (h2, .inl (G.2 1, 144, .inr (.inl wk))), (h3, .inl (G.2 1, 144, .inr (.inl (fillF 1152921504606846976 lg 144))))] H := hP
  have hD : va_D A [(h0, .inr (4, [.ref h1, .ref h2, .ref h3, .int (nI n)])), (h1, .inl (G.2 1, 144, .inr (.inl st))), (h2, .inl (G.2 1, 144, .inr (.inl wk))), (h3, .inl (G.2 1, 144, .inr (.inl (fillF 1152921504606846976 lg 144))))] := hD
  refine lv_iconst (v := 0) hx hb dX4_lengthenWalks_10 (by decide) ?_
  refine lv_istore_n (lv' := [(2, .int 0), (0, .ref h0), (1, .int b)]) hx hb dX4_lengthenWalks_11 rfl hl (by decide) rfl (fun ls hl => ?_)
  refine lp_X4_lengthenWalks_12 C h0 h1 h2 h3 st wk n lg b (by first | omega | assumption) (Nat.le_of_ble_eq_true rfl) (Nat.le_of_ble_eq_true rfl) (fun  H locs ls hP hD hS hl => ?_) (n + 1) 0 (fillF 1152921504606846976 lg 144) (by omega) (by omega) rfl  _ _ _ hP hD hS (lv_sub hl [1, 2, 0] rfl)
  have hP : va_P G.1 vwCl [(h0, .inr (4, [.ref h1, .ref h2, .ref h3, .int (nI n)])), (h1, .inl (G.2 1, 144, .inr (.inl st))), (h2, .inl (G.2 1, 144, .inr (.inl wk))), (h3, .inl (G.2 1, 144, .inr (.inl (lwA lg wk st b n n))))] H := hP
  have hD : va_D A [(h0, .inr (4, [.ref h1, .ref h2, .ref h3, .int (nI n)])), (h1, .inl (G.2 1, 144, .inr (.inl st))), (h2, .inl (G.2 1, 144, .inr (.inl wk))), (h3, .inl (G.2 1, 144, .inr (.inl (lwA lg wk st b n n))))] := hD
  refine lv_aload_n hx hb dX4_lengthenWalks_67 rfl (lv_at hl 0 rfl) ?_
  refine va_get (D := G.1) (ci := 4) (v := .ref h2) (C := RX4) (T := TX4) (N := 4) hx hb hts hin_X4 hown hK.1 hP 0 rfl rfl 1 (by decide) hfl_15 (fun _ h9 => h9) rfl dX4_lengthenWalks_68 ?_
  refine lv_astore_n (lv' := [(2, .ref h2), (0, .ref h0), (1, .int b)]) hx hb dX4_lengthenWalks_71 rfl hl (by decide) rfl (fun ls hl => ?_)
  refine lv_aload_n hx hb dX4_lengthenWalks_72 rfl (lv_at hl 1 rfl) ?_
  refine lv_aload_n hx hb dX4_lengthenWalks_73 rfl (lv_at hl 1 rfl) ?_
  refine va_get (D := G.1) (ci := 4) (v := .ref h3) (C := RX4) (T := TX4) (N := 4) hx hb hts hin_X4 hown hK.1 hP 0 rfl rfl 2 (by decide) hfl_18 (fun _ h9 => h9) rfl dX4_lengthenWalks_74 ?_
  refine va_put (D := G.1) (ci := 4) (v := .ref h3) (ty := .array .long) (C := RX4) (T := TX4) (N := 4) hx hb hts hin_X4 tyX4 tyX4_ok nmX4 hown hK.1 hP hD hS 0 rfl rfl 1 (by decide) hfl_15 (fun _ h9 => h9) rfl (by decide +kernel) rfl rfl (Nat.le_of_ble_eq_true rfl) dX4_lengthenWalks_77 (fun H locs hP hD hS => ?_)
  have hP : va_P G.1 vwCl [(h0, .inr (4, [.ref h1, .ref h3, .ref h3, .int (nI n)])), (h1, .inl (G.2 1, 144, .inr (.inl st))), (h2, .inl (G.2 1, 144, .inr (.inl wk))), (h3, .inl (G.2 1, 144, .inr (.inl (lwA lg wk st b n n))))] H := hP
  have hD : va_D A [(h0, .inr (4, [.ref h1, .ref h3, .ref h3, .int (nI n)])), (h1, .inl (G.2 1, 144, .inr (.inl st))), (h2, .inl (G.2 1, 144, .inr (.inl wk))), (h3, .inl (G.2 1, 144, .inr (.inl (lwA lg wk st b n n))))] := hD
  refine lv_aload_n hx hb dX4_lengthenWalks_80 rfl (lv_at hl 1 rfl) ?_
  refine lv_aload_n hx hb dX4_lengthenWalks_81 rfl (lv_at hl 0 rfl) ?_
  refine va_put (D := G.1) (ci := 4) (v := .ref h2) (ty := .array .long) (C := RX4) (T := TX4) (N := 4) hx hb hts hin_X4 tyX4 tyX4_ok nmX4 hown hK.1 hP hD hS 0 rfl rfl 2 (by decide) hfl_18 (fun _ h9 => h9) rfl (by decide +kernel) rfl rfl (Nat.le_of_ble_eq_true rfl) dX4_lengthenWalks_82 (fun H locs hP hD hS => ?_)
  have hP : va_P G.1 vwCl [(h0, .inr (4, [.ref h1, .ref h3, .ref h2, .int (nI n)])), (h1, .inl (G.2 1, 144, .inr (.inl st))), (h2, .inl (G.2 1, 144, .inr (.inl wk))), (h3, .inl (G.2 1, 144, .inr (.inl (lwA lg wk st b n n))))] H := hP
  have hD : va_D A [(h0, .inr (4, [.ref h1, .ref h3, .ref h2, .int (nI n)])), (h1, .inl (G.2 1, 144, .inr (.inl st))), (h2, .inl (G.2 1, 144, .inr (.inl wk))), (h3, .inl (G.2 1, 144, .inr (.inl (lwA lg wk st b n n))))] := hD
  have hP : va_P G.1 vwCl [(h0, .inr (4, [.ref h1, .ref h3, .ref h2, .int (nI n)])), (h1, .inl (G.2 1, 144, .inr (.inl st))), (h3, .inl (G.2 1, 144, .inr (.inl (lwA lg wk st b n n)))), (h2, .inl (G.2 1, 144, .inr (.inl wk)))] H := hP.sub [0, 1, 3, 2] rfl
  have hD : va_D A [(h0, .inr (4, [.ref h1, .ref h3, .ref h2, .int (nI n)])), (h1, .inl (G.2 1, 144, .inr (.inl st))), (h3, .inl (G.2 1, 144, .inr (.inl (lwA lg wk st b n n)))), (h2, .inl (G.2 1, 144, .inr (.inl wk)))] := hD.sub [0, 1, 3, 2] (by decide) rfl
  exact rtV C hr hAe (u := (lwA lg wk st b n n)) hP hD hS dX4_lengthenWalks_85 (by exact lwA_AG hn hwk hst)

set_option maxHeartbeats 4000000 in
set_option maxRecDepth 100000 in
theorem lp_X4_startsBelowZero_4 {p : Program} {l : Launch} {e : Env} {R : Room} {s : State} {m : MethodId} {args : Array Value} {below : List Frame} {meth : Method} {c : Code} {A : Nat → Prop} {H0 : Heap} {Q : State → Prop} {G : gT} (C : CX p s m meth c args cX4_startsBelowZero 3 RX4 wsX4_startsBelowZero G) (h0 : Nat) (h1 : Nat) (h2 : Nat) (h3 : Nat) (st : Nat → Int64) (wk : Nat → Int64) (lg : Nat → Int64) (n : Nat) (M : Nat → Nat → Int64) (hn : n ≤ 12) (hwk : AG n wk M) (hk : ∀ (H : Heap) (locs : List Loc) (ls : Array Slot), va_P G.1 vwCl [(h0, .inr (4, [.ref h1, .ref h2, .ref h3, .int (nI n)])), (h1, .inl (G.2 1, 144, .inr (.inl st))), (h2, .inl (G.2 1, 144, .inr (.inl wk))), (h3, .inl (G.2 1, 144, .inr (.inl lg)))] H → va_D A [(h0, .inr (4, [.ref h1, .ref h2, .ref h3, .int (nI n)])), (h1, .inl (G.2 1, 144, .inr (.inl st))), (h2, .inl (G.2 1, 144, .inr (.inl wk))), (h3, .inl (G.2 1, 144, .inr (.inl lg)))] → va_S A H0 H locs → lv_has ls 3 [(0, .ref h0), (1, .int (sbM M n)), (2, .int (nI n))] → W p l e R s m args below meth c H locs 0 0 Q (F0 m 40 ls [])) : ∀ (fu i : Nat) (sb : Int32), i ≤ n → n - i < fu → sb = sbM M i → ∀ (H : Heap) (locs : List Loc) (ls : Array Slot), va_P G.1 vwCl [(h0, .inr (4, [.ref h1, .ref h2, .ref h3, .int (nI n)])), (h1, .inl (G.2 1, 144, .inr (.inl st))), (h2, .inl (G.2 1, 144, .inr (.inl wk))), (h3, .inl (G.2 1, 144, .inr (.inl lg)))] H → va_D A [(h0, .inr (4, [.ref h1, .ref h2, .ref h3, .int (nI n)])), (h1, .inl (G.2 1, 144, .inr (.inl st))), (h2, .inl (G.2 1, 144, .inr (.inl wk))), (h3, .inl (G.2 1, 144, .inr (.inl lg)))] → va_S A H0 H locs → lv_has ls 3 [(0, .ref h0), (1, .int sb), (2, .int (nI i))] → W p l e R s m args below meth c H locs 0 0 Q (F0 m 4 ls []) := by
  obtain ⟨hx, hb, hml, hown, hts, hlocks, hK⟩ := id C
  have hfl_21 := hts (.fieldLink RX4 21 "AfterDesk$QuarrelSeeker" "size" "I") (by decide +kernel)
  have hin_X4 : ∀ w ∈ wsX40, w ∈ wsX4_startsBelowZero := by decide +kernel
  have hfl_15 := hts (.fieldLink RX4 15 "AfterDesk$QuarrelSeeker" "walks" "[J") (by decide +kernel)
  intro fu
  induction fu with
  | zero =>
    intro i sb h1 h2
    exact absurd h2 (by omega)
  | succ fu ih =>
    intro i sb hkle hkn e_sb  H locs ls hP hD hS hl
    subst e_sb
    refine lv_iload_n hx hb dX4_startsBelowZero_4 rfl (lv_at hl 2 rfl) ?_
    refine lv_aload_n hx hb dX4_startsBelowZero_5 rfl (lv_at hl 0 rfl) ?_
    refine va_get (D := G.1) (ci := 4) (v := .int (nI n)) (C := RX4) (T := TX4) (N := 4) hx hb hts hin_X4 hown hK.1 hP 0 rfl rfl 3 (by decide) hfl_21 (fun _ h9 => h9) rfl dX4_startsBelowZero_6 ?_
    refine lv_icmp_ge (tgt := 40) hx hb dX4_startsBelowZero_9 (by decide) (fun c_1 => ?_) (fun c_1 => ?_)
    · -- yes: nI i ge nI n
      have c_1 : n ≤ i := (nI_leI (a := n) (b := i) (by omega) (by omega)).mp c_1
      have hkN : i = n := by omega
      subst hkN
      exact hk  _ _ _ hP hD hS (lv_sub hl [0, 1, 2] rfl)
    · -- no: nI i lt nI n
      have c_1 : ¬ n ≤ i := fun z => c_1 ((nI_leI (a := n) (b := i) (by omega) (by omega)).mpr z)
      refine lv_aload_n hx hb dX4_startsBelowZero_12 rfl (lv_at hl 0 rfl) ?_
      refine va_get (D := G.1) (ci := 4) (v := .ref h2) (C := RX4) (T := TX4) (N := 4) hx hb hts hin_X4 hown hK.1 hP 0 rfl rfl 1 (by decide) hfl_15 (fun _ h9 => h9) rfl dX4_startsBelowZero_13 ?_
      refine lv_iload_n hx hb dX4_startsBelowZero_16 rfl (lv_at hl 2 rfl) ?_
      refine lv_bipush (v := 12) hx hb dX4_startsBelowZero_17 (by decide) ?_
      refine lv_imul hx hb dX4_startsBelowZero_19 ?_
      refine nmI (pk_mul i 12) ?_
      refine lv_iload_n hx hb dX4_startsBelowZero_20 rfl (lv_at hl 2 rfl) ?_
      refine lv_iadd hx hb dX4_startsBelowZero_21 ?_
      refine nmI (nI_add (i * 12) i) ?_
      refine aJld hx hb hK.1 hP 2 1 rfl rfl (k := ((i * 12) + i)) rfl (by omega) (by decide) dX4_startsBelowZero_22 ?_
      refine nmL (hwk i i (by omega) (by omega)) ?_
      refine lv_lconst (v := 0) hx hb dX4_startsBelowZero_23 (by decide) ?_
      refine W.lcmp hx hb dX4_startsBelowZero_24 ?_
      refine lv_if_ge (tgt := 34) hx hb dX4_startsBelowZero_25 (by decide) (fun c_2 => ?_) (fun c_2 => ?_)
      · -- yes: lg_cmp (M i i) 0 ge 0
        have c_2 : 0 ≤ (M i i).toInt := Int64.le_iff_toInt_le.mp ((lg_cmp_ge _ _).mp c_2)
        refine lv_iinc (v := nI (i + 1)) (lv' := [(2, .int (nI (i + 1))), (0, .ref h0), (1, .int (sbM M i))]) hx hb dX4_startsBelowZero_34 hl (k := 2) rfl (nI_inc _) (by decide) rfl (fun ls hl => ?_)
        refine lv_goto (tgt := 4) hx hb dX4_startsBelowZero_37 (by decide) ?_
        exact ih (i + 1) (sbM M i) (by omega) (by omega) (by rw [sbM_s]; first | rw [if_pos (by omega)] | rw [if_neg (by omega)])  _ _ _ hP hD hS (lv_sub hl [1, 2, 0] rfl)
      · -- no: lg_cmp (M i i) 0 lt 0
        have c_2 : ¬ 0 ≤ (M i i).toInt := fun z => c_2 ((lg_cmp_ge _ _).mpr (Int64.le_iff_toInt_le.mpr z))
        refine lv_iload_n hx hb dX4_startsBelowZero_28 rfl (lv_at hl 1 rfl) ?_
        refine lv_iconst (v := 1) hx hb dX4_startsBelowZero_29 (by decide) ?_
        refine lv_iload_n hx hb dX4_startsBelowZero_30 rfl (lv_at hl 2 rfl) ?_
        refine lv_ishl hx hb dX4_startsBelowZero_31 ?_
        refine lv_ior hx hb dX4_startsBelowZero_32 ?_
        refine lv_istore_n (lv' := [(1, .int ((sbM M i) ||| (1 <<< ((nI i) &&& 31)))), (0, .ref h0), (2, .int (nI i))]) hx hb dX4_startsBelowZero_33 rfl hl (by decide) rfl (fun ls hl => ?_)
        refine lv_iinc (v := nI (i + 1)) (lv' := [(2, .int (nI (i + 1))), (1, .int ((sbM M i) ||| (1 <<< ((nI i) &&& 31)))), (0, .ref h0)]) hx hb dX4_startsBelowZero_34 hl (k := 2) rfl (nI_inc _) (by decide) rfl (fun ls hl => ?_)
        refine lv_goto (tgt := 4) hx hb dX4_startsBelowZero_37 (by decide) ?_
        exact ih (i + 1) ((sbM M i) ||| (1 <<< ((nI i) &&& 31))) (by omega) (by omega) (by rw [sbM_s]; first | rw [if_pos (by omega)] | rw [if_neg (by omega)])  _ _ _ hP hD hS (lv_sub hl [2, 1, 0] rfl)

set_option maxHeartbeats 4000000 in
set_option maxRecDepth 100000 in
theorem c_X4_startsBelowZero (l : Launch) (G : gT) (h0 : Nat) (h1 : Nat) (h2 : Nat) (h3 : Nat) (st : Nat → Int64) (wk : Nat → Int64) (lg : Nat → Int64) (n : Nat) (M : Nat → Nat → Int64) (hn : n ≤ 12) (hwk : AG n wk M) : Met l yX4_startsBelowZero wsX4_startsBelowZero ({ frames := 0, cells := 0, slots := 0, locals := 0 }) (cPre G [.ref h0] [(h0, .inr (4, [.ref h1, .ref h2, .ref h3, .int (nI n)])), (h1, .inl (G.2 1, 144, .inr (.inl st))), (h2, .inl (G.2 1, 144, .inr (.inl wk))), (h3, .inl (G.2 1, 144, .inr (.inl lg)))]) (va_Qi (fun (rv : Int32) (_u : Unit) => rv = sbM M n) (cW G [(h0, .inr (4, [.ref h1, .ref h2, .ref h3, .int (nI n)])), (h1, .inl (G.2 1, 144, .inr (.inl st))), (h2, .inl (G.2 1, 144, .inr (.inl wk))), (h3, .inl (G.2 1, 144, .inr (.inl lg)))] (fun (_u : Unit) => [(h0, .inr (4, [.ref h1, .ref h2, .ref h3, .int (nI n)])), (h1, .inl (G.2 1, 144, .inr (.inl st))), (h2, .inl (G.2 1, 144, .inr (.inl wk))), (h3, .inl (G.2 1, 144, .inr (.inl lg)))])) (pB [(h0, .inr (4, [.ref h1, .ref h2, .ref h3, .int (nI n)])), (h1, .inl (G.2 1, 144, .inr (.inl st))), (h2, .inl (G.2 1, 144, .inr (.inl wk))), (h3, .inl (G.2 1, 144, .inr (.inl lg)))])) 0 0 (pB [(h0, .inr (4, [.ref h1, .ref h2, .ref h3, .int (nI n)])), (h1, .inl (G.2 1, 144, .inr (.inl st))), (h2, .inl (G.2 1, 144, .inr (.inl wk))), (h3, .inl (G.2 1, 144, .inr (.inl lg)))]) := by
  refine ofCX (G := G) (cc := cX4_startsBelowZero) (maxL := 3) (ret := (some .int)) (by decide) rfl (Nat.le_of_ble_eq_true rfl) ?_
  intro p e s m below meth c ls C hr hin hD hP hl
  obtain ⟨hx, hb, hml, hown, hts, hlocks, hK⟩ := id C
  have hown : s.vm.findClass RX4 = some m.cls := hown
  generalize hAe : pB [(h0, .inr (4, [.ref h1, .ref h2, .ref h3, .int (nI n)])), (h1, .inl (G.2 1, 144, .inr (.inl st))), (h2, .inl (G.2 1, 144, .inr (.inl wk))), (h3, .inl (G.2 1, 144, .inr (.inl lg)))] = A at hD ⊢
  have hS : va_S A s.heap s.heap [] := va_S.rf
  have hP : va_P G.1 vwCl [(h0, .inr (4, [.ref h1, .ref h2, .ref h3, .int (nI n)])), (h1, .inl (G.2 1, 144, .inr (.inl st))), (h2, .inl (G.2 1, 144, .inr (.inl wk))), (h3, .inl (G.2 1, 144, .inr (.inl lg)))] s.heap := hP
  have hD : va_D A [(h0, .inr (4, [.ref h1, .ref h2, .ref h3, .int (nI n)])), (h1, .inl (G.2 1, 144, .inr (.inl st))), (h2, .inl (G.2 1, 144, .inr (.inl wk))), (h3, .inl (G.2 1, 144, .inr (.inl lg)))] := hD
  have hl : lv_has ls 3 [(0, .ref h0)] := hl
  refine lv_iconst (v := 0) hx hb dX4_startsBelowZero_0 (by decide) ?_
  refine lv_istore_n (lv' := [(1, .int 0), (0, .ref h0)]) hx hb dX4_startsBelowZero_1 rfl hl (by decide) rfl (fun ls hl => ?_)
  refine lv_iconst (v := 0) hx hb dX4_startsBelowZero_2 (by decide) ?_
  refine lv_istore_n (lv' := [(2, .int 0), (1, .int 0), (0, .ref h0)]) hx hb dX4_startsBelowZero_3 rfl hl (by decide) rfl (fun ls hl => ?_)
  refine lp_X4_startsBelowZero_4 C h0 h1 h2 h3 st wk lg n M (by first | omega | assumption) (by first | omega | assumption) (fun  H locs ls hP hD hS hl => ?_) (n + 1) 0 0 (by omega) (by omega) rfl  _ _ _ hP hD hS (lv_sub hl [2, 1, 0] rfl)
  have hP : va_P G.1 vwCl [(h0, .inr (4, [.ref h1, .ref h2, .ref h3, .int (nI n)])), (h1, .inl (G.2 1, 144, .inr (.inl st))), (h2, .inl (G.2 1, 144, .inr (.inl wk))), (h3, .inl (G.2 1, 144, .inr (.inl lg)))] H := hP
  have hD : va_D A [(h0, .inr (4, [.ref h1, .ref h2, .ref h3, .int (nI n)])), (h1, .inl (G.2 1, 144, .inr (.inl st))), (h2, .inl (G.2 1, 144, .inr (.inl wk))), (h3, .inl (G.2 1, 144, .inr (.inl lg)))] := hD
  refine lv_iload_n hx hb dX4_startsBelowZero_40 rfl (lv_at hl 1 rfl) ?_
  exact rtI C hr hAe (u := ()) hP hD hS dX4_startsBelowZero_41 rfl

set_option maxHeartbeats 4000000 in
set_option maxRecDepth 100000 in
theorem lp_X4_onRingsAmong_7 {p : Program} {l : Launch} {e : Env} {R : Room} {s : State} {m : MethodId} {args : Array Value} {below : List Frame} {meth : Method} {c : Code} {A : Nat → Prop} {H0 : Heap} {Q : State → Prop} {G : gT} (C : CX p s m meth c args cX4_onRingsAmong 4 RX4 wsX4_onRingsAmong G) (h0 : Nat) (h1 : Nat) (st : Nat → Int64) (n : Nat) (b : Int32) (d : Nat) (ST : Nat → Nat → Int64) (hn : n ≤ 12) (hd : d < 1000) (hst : AG n st ST) (hRf : 2 ≤ R.frames) (hRl : 51 ≤ R.locals) (hk : ∀ (h2 : Nat) (h3 : Nat) (wk : Nat → Int64) (lg : Nat → Int64), (AG n wk (wkP ST b n d)) → ∀ (H : Heap) (locs : List Loc) (ls : Array Slot), va_P G.1 vwCl [(h0, .inr (4, [.ref h1, .ref h2, .ref h3, .int (nI n)])), (h1, .inl (G.2 1, 144, .inr (.inl st))), (h2, .inl (G.2 1, 144, .inr (.inl wk))), (h3, .inl (G.2 1, 144, .inr (.inl lg)))] H → va_D A [(h0, .inr (4, [.ref h1, .ref h2, .ref h3, .int (nI n)])), (h1, .inl (G.2 1, 144, .inr (.inl st))), (h2, .inl (G.2 1, 144, .inr (.inl wk))), (h3, .inl (G.2 1, 144, .inr (.inl lg)))] → va_S A H0 H locs → lv_has ls 4 [(0, .ref h0), (1, .int b), (2, .int (nI (d + 1))), (3, .int (nI (d + 1)))] → W p l e R s m args below meth c H locs 0 0 Q (F0 m 23 ls [])) : ∀ (fu k : Nat)  (h2 : Nat) (h3 : Nat) (wk : Nat → Int64) (lg : Nat → Int64), k ≤ d → d - k < fu → (AG n wk (wkP ST b n k)) → ∀ (H : Heap) (locs : List Loc) (ls : Array Slot), va_P G.1 vwCl [(h0, .inr (4, [.ref h1, .ref h2, .ref h3, .int (nI n)])), (h1, .inl (G.2 1, 144, .inr (.inl st))), (h2, .inl (G.2 1, 144, .inr (.inl wk))), (h3, .inl (G.2 1, 144, .inr (.inl lg)))] H → va_D A [(h0, .inr (4, [.ref h1, .ref h2, .ref h3, .int (nI n)])), (h1, .inl (G.2 1, 144, .inr (.inl st))), (h2, .inl (G.2 1, 144, .inr (.inl wk))), (h3, .inl (G.2 1, 144, .inr (.inl lg)))] → va_S A H0 H locs → lv_has ls 4 [(0, .ref h0), (1, .int b), (2, .int (nI (d + 1))), (3, .int (nI (k + 1)))] → W p l e R s m args below meth c H locs 0 0 Q (F0 m 7 ls []) := by
  obtain ⟨hx, hb, hml, hown, hts, hlocks, hK⟩ := id C
  intro fu
  induction fu with
  | zero =>
    intro k h2 h3 wk lg h1 h2
    exact absurd h2 (by omega)
  | succ fu ih =>
    intro k h2 h3 wk lg hkle hkn  hwk H locs ls hP hD hS hl
    refine lv_iload_n hx hb dX4_onRingsAmong_7 rfl (lv_at hl 3 rfl) ?_
    refine lv_iload_n hx hb dX4_onRingsAmong_8 rfl (lv_at hl 2 rfl) ?_
    refine lv_icmp_ge (tgt := 23) hx hb dX4_onRingsAmong_9 (by decide) (fun c_1 => ?_) (fun c_1 => ?_)
    · -- yes: nI (k + 1) ge nI (d + 1)
      have c_1 : (d + 1) ≤ (k + 1) := (nI_leI (a := (d + 1)) (b := (k + 1)) (by omega) (by omega)).mp c_1
      have hkN : k = d := by omega
      subst hkN
      exact hk _ _ _ _ hwk _ _ _ hP hD hS (lv_sub hl [0, 1, 2, 3] rfl)
    · -- no: nI (k + 1) lt nI (d + 1)
      have c_1 : ¬ (d + 1) ≤ (k + 1) := fun z => c_1 ((nI_leI (a := (d + 1)) (b := (k + 1)) (by omega) (by omega)).mpr z)
      refine lv_aload_n hx hb dX4_onRingsAmong_12 rfl (lv_at hl 0 rfl) ?_
      refine lv_iload_n hx hb dX4_onRingsAmong_13 rfl (lv_at hl 1 rfl) ?_
      refine xV (S := (Nat → Int64)) (va_runV (As := [.int b]) (rest := []) ⟨hx, hb, hml, hown, hts⟩ (c_X4_lengthenWalks l G h0 h1 h2 h3 st wk lg n b ST (wkP ST b n k) (by first | omega | assumption) (by first | omega | assumption) (by first | omega | assumption)) (cwV 1 hts gX4_onRingsAmong_X4_lengthenWalks rfl rfl rfl (by decide +kernel) ⟨Nat.le_trans (Nat.le_of_ble_eq_true (m := 2) rfl) hRf, Nat.le_trans (Nat.le_of_ble_eq_true (m := 51) rfl) hRl⟩) (pV [.int b] hK (hP.sub (ws' := [(h0, .inr (4, [.ref h1, .ref h2, .ref h3, .int (nI n)])), (h1, .inl (G.2 1, 144, .inr (.inl st))), (h2, .inl (G.2 1, 144, .inr (.inl wk))), (h3, .inl (G.2 1, 144, .inr (.inl lg)))]) [0, 1, 2, 3] rfl) (hD.sub (ws' := [(h0, .inr (4, [.ref h1, .ref h2, .ref h3, .int (nI n)])), (h1, .inl (G.2 1, 144, .inr (.inl st))), (h2, .inl (G.2 1, 144, .inr (.inl wk))), (h3, .inl (G.2 1, 144, .inr (.inl lg)))]) [0, 1, 2, 3] (by decide) rfl) (ci := 4) (q0 := 0) rfl rfl) rfl rfl hl.1 rfl (lv_room (Nat.le_of_ble_eq_true rfl)) dX4_onRingsAmong_14 ⟨Nat.zero_le _, Nat.zero_le _⟩) hP hD hS [0, 1, 2, 3] [] (wr := []) rfl rfl (by decide) (by decide) [0, 1, 2, 3] (w2 := fun (u_4 : (Nat → Int64)) => [(h0, .inr (4, [.ref h1, .ref h3, .ref h2, .int (nI n)])), (h1, .inl (G.2 1, 144, .inr (.inl st))), (h3, .inl (G.2 1, 144, .inr (.inl u_4))), (h2, .inl (G.2 1, 144, .inr (.inl wk)))]) (fun _ => rfl) (by decide) (fun u_4 H locs hw_5 hP hD hS => ?_)
      obtain ⟨wkv_2, rfl⟩ : ∃ z, z = u_4 := ⟨_, rfl⟩
      obtain hp_6 := hw_5
      have hP : va_P G.1 vwCl [(h0, .inr (4, [.ref h1, .ref h3, .ref h2, .int (nI n)])), (h1, .inl (G.2 1, 144, .inr (.inl st))), (h3, .inl (G.2 1, 144, .inr (.inl wkv_2))), (h2, .inl (G.2 1, 144, .inr (.inl wk)))] H := hP
      have hD : va_D A [(h0, .inr (4, [.ref h1, .ref h3, .ref h2, .int (nI n)])), (h1, .inl (G.2 1, 144, .inr (.inl st))), (h3, .inl (G.2 1, 144, .inr (.inl wkv_2))), (h2, .inl (G.2 1, 144, .inr (.inl wk)))] := hD
      refine lv_iinc (v := nI ((k + 1) + 1)) (lv' := [(3, .int (nI ((k + 1) + 1))), (0, .ref h0), (1, .int b), (2, .int (nI (d + 1)))]) hx hb dX4_onRingsAmong_17 hl (k := 3) rfl (nI_inc _) (by decide) rfl (fun ls hl => ?_)
      refine lv_goto (tgt := 7) hx hb dX4_onRingsAmong_20 (by decide) ?_
      exact ih (k + 1) h3 h2 wkv_2 wk (by omega) (by omega)  (by assumption) _ _ _ hP hD hS (lv_sub hl [1, 2, 3, 0] rfl)

set_option maxHeartbeats 4000000 in
set_option maxRecDepth 100000 in
theorem c_X4_onRingsAmong (l : Launch) (G : gT) (h0 : Nat) (h1 : Nat) (h2 : Nat) (h3 : Nat) (st : Nat → Int64) (wk : Nat → Int64) (lg : Nat → Int64) (n : Nat) (b : Int32) (d : Nat) (ST : Nat → Nat → Int64) (hn : n ≤ 12) (hd : d < 1000) (hst : AG n st ST) : Met l yX4_onRingsAmong wsX4_onRingsAmong ({ frames := 2, cells := 0, slots := 0, locals := 51 }) (cPre G [.ref h0, .int b, .int (nI (d + 1))] [(h0, .inr (4, [.ref h1, .ref h2, .ref h3, .int (nI n)])), (h1, .inl (G.2 1, 144, .inr (.inl st))), (h2, .inl (G.2 1, 144, .inr (.inl wk))), (h3, .inl (G.2 1, 144, .inr (.inl lg)))]) (va_Qi (fun (rv : Int32) (u : Nat × Nat × (Nat → Int64) × (Nat → Int64)) => rv = oraM ST n b d) (cW G [(h0, .inr (4, [.ref h1, .ref h2, .ref h3, .int (nI n)])), (h1, .inl (G.2 1, 144, .inr (.inl st))), (h2, .inl (G.2 1, 144, .inr (.inl wk))), (h3, .inl (G.2 1, 144, .inr (.inl lg)))] (fun (u : Nat × Nat × (Nat → Int64) × (Nat → Int64)) => [(h0, .inr (4, [.ref h1, .ref u.1, .ref u.2.1, .int (nI n)])), (h1, .inl (G.2 1, 144, .inr (.inl st))), (u.1, .inl (G.2 1, 144, .inr (.inl u.2.2.1))), (u.2.1, .inl (G.2 1, 144, .inr (.inl u.2.2.2)))])) (pB [(h0, .inr (4, [.ref h1, .ref h2, .ref h3, .int (nI n)])), (h1, .inl (G.2 1, 144, .inr (.inl st))), (h2, .inl (G.2 1, 144, .inr (.inl wk))), (h3, .inl (G.2 1, 144, .inr (.inl lg)))])) 0 0 (pB [(h0, .inr (4, [.ref h1, .ref h2, .ref h3, .int (nI n)])), (h1, .inl (G.2 1, 144, .inr (.inl st))), (h2, .inl (G.2 1, 144, .inr (.inl wk))), (h3, .inl (G.2 1, 144, .inr (.inl lg)))]) := by
  refine ofCX (G := G) (cc := cX4_onRingsAmong) (maxL := 4) (ret := (some .int)) (by decide) rfl (Nat.le_of_ble_eq_true rfl) ?_
  intro p e s m below meth c ls C hr hin hD hP hl
  obtain ⟨hx, hb, hml, hown, hts, hlocks, hK⟩ := id C
  have hown : s.vm.findClass RX4 = some m.cls := hown
  generalize hAe : pB [(h0, .inr (4, [.ref h1, .ref h2, .ref h3, .int (nI n)])), (h1, .inl (G.2 1, 144, .inr (.inl st))), (h2, .inl (G.2 1, 144, .inr (.inl wk))), (h3, .inl (G.2 1, 144, .inr (.inl lg)))] = A at hD ⊢
  have hS : va_S A s.heap s.heap [] := va_S.rf
  have hP : va_P G.1 vwCl [(h0, .inr (4, [.ref h1, .ref h2, .ref h3, .int (nI n)])), (h1, .inl (G.2 1, 144, .inr (.inl st))), (h2, .inl (G.2 1, 144, .inr (.inl wk))), (h3, .inl (G.2 1, 144, .inr (.inl lg)))] s.heap := hP
  have hD : va_D A [(h0, .inr (4, [.ref h1, .ref h2, .ref h3, .int (nI n)])), (h1, .inl (G.2 1, 144, .inr (.inl st))), (h2, .inl (G.2 1, 144, .inr (.inl wk))), (h3, .inl (G.2 1, 144, .inr (.inl lg)))] := hD
  have hl : lv_has ls 4 [(0, .ref h0), (1, .int b), (2, .int (nI (d + 1)))] := hl
  refine lv_aload_n hx hb dX4_onRingsAmong_0 rfl (lv_at hl 0 rfl) ?_
  refine lv_iload_n hx hb dX4_onRingsAmong_1 rfl (lv_at hl 1 rfl) ?_
  refine xV (S := (Nat → Int64)) (va_runV (As := [.int b]) (rest := []) ⟨hx, hb, hml, hown, hts⟩ (c_X4_startWalks l G h0 h1 h2 h3 st wk lg n b ST (by first | omega | assumption) (by first | omega | assumption)) (cwV 1 hts gX4_onRingsAmong_X4_startWalks rfl rfl rfl (by decide +kernel) ⟨Nat.le_of_ble_eq_true rfl, Nat.le_of_ble_eq_true rfl⟩) (pV [.int b] hK (hP.sub (ws' := [(h0, .inr (4, [.ref h1, .ref h2, .ref h3, .int (nI n)])), (h1, .inl (G.2 1, 144, .inr (.inl st))), (h2, .inl (G.2 1, 144, .inr (.inl wk))), (h3, .inl (G.2 1, 144, .inr (.inl lg)))]) [0, 1, 2, 3] rfl) (hD.sub (ws' := [(h0, .inr (4, [.ref h1, .ref h2, .ref h3, .int (nI n)])), (h1, .inl (G.2 1, 144, .inr (.inl st))), (h2, .inl (G.2 1, 144, .inr (.inl wk))), (h3, .inl (G.2 1, 144, .inr (.inl lg)))]) [0, 1, 2, 3] (by decide) rfl) (ci := 4) (q0 := 0) rfl rfl) rfl rfl hl.1 rfl (lv_room (Nat.le_of_ble_eq_true rfl)) dX4_onRingsAmong_2 ⟨Nat.zero_le _, Nat.zero_le _⟩) hP hD hS [0, 1, 2, 3] [] (wr := []) rfl rfl (by decide) (by decide) [0, 1, 2, 3] (w2 := fun (u_3 : (Nat → Int64)) => [(h0, .inr (4, [.ref h1, .ref h2, .ref h3, .int (nI n)])), (h1, .inl (G.2 1, 144, .inr (.inl st))), (h2, .inl (G.2 1, 144, .inr (.inl u_3))), (h3, .inl (G.2 1, 144, .inr (.inl lg)))]) (fun _ => rfl) (by decide) (fun u_3 H locs hw_4 hP hD hS => ?_)
  obtain ⟨wkv_1, rfl⟩ : ∃ z, z = u_3 := ⟨_, rfl⟩
  obtain hp_5 := hw_4
  have hP : va_P G.1 vwCl [(h0, .inr (4, [.ref h1, .ref h2, .ref h3, .int (nI n)])), (h1, .inl (G.2 1, 144, .inr (.inl st))), (h2, .inl (G.2 1, 144, .inr (.inl wkv_1))), (h3, .inl (G.2 1, 144, .inr (.inl lg)))] H := hP
  have hD : va_D A [(h0, .inr (4, [.ref h1, .ref h2, .ref h3, .int (nI n)])), (h1, .inl (G.2 1, 144, .inr (.inl st))), (h2, .inl (G.2 1, 144, .inr (.inl wkv_1))), (h3, .inl (G.2 1, 144, .inr (.inl lg)))] := hD
  refine lv_iconst (v := 1) hx hb dX4_onRingsAmong_5 (by decide) ?_
  refine lv_istore_n (lv' := [(3, .int 1), (0, .ref h0), (1, .int b), (2, .int (nI (d + 1)))]) hx hb dX4_onRingsAmong_6 rfl hl (by decide) rfl (fun ls hl => ?_)
  refine lp_X4_onRingsAmong_7 C h0 h1 st n b d ST (by first | omega | assumption) (by first | omega | assumption) (by first | omega | assumption) (Nat.le_of_ble_eq_true rfl) (Nat.le_of_ble_eq_true rfl) (fun hz_6 hz_7 wkz_8 lgz_9 hwk H locs ls hP hD hS hl => ?_) (d + 1) 0 h2 h3 wkv_1 lg (by omega) (by omega)  (by assumption) _ _ _ hP hD hS (lv_sub hl [1, 2, 3, 0] rfl)
  have hP : va_P G.1 vwCl [(h0, .inr (4, [.ref h1, .ref hz_6, .ref hz_7, .int (nI n)])), (h1, .inl (G.2 1, 144, .inr (.inl st))), (hz_6, .inl (G.2 1, 144, .inr (.inl wkz_8))), (hz_7, .inl (G.2 1, 144, .inr (.inl lgz_9)))] H := hP
  have hD : va_D A [(h0, .inr (4, [.ref h1, .ref hz_6, .ref hz_7, .int (nI n)])), (h1, .inl (G.2 1, 144, .inr (.inl st))), (hz_6, .inl (G.2 1, 144, .inr (.inl wkz_8))), (hz_7, .inl (G.2 1, 144, .inr (.inl lgz_9)))] := hD
  refine lv_aload_n hx hb dX4_onRingsAmong_23 rfl (lv_at hl 0 rfl) ?_
  refine xI (S := Unit) (va_runV (As := []) (rest := []) ⟨hx, hb, hml, hown, hts⟩ (c_X4_startsBelowZero l G h0 h1 hz_6 hz_7 st wkz_8 lgz_9 n (wkP ST b n d) (by first | omega | assumption) (by first | omega | assumption)) (cwV 0 hts gX4_onRingsAmong_X4_startsBelowZero rfl rfl rfl (by decide +kernel) ⟨Nat.le_of_ble_eq_true rfl, Nat.le_of_ble_eq_true rfl⟩) (pV [] hK (hP.sub (ws' := [(h0, .inr (4, [.ref h1, .ref hz_6, .ref hz_7, .int (nI n)])), (h1, .inl (G.2 1, 144, .inr (.inl st))), (hz_6, .inl (G.2 1, 144, .inr (.inl wkz_8))), (hz_7, .inl (G.2 1, 144, .inr (.inl lgz_9)))]) [0, 1, 2, 3] rfl) (hD.sub (ws' := [(h0, .inr (4, [.ref h1, .ref hz_6, .ref hz_7, .int (nI n)])), (h1, .inl (G.2 1, 144, .inr (.inl st))), (hz_6, .inl (G.2 1, 144, .inr (.inl wkz_8))), (hz_7, .inl (G.2 1, 144, .inr (.inl lgz_9)))]) [0, 1, 2, 3] (by decide) rfl) (ci := 4) (q0 := 0) rfl rfl) rfl rfl hl.1 rfl (lv_room (Nat.le_of_ble_eq_true rfl)) dX4_onRingsAmong_24 ⟨Nat.zero_le _, Nat.zero_le _⟩) hP hD hS [0, 1, 2, 3] [] (wr := []) rfl rfl (by decide) (by decide) [0, 1, 2, 3] (w2 := fun (_ : Unit) => [(h0, .inr (4, [.ref h1, .ref hz_6, .ref hz_7, .int (nI n)])), (h1, .inl (G.2 1, 144, .inr (.inl st))), (hz_6, .inl (G.2 1, 144, .inr (.inl wkz_8))), (hz_7, .inl (G.2 1, 144, .inr (.inl lgz_9)))]) (fun _ => rfl) (by decide) (fun r_10 u_11 H locs hw_12 hP hD hS => ?_)
  (try dsimp only at hw_12); subst hw_12
  have hP : va_P G.1 vwCl [(h0, .inr (4, [.ref h1, .ref hz_6, .ref hz_7, .int (nI n)])), (h1, .inl (G.2 1, 144, .inr (.inl st))), (hz_6, .inl (G.2 1, 144, .inr (.inl wkz_8))), (hz_7, .inl (G.2 1, 144, .inr (.inl lgz_9)))] H := hP
  have hD : va_D A [(h0, .inr (4, [.ref h1, .ref hz_6, .ref hz_7, .int (nI n)])), (h1, .inl (G.2 1, 144, .inr (.inl st))), (hz_6, .inl (G.2 1, 144, .inr (.inl wkz_8))), (hz_7, .inl (G.2 1, 144, .inr (.inl lgz_9)))] := hD
  exact rtI C hr hAe (u := (hz_6, hz_7, wkz_8, lgz_9)) hP hD hS dX4_onRingsAmong_27 rfl
