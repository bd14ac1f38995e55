set_option maxHeartbeats 4000000 in
set_option maxRecDepth 100000 in
theorem c_X0_nodes (l : Launch) (G : gT) (h0 : Nat) (h1 : Nat) (ms : Nat → Int64) (nd : Int32) : Met l yX0_nodes wsX0_nodes ({ frames := 0, cells := 0, slots := 0, locals := 0 }) (cPre G [.ref h0] [(h0, .inr (0, [.ref h1, .int nd])), (h1, .inl (G.2 1, 169, .inr (.inl ms)))]) (va_Qi (fun (rv : Int32) (_u : Unit) => rv = nd) (cW G [(h0, .inr (0, [.ref h1, .int nd])), (h1, .inl (G.2 1, 169, .inr (.inl ms)))] (fun (_u : Unit) => [(h0, .inr (0, [.ref h1, .int nd])), (h1, .inl (G.2 1, 169, .inr (.inl ms)))])) (pB [(h0, .inr (0, [.ref h1, .int nd])), (h1, .inl (G.2 1, 169, .inr (.inl ms)))])) 0 0 (pB [(h0, .inr (0, [.ref h1, .int nd])), (h1, .inl (G.2 1, 169, .inr (.inl ms)))]) := by
  refine ofCX (G := G) (cc := cX0_nodes) (maxL := 1) (ret := (some .int)) (by decide) rfl (Nat.le_of_ble_eq_true rfl) ?_
  intro p e s m below meth c ls C hr hin hD hP hl
  obtain ⟨hx, hb, hml, hown, hts, hlocks, hK⟩ := id C
  have hown : s.vm.findClass RX0 = some m.cls := hown
  have hfl_15 := hts (.fieldLink RX0 15 "AfterDesk$Bounds" "nodes" "I") (by decide +kernel)
  have hin_X0 : ∀ w ∈ wsX00, w ∈ wsX0_nodes := by decide +kernel
  generalize hAe : pB [(h0, .inr (0, [.ref h1, .int nd])), (h1, .inl (G.2 1, 169, .inr (.inl ms)))] = A at hD ⊢
  have hS : va_S A s.heap s.heap [] := va_S.rf
  have hP : va_P G.1 vwCl [(h0, .inr (0, [.ref h1, .int nd])), (h1, .inl (G.2 1, 169, .inr (.inl ms)))] s.heap := hP
  have hD : va_D A [(h0, .inr (0, [.ref h1, .int nd])), (h1, .inl (G.2 1, 169, .inr (.inl ms)))] := hD
  have hl : lv_has ls 1 [(0, .ref h0)] := hl
  refine lv_aload_n hx hb dX0_nodes_0 rfl (lv_at hl 0 rfl) ?_
  refine va_get (D := G.1) (ci := 0) (v := .int nd) (C := RX0) (T := TX0) (N := 2) hx hb hts hin_X0 hown hK.1 hP 0 rfl rfl 1 (by decide) hfl_15 (fun _ h9 => h9) rfl dX0_nodes_1 ?_
  exact rtI C hr hAe (u := ()) hP hD hS dX0_nodes_4 rfl

set_option maxHeartbeats 4000000 in
set_option maxRecDepth 100000 in
theorem lp_X0_loosen_26 {p : Program} {l : Launch} {e : Env} {R : Room} {s : State} {m : MethodId} {args : Array Value} {below : List Frame} {meth : Method} {c : Code} {A : Nat → Prop} {H0 : Heap} {Q : State → Prop} {G : gT} (C : CX p s m meth c args cX0_loosen 3 RX0 wsX0_loosen G) (h0 : Nat) (h1 : Nat) (ms0 : Nat → Int64) (N : Nat) (hw_ : Int32) (hN : N ≤ 13) (hk : ∀ (H : Heap) (locs : List Loc) (ls : Array Slot), va_P G.1 vwCl [(h0, .inr (0, [.ref h1, .int (nI N)])), (h1, .inl (G.2 1, 169, .inr (.inl (lzF ms0 N))))] H → va_D A [(h0, .inr (0, [.ref h1, .int (nI N)])), (h1, .inl (G.2 1, 169, .inr (.inl (lzF ms0 N))))] → va_S A H0 H locs → lv_has ls 3 [(0, .ref h0), (1, .int hw_), (2, .int (nI N))] → W p l e R s m args below meth c H locs 0 0 Q (F0 m 52 ls [])) : ∀ (fu k : Nat) (ms : Nat → Int64), k ≤ N → N - k < fu → ms = lzF ms0 k → ∀ (H : Heap) (locs : List Loc) (ls : Array Slot), va_P G.1 vwCl [(h0, .inr (0, [.ref h1, .int (nI N)])), (h1, .inl (G.2 1, 169, .inr (.inl ms)))] H → va_D A [(h0, .inr (0, [.ref h1, .int (nI N)])), (h1, .inl (G.2 1, 169, .inr (.inl ms)))] → va_S A H0 H locs → lv_has ls 3 [(0, .ref h0), (1, .int hw_), (2, .int (nI k))] → W p l e R s m args below meth c H locs 0 0 Q (F0 m 26 ls []) := by
  obtain ⟨hx, hb, hml, hown, hts, hlocks, hK⟩ := id C
  have hfl_15 := hts (.fieldLink RX0 15 "AfterDesk$Bounds" "nodes" "I") (by decide +kernel)
  have hin_X0 : ∀ w ∈ wsX00, w ∈ wsX0_loosen := by decide +kernel
  have hfl_11 := hts (.fieldLink RX0 11 "AfterDesk$Bounds" "most" "[J") (by decide +kernel)
  intro fu
  induction fu with
  | zero =>
    intro k ms h1 h2
    exact absurd h2 (by omega)
  | succ fu ih =>
    intro k ms hkle hkn e_ms  H locs ls hP hD hS hl
    subst e_ms
    refine lv_iload_n hx hb dX0_loosen_26 rfl (lv_at hl 2 rfl) ?_
    refine lv_aload_n hx hb dX0_loosen_27 rfl (lv_at hl 0 rfl) ?_
    refine va_get (D := G.1) (ci := 0) (v := .int (nI N)) (C := RX0) (T := TX0) (N := 2) hx hb hts hin_X0 hown hK.1 hP 0 rfl rfl 1 (by decide) hfl_15 (fun _ h9 => h9) rfl dX0_loosen_28 ?_
    refine lv_icmp_ge (tgt := 52) hx hb dX0_loosen_31 (by decide) (fun c_1 => ?_) (fun c_1 => ?_)
    · -- yes: nI k ge nI N
      have c_1 : N ≤ k := (nI_leI (a := N) (b := k) (by omega) (by omega)).mp c_1
      have hkN : k = N := by omega
      subst hkN
      exact hk  _ _ _ hP hD hS (lv_sub hl [0, 1, 2] rfl)
    · -- no: nI k lt nI N
      have c_1 : ¬ N ≤ k := fun z => c_1 ((nI_leI (a := N) (b := k) (by omega) (by omega)).mpr z)
      refine lv_aload_n hx hb dX0_loosen_34 rfl (lv_at hl 0 rfl) ?_
      refine va_get (D := G.1) (ci := 0) (v := .ref h1) (C := RX0) (T := TX0) (N := 2) hx hb hts hin_X0 hown hK.1 hP 0 rfl rfl 0 (by decide) hfl_11 (fun _ h9 => h9) rfl dX0_loosen_35 ?_
      refine lv_iload_n hx hb dX0_loosen_38 rfl (lv_at hl 2 rfl) ?_
      refine lv_bipush (v := 13) hx hb dX0_loosen_39 (by decide) ?_
      refine lv_imul hx hb dX0_loosen_41 ?_
      refine nmI (pk_mul k 13) ?_
      refine lv_iload_n hx hb dX0_loosen_42 rfl (lv_at hl 2 rfl) ?_
      refine lv_iadd hx hb dX0_loosen_43 ?_
      refine nmI (nI_add (k * 13) k) ?_
      refine lv_lconst (v := 0) hx hb dX0_loosen_44 (by decide) ?_
      refine aJst hx hb hK.1 hP hD hS 1 1 rfl rfl (k := ((k * 13) + k)) rfl (by omega) (by decide) dX0_loosen_45 (fun H locs hP hD hS => ?_)
      have hP : va_P G.1 vwCl [(h0, .inr (0, [.ref h1, .int (nI N)])), (h1, .inl (G.2 1, 169, .inr (.inl (vp_updL (lzF ms0 k) ((k * 13) + k) 0))))] H := hP
      have hD : va_D A [(h0, .inr (0, [.ref h1, .int (nI N)])), (h1, .inl (G.2 1, 169, .inr (.inl (vp_updL (lzF ms0 k) ((k * 13) + k) 0))))] := hD
      refine lv_iinc (v := nI (k + 1)) (lv' := [(2, .int (nI (k + 1))), (0, .ref h0), (1, .int hw_)]) hx hb dX0_loosen_46 hl (k := 2) rfl (nI_inc _) (by decide) rfl (fun ls hl => ?_)
      refine lv_goto (tgt := 26) hx hb dX0_loosen_49 (by decide) ?_
      exact ih (k + 1) (vp_updL (lzF ms0 k) ((k * 13) + k) 0) (by omega) (by omega) rfl  _ _ _ hP hD hS (lv_sub hl [1, 2, 0] rfl)

set_option maxHeartbeats 4000000 in
set_option maxRecDepth 100000 in
theorem c_X0_loosen (l : Launch) (G : gT) (h0 : Nat) (h1 : Nat) (ms : Nat → Int64) (nd : Int32) (q : Nat) (hq : q ≤ 13) (hq1 : 1 ≤ q) : Met l yX0_loosen wsX0_loosen ({ frames := 1, cells := 0, slots := 0, locals := 24 }) (cPre G [.ref h0, .int (nI q)] [(h0, .inr (0, [.ref h1, .int nd])), (h1, .inl (G.2 1, 169, .inr (.inl ms)))]) (va_Qv (fun (u : (Nat → Int64)) => u = lzF ms q) (cW G [(h0, .inr (0, [.ref h1, .int nd])), (h1, .inl (G.2 1, 169, .inr (.inl ms)))] (fun (u : (Nat → Int64)) => [(h0, .inr (0, [.ref h1, .int (nI q)])), (h1, .inl (G.2 1, 169, .inr (.inl u)))])) (pB [(h0, .inr (0, [.ref h1, .int nd])), (h1, .inl (G.2 1, 169, .inr (.inl ms)))])) 0 0 (pB [(h0, .inr (0, [.ref h1, .int nd])), (h1, .inl (G.2 1, 169, .inr (.inl ms)))]) := by
  refine ofCX (G := G) (cc := cX0_loosen) (maxL := 3) (ret := none) (by decide) rfl (Nat.le_of_ble_eq_true rfl) ?_
  intro p e s m below meth c ls C hr hin hD hP hl
  obtain ⟨hx, hb, hml, hown, hts, hlocks, hK⟩ := id C
  have hown : s.vm.findClass RX0 = some m.cls := hown
  have hml_19 := hts (.methodLink RX0 19 Lib.Math.min.name) (by decide +kernel)
  have hms_min := hts (.static Lib.Math.min.name) (by decide +kernel)
  have hmi := hts (.initialized "java/lang/Math") (by decide +kernel)
  have hmc_min := hts (.code Lib.Math.min.name Lib.Math.min.code 2 (some .int)) (by decide +kernel)
  have hml_25 := hts (.methodLink RX0 25 Lib.Math.max.name) (by decide +kernel)
  have hms_max := hts (.static Lib.Math.max.name) (by decide +kernel)
  have hmc_max := hts (.code Lib.Math.max.name Lib.Math.max.code 2 (some .int)) (by decide +kernel)
  have hfl_15 := hts (.fieldLink RX0 15 "AfterDesk$Bounds" "nodes" "I") (by decide +kernel)
  have hin_X0 : ∀ w ∈ wsX00, w ∈ wsX0_loosen := by decide +kernel
  have hfl_11 := hts (.fieldLink RX0 11 "AfterDesk$Bounds" "most" "[J") (by decide +kernel)
  have hcl_28 := hts (.constantLong RX0 28 (1152921504606846976)) (by decide +kernel)
  generalize hAe : pB [(h0, .inr (0, [.ref h1, .int nd])), (h1, .inl (G.2 1, 169, .inr (.inl ms)))] = A at hD ⊢
  have hS : va_S A s.heap s.heap [] := va_S.rf
  have hP : va_P G.1 vwCl [(h0, .inr (0, [.ref h1, .int nd])), (h1, .inl (G.2 1, 169, .inr (.inl ms)))] s.heap := hP
  have hD : va_D A [(h0, .inr (0, [.ref h1, .int nd])), (h1, .inl (G.2 1, 169, .inr (.inl ms)))] := hD
  have hl : lv_has ls 3 [(0, .ref h0), (1, .int (nI q))] := hl
  refine lv_aload_n hx hb dX0_loosen_0 rfl (lv_at hl 0 rfl) ?_
  refine lv_iconst (v := 1) hx hb dX0_loosen_1 (by decide) ?_
  refine lv_iload_n hx hb dX0_loosen_2 rfl (lv_at hl 1 rfl) ?_
  refine lv_bipush (v := 13) hx hb dX0_loosen_3 (by decide) ?_
  refine va_mmin hx hb (hml.trans hl.1.symm) hown hml_19 hms_min hmi hmc_min (Nat.le_of_ble_eq_true rfl) (Nat.le_of_ble_eq_true rfl) (Nat.zero_le _) (Nat.zero_le _) dX0_loosen_5 ?_
  refine va_mmax hx hb (hml.trans hl.1.symm) hown hml_25 hms_max hmi hmc_max (Nat.le_of_ble_eq_true rfl) (Nat.le_of_ble_eq_true rfl) (Nat.zero_le _) (Nat.zero_le _) dX0_loosen_8 ?_
  refine nmI (mmq q (by omega) (by omega)) ?_
  refine va_put (D := G.1) (ci := 0) (v := .int (nI q)) (ty := .int) (C := RX0) (T := TX0) (N := 2) hx hb hts hin_X0 tyX0 tyX0_ok nmX0 hown hK.1 hP hD hS 0 rfl rfl 1 (by decide) hfl_15 (fun _ h9 => h9) rfl (by decide +kernel) rfl rfl (Nat.le_of_ble_eq_true rfl) dX0_loosen_11 (fun H locs hP hD hS => ?_)
  have hP : va_P G.1 vwCl [(h0, .inr (0, [.ref h1, .int (nI q)])), (h1, .inl (G.2 1, 169, .inr (.inl ms)))] H := hP
  have hD : va_D A [(h0, .inr (0, [.ref h1, .int (nI q)])), (h1, .inl (G.2 1, 169, .inr (.inl ms)))] := hD
  refine lv_aload_n hx hb dX0_loosen_14 rfl (lv_at hl 0 rfl) ?_
  refine va_get (D := G.1) (ci := 0) (v := .ref h1) (C := RX0) (T := TX0) (N := 2) hx hb hts hin_X0 hown hK.1 hP 0 rfl rfl 0 (by decide) hfl_11 (fun _ h9 => h9) rfl dX0_loosen_15 ?_
  refine lv_ldc2 hx hb hown hcl_28 dX0_loosen_18 ?_
  refine xV (S := (Nat → Int64)) (va_runS (As := [.ref h1, .long 1152921504606846976]) (rest := []) ⟨hx, hb, hml, hown, hts⟩ (c_J7_fill_d0a16 l G h1 169 ms 1152921504606846976 (by first | omega | assumption)) (va_cwS 2 hts gX0_loosen_J7_fill_d0a16 rfl rfl rfl (by decide +kernel) ⟨Nat.le_of_ble_eq_true rfl, Nat.le_of_ble_eq_true rfl⟩) (pS [.ref h1, .long 1152921504606846976] hK (hP.sub (ws' := [(h1, .inl (G.2 1, 169, .inr (.inl ms)))]) [1] rfl) (hD.sub (ws' := [(h1, .inl (G.2 1, 169, .inr (.inl ms)))]) [1] (by decide) rfl)) rfl rfl hl.1 rfl (lv_room (Nat.le_of_ble_eq_true rfl)) dX0_loosen_21 ⟨Nat.zero_le _, Nat.zero_le _⟩) hP hD hS [1] [0] (wr := [(h0, .inr (0, [.ref h1, .int (nI q)]))]) rfl rfl (by decide) (by decide) [0, 1] (w2 := fun (u_3 : (Nat → Int64)) => [(h0, .inr (0, [.ref h1, .int (nI q)])), (h1, .inl (G.2 1, 169, .inr (.inl u_3)))]) (fun _ => rfl) (by decide) (fun u_3 H locs hw_4 hP hD hS => ?_)
  obtain ⟨gv_1, rfl⟩ : ∃ z, z = u_3 := ⟨_, rfl⟩
  (try dsimp only at hw_4); subst hw_4
  have hP : va_P G.1 vwCl [(h0, .inr (0, [.ref h1, .int (nI q)])), (h1, .inl (G.2 1, 169, .inr (.inl (fillF 1152921504606846976 ms 169))))] H := hP
  have hD : va_D A [(h0, .inr (0, [.ref h1, .int (nI q)])), (h1, .inl (G.2 1, 169, .inr (.inl (fillF 1152921504606846976 ms 169))))] := hD
  refine lv_iconst (v := 0) hx hb dX0_loosen_24 (by decide) ?_
  refine lv_istore_n (lv' := [(2, .int 0), (0, .ref h0), (1, .int (nI q))]) hx hb dX0_loosen_25 rfl hl (by decide) rfl (fun ls hl => ?_)
  refine lp_X0_loosen_26 C h0 h1 ms q (nI q) (by first | omega | assumption) (fun  H locs ls hP hD hS hl => ?_) (q + 1) 0 (fillF 1152921504606846976 ms 169) (by omega) (by omega) rfl  _ _ _ hP hD hS (lv_sub hl [1, 2, 0] rfl)
  have hP : va_P G.1 vwCl [(h0, .inr (0, [.ref h1, .int (nI q)])), (h1, .inl (G.2 1, 169, .inr (.inl (lzF ms q))))] H := hP
  have hD : va_D A [(h0, .inr (0, [.ref h1, .int (nI q)])), (h1, .inl (G.2 1, 169, .inr (.inl (lzF ms q))))] := hD
  exact rtV C hr hAe (u := (lzF ms q)) hP hD hS dX0_loosen_52 rfl

set_option maxHeartbeats 4000000 in
set_option maxRecDepth 100000 in
theorem c_X0_areNodes (l : Launch) (G : gT) (h0 : Nat) (h1 : Nat) (ms : Nat → Int64) (N : Nat) (x : Int32) (y : Int32) (hN : N ≤ 13) : Met l yX0_areNodes wsX0_areNodes ({ frames := 1, cells := 0, slots := 0, locals := 22 }) (cPre G [.ref h0, .int x, .int y] [(h0, .inr (0, [.ref h1, .int (nI N)])), (h1, .inl (G.2 1, 169, .inr (.inl ms)))]) (va_Qi (fun (rv : Int32) (_u : Unit) => rv = bI (decide ((0 ≤ x.toInt ∧ x.toInt < (N : Int)) ∧ (0 ≤ y.toInt ∧ y.toInt < (N : Int))))) (cW G [(h0, .inr (0, [.ref h1, .int (nI N)])), (h1, .inl (G.2 1, 169, .inr (.inl ms)))] (fun (_u : Unit) => [(h0, .inr (0, [.ref h1, .int (nI N)])), (h1, .inl (G.2 1, 169, .inr (.inl ms)))])) (pB [(h0, .inr (0, [.ref h1, .int (nI N)])), (h1, .inl (G.2 1, 169, .inr (.inl ms)))])) 0 0 (pB [(h0, .inr (0, [.ref h1, .int (nI N)])), (h1, .inl (G.2 1, 169, .inr (.inl ms)))]) := by
  refine ofCX (G := G) (cc := cX0_areNodes) (maxL := 3) (ret := (some .boolean)) (by decide) rfl (Nat.le_of_ble_eq_true rfl) ?_
  intro p e s m below meth c ls C hr hin hD hP hl
  obtain ⟨hx, hb, hml, hown, hts, hlocks, hK⟩ := id C
  have hown : s.vm.findClass RX0 = some m.cls := hown
  have hfl_15 := hts (.fieldLink RX0 15 "AfterDesk$Bounds" "nodes" "I") (by decide +kernel)
  have hin_X0 : ∀ w ∈ wsX00, w ∈ wsX0_areNodes := by decide +kernel
  have hini_RX7 := hts (.initialized RX7) (by decide +kernel)
  have hst_X7_isWithin := hts (.static yX7_isWithin) (by decide +kernel)
  generalize hAe : pB [(h0, .inr (0, [.ref h1, .int (nI N)])), (h1, .inl (G.2 1, 169, .inr (.inl ms)))] = A at hD ⊢
  have hS : va_S A s.heap s.heap [] := va_S.rf
  have hP : va_P G.1 vwCl [(h0, .inr (0, [.ref h1, .int (nI N)])), (h1, .inl (G.2 1, 169, .inr (.inl ms)))] s.heap := hP
  have hD : va_D A [(h0, .inr (0, [.ref h1, .int (nI N)])), (h1, .inl (G.2 1, 169, .inr (.inl ms)))] := hD
  have hl : lv_has ls 3 [(0, .ref h0), (1, .int x), (2, .int y)] := hl
  refine lv_iload_n hx hb dX0_areNodes_0 rfl (lv_at hl 1 rfl) ?_
  refine lv_iconst (v := 0) hx hb dX0_areNodes_1 (by decide) ?_
  refine lv_aload_n hx hb dX0_areNodes_2 rfl (lv_at hl 0 rfl) ?_
  refine va_get (D := G.1) (ci := 0) (v := .int (nI N)) (C := RX0) (T := TX0) (N := 2) hx hb hts hin_X0 hown hK.1 hP 0 rfl rfl 1 (by decide) hfl_15 (fun _ h9 => h9) rfl dX0_areNodes_3 ?_
  refine lv_iconst (v := 1) hx hb dX0_areNodes_6 (by decide) ?_
  refine lv_isub hx hb dX0_areNodes_7 ?_
  refine xI (S := Unit) (va_runSN (As := [.int x, .int 0, .int ((nI N) - 1)]) (rest := []) ⟨hx, hb, hml, hown, hts⟩ (c_X7_isWithin l G x 0 ((nI N) - 1)) ⟨va_cnB 3 hts gX0_areNodes_X7_isWithin_n48 rfl rfl rfl (hK.2.1 _ nst_X0_48) hini_RX7 (by decide +kernel) ⟨Nat.le_of_ble_eq_true rfl, Nat.le_of_ble_eq_true rfl⟩, hst_X7_isWithin, trivial⟩ (pS [.int x, .int 0, .int ((nI N) - 1)] hK (hP.sub (ws' := []) [] rfl) (hD.sub (ws' := []) [] (by decide) rfl)) rfl rfl hl.1 rfl (lv_room (Nat.le_of_ble_eq_true rfl)) dX0_areNodes_8 ⟨Nat.zero_le _, Nat.zero_le _⟩) hP hD hS [] [0, 1] (wr := [(h0, .inr (0, [.ref h1, .int (nI N)])), (h1, .inl (G.2 1, 169, .inr (.inl ms)))]) rfl rfl (by decide) (by decide) [0, 1] (w2 := fun (_ : Unit) => [(h0, .inr (0, [.ref h1, .int (nI N)])), (h1, .inl (G.2 1, 169, .inr (.inl ms)))]) (fun _ => rfl) (by decide) (fun r_1 u_2 H locs hw_3 hP hD hS => ?_)
  (try dsimp only at hw_3); subst hw_3
  have hP : va_P G.1 vwCl [(h0, .inr (0, [.ref h1, .int (nI N)])), (h1, .inl (G.2 1, 169, .inr (.inl ms)))] H := hP
  have hD : va_D A [(h0, .inr (0, [.ref h1, .int (nI N)])), (h1, .inl (G.2 1, 169, .inr (.inl ms)))] := hD
  refine lv_if_eq (tgt := 32) hx hb dX0_areNodes_11 (by decide) (fun c_4 => ?_) (fun c_4 => ?_)
  · -- yes: bI (decide (0 ≤ x.toInt ∧ x.toInt ≤ ((nI N) - 1).toInt)) eq 0
    have c_4 : ¬ (0 ≤ x.toInt ∧ x.toInt ≤ ((nI N) - 1).toInt) := bD0 c_4
    simp (disch := omega) only [sub1_toInt, nI_toInt] at c_4
    refine lv_iconst (v := 0) hx hb dX0_areNodes_32 (by decide) ?_
    exact rtZ C hr rfl hAe (u := ()) hP hD hS dX0_areNodes_33 (bI_f (by omega))
  · -- no: bI (decide (0 ≤ x.toInt ∧ x.toInt ≤ ((nI N) - 1).toInt)) ne 0
    have c_4 : 0 ≤ x.toInt ∧ x.toInt ≤ ((nI N) - 1).toInt := bD1 c_4
    simp (disch := omega) only [sub1_toInt, nI_toInt] at c_4
    refine lv_iload_n hx hb dX0_areNodes_14 rfl (lv_at hl 2 rfl) ?_
    refine lv_iconst (v := 0) hx hb dX0_areNodes_15 (by decide) ?_
    refine lv_aload_n hx hb dX0_areNodes_16 rfl (lv_at hl 0 rfl) ?_
    refine va_get (D := G.1) (ci := 0) (v := .int (nI N)) (C := RX0) (T := TX0) (N := 2) hx hb hts hin_X0 hown hK.1 hP 0 rfl rfl 1 (by decide) hfl_15 (fun _ h9 => h9) rfl dX0_areNodes_17 ?_
    refine lv_iconst (v := 1) hx hb dX0_areNodes_20 (by decide) ?_
    refine lv_isub hx hb dX0_areNodes_21 ?_
    refine xI (S := Unit) (va_runSN (As := [.int y, .int 0, .int ((nI N) - 1)]) (rest := []) ⟨hx, hb, hml, hown, hts⟩ (c_X7_isWithin l G y 0 ((nI N) - 1)) ⟨va_cnB 3 hts gX0_areNodes_X7_isWithin_n48 rfl rfl rfl (hK.2.1 _ nst_X0_48) hini_RX7 (by decide +kernel) ⟨Nat.le_of_ble_eq_true rfl, Nat.le_of_ble_eq_true rfl⟩, hst_X7_isWithin, trivial⟩ (pS [.int y, .int 0, .int ((nI N) - 1)] hK (hP.sub (ws' := []) [] rfl) (hD.sub (ws' := []) [] (by decide) rfl)) rfl rfl hl.1 rfl (lv_room (Nat.le_of_ble_eq_true rfl)) dX0_areNodes_22 ⟨Nat.zero_le _, Nat.zero_le _⟩) hP hD hS [] [0, 1] (wr := [(h0, .inr (0, [.ref h1, .int (nI N)])), (h1, .inl (G.2 1, 169, .inr (.inl ms)))]) rfl rfl (by decide) (by decide) [0, 1] (w2 := fun (_ : Unit) => [(h0, .inr (0, [.ref h1, .int (nI N)])), (h1, .inl (G.2 1, 169, .inr (.inl ms)))]) (fun _ => rfl) (by decide) (fun r_5 u_6 H locs hw_7 hP hD hS => ?_)
    (try dsimp only at hw_7); subst hw_7
    have hP : va_P G.1 vwCl [(h0, .inr (0, [.ref h1, .int (nI N)])), (h1, .inl (G.2 1, 169, .inr (.inl ms)))] H := hP
    have hD : va_D A [(h0, .inr (0, [.ref h1, .int (nI N)])), (h1, .inl (G.2 1, 169, .inr (.inl ms)))] := hD
    refine lv_if_eq (tgt := 32) hx hb dX0_areNodes_25 (by decide) (fun c_8 => ?_) (fun c_8 => ?_)
    · -- yes: bI (decide (0 ≤ y.toInt ∧ y.toInt ≤ ((nI N) - 1).toInt)) eq 0
      have c_8 : ¬ (0 ≤ y.toInt ∧ y.toInt ≤ ((nI N) - 1).toInt) := bD0 c_8
      simp (disch := omega) only [sub1_toInt, nI_toInt] at c_8
      refine lv_iconst (v := 0) hx hb dX0_areNodes_32 (by decide) ?_
      exact rtZ C hr rfl hAe (u := ()) hP hD hS dX0_areNodes_33 (bI_f (by omega))
    · -- no: bI (decide (0 ≤ y.toInt ∧ y.toInt ≤ ((nI N) - 1).toInt)) ne 0
      have c_8 : 0 ≤ y.toInt ∧ y.toInt ≤ ((nI N) - 1).toInt := bD1 c_8
      simp (disch := omega) only [sub1_toInt, nI_toInt] at c_8
      refine lv_iconst (v := 1) hx hb dX0_areNodes_28 (by decide) ?_
      refine lv_goto (tgt := 33) hx hb dX0_areNodes_29 (by decide) ?_
      exact rtZ C hr rfl hAe (u := ()) hP hD hS dX0_areNodes_33 (bI_t (by omega))

set_option maxHeartbeats 4000000 in
set_option maxRecDepth 100000 in
theorem c_X0_atMost (l : Launch) (G : gT) (h0 : Nat) (h1 : Nat) (ms : Nat → Int64) (N : Nat) (a : Nat) (b : Nat) (v : Int64) (hN : N ≤ 13) (ha : a < N) (hb2 : b < N) : Met l yX0_atMost wsX0_atMost ({ frames := 2, cells := 0, slots := 0, locals := 44 }) (cPre G [.ref h0, .int (nI a), .int (nI b), .long v] [(h0, .inr (0, [.ref h1, .int (nI N)])), (h1, .inl (G.2 1, 169, .inr (.inl ms)))]) (va_Qv (fun (u : (Nat → Int64)) => u = amF ms ((a * 13) + b) v) (cW G [(h0, .inr (0, [.ref h1, .int (nI N)])), (h1, .inl (G.2 1, 169, .inr (.inl ms)))] (fun (u : (Nat → Int64)) => [(h0, .inr (0, [.ref h1, .int (nI N)])), (h1, .inl (G.2 1, 169, .inr (.inl u)))])) (pB [(h0, .inr (0, [.ref h1, .int (nI N)])), (h1, .inl (G.2 1, 169, .inr (.inl ms)))])) 0 0 (pB [(h0, .inr (0, [.ref h1, .int (nI N)])), (h1, .inl (G.2 1, 169, .inr (.inl ms)))]) := by
  refine ofCX (G := G) (cc := cX0_atMost) (maxL := 5) (ret := none) (by decide) rfl (Nat.le_of_ble_eq_true rfl) ?_
  intro p e s m below meth c ls C hr hin hD hP hl
  obtain ⟨hx, hb, hml, hown, hts, hlocks, hK⟩ := id C
  have hown : s.vm.findClass RX0 = some m.cls := hown
  have hfl_11 := hts (.fieldLink RX0 11 "AfterDesk$Bounds" "most" "[J") (by decide +kernel)
  have hin_X0 : ∀ w ∈ wsX00, w ∈ wsX0_atMost := by decide +kernel
  generalize hAe : pB [(h0, .inr (0, [.ref h1, .int (nI N)])), (h1, .inl (G.2 1, 169, .inr (.inl ms)))] = A at hD ⊢
  have hS : va_S A s.heap s.heap [] := va_S.rf
  have hP : va_P G.1 vwCl [(h0, .inr (0, [.ref h1, .int (nI N)])), (h1, .inl (G.2 1, 169, .inr (.inl ms)))] s.heap := hP
  have hD : va_D A [(h0, .inr (0, [.ref h1, .int (nI N)])), (h1, .inl (G.2 1, 169, .inr (.inl ms)))] := hD
  have hl : lv_has ls 5 [(0, .ref h0), (1, .int (nI a)), (2, .int (nI b)), (3, .long v)] := hl
  refine lv_aload_n hx hb dX0_atMost_0 rfl (lv_at hl 0 rfl) ?_
  refine lv_iload_n hx hb dX0_atMost_1 rfl (lv_at hl 1 rfl) ?_
  refine lv_iload_n hx hb dX0_atMost_2 rfl (lv_at hl 2 rfl) ?_
  refine xI (S := Unit) (va_runV (As := [.int (nI a), .int (nI b)]) (rest := []) ⟨hx, hb, hml, hown, hts⟩ (c_X0_areNodes l G h0 h1 ms N (nI a) (nI b) (by first | omega | assumption)) (cwV 2 hts gX0_atMost_X0_areNodes rfl rfl rfl (by decide +kernel) ⟨Nat.le_of_ble_eq_true rfl, Nat.le_of_ble_eq_true rfl⟩) (pV [.int (nI a), .int (nI b)] hK (hP.sub (ws' := [(h0, .inr (0, [.ref h1, .int (nI N)])), (h1, .inl (G.2 1, 169, .inr (.inl ms)))]) [0, 1] rfl) (hD.sub (ws' := [(h0, .inr (0, [.ref h1, .int (nI N)])), (h1, .inl (G.2 1, 169, .inr (.inl ms)))]) [0, 1] (by decide) rfl) (ci := 0) (q0 := 0) rfl rfl) rfl rfl hl.1 rfl (lv_room (Nat.le_of_ble_eq_true rfl)) dX0_atMost_3 ⟨Nat.zero_le _, Nat.zero_le _⟩) hP hD hS [0, 1] [] (wr := []) rfl rfl (by decide) (by decide) [0, 1] (w2 := fun (_ : Unit) => [(h0, .inr (0, [.ref h1, .int (nI N)])), (h1, .inl (G.2 1, 169, .inr (.inl ms)))]) (fun _ => rfl) (by decide) (fun r_1 u_2 H locs hw_3 hP hD hS => ?_)
  (try dsimp only at hw_3); subst hw_3
  have hP : va_P G.1 vwCl [(h0, .inr (0, [.ref h1, .int (nI N)])), (h1, .inl (G.2 1, 169, .inr (.inl ms)))] H := hP
  have hD : va_D A [(h0, .inr (0, [.ref h1, .int (nI N)])), (h1, .inl (G.2 1, 169, .inr (.inl ms)))] := hD
  refine lv_if_eq (tgt := 37) hx hb dX0_atMost_6 (by decide) (fun c_4 => ?_) (fun c_4 => ?_)
  · -- yes: bI (decide ((0 ≤ (nI a).toInt ∧ (nI a).toInt < (N : Int)) ∧  eq 0
    have c_4 : ¬ ((0 ≤ (nI a).toInt ∧ (nI a).toInt < (N : Int)) ∧ (0 ≤ (nI b).toInt ∧ (nI b).toInt < (N : Int))) := bD0 c_4
    simp (disch := omega) only [sub1_toInt, nI_toInt] at c_4
    exfalso; omega
  · -- no: bI (decide ((0 ≤ (nI a).toInt ∧ (nI a).toInt < (N : Int)) ∧  ne 0
    have c_4 : (0 ≤ (nI a).toInt ∧ (nI a).toInt < (N : Int)) ∧ (0 ≤ (nI b).toInt ∧ (nI b).toInt < (N : Int)) := bD1 c_4
    simp (disch := omega) only [sub1_toInt, nI_toInt] at c_4
    refine lv_lload_n hx hb dX0_atMost_9 rfl (lv_at hl 3 rfl) ?_
    refine lv_aload_n hx hb dX0_atMost_10 rfl (lv_at hl 0 rfl) ?_
    refine va_get (D := G.1) (ci := 0) (v := .ref h1) (C := RX0) (T := TX0) (N := 2) hx hb hts hin_X0 hown hK.1 hP 0 rfl rfl 0 (by decide) hfl_11 (fun _ h9 => h9) rfl dX0_atMost_11 ?_
    refine lv_iload_n hx hb dX0_atMost_14 rfl (lv_at hl 1 rfl) ?_
    refine lv_bipush (v := 13) hx hb dX0_atMost_15 (by decide) ?_
    refine lv_imul hx hb dX0_atMost_17 ?_
    refine nmI (pk_mul a 13) ?_
    refine lv_iload_n hx hb dX0_atMost_18 rfl (lv_at hl 2 rfl) ?_
    refine lv_iadd hx hb dX0_atMost_19 ?_
    refine nmI (nI_add (a * 13) b) ?_
    refine aJld hx hb hK.1 hP 1 1 rfl rfl (k := ((a * 13) + b)) rfl (by omega) (by decide) dX0_atMost_20 ?_
    refine W.lcmp hx hb dX0_atMost_21 ?_
    refine lv_if_ge (tgt := 37) hx hb dX0_atMost_22 (by decide) (fun c_5 => ?_) (fun c_5 => ?_)
    · -- yes: lg_cmp v (ms ((a * 13) + b)) ge 0
      have c_5 : (ms ((a * 13) + b)).toInt ≤ v.toInt := Int64.le_iff_toInt_le.mp ((lg_cmp_ge _ _).mp c_5)
      exact rtV C hr hAe (u := ms) hP hD hS dX0_atMost_37 (by unfold amF; first | rw [if_pos (by omega)] | rw [if_neg (by omega)])
    · -- no: lg_cmp v (ms ((a * 13) + b)) lt 0
      have c_5 : ¬ (ms ((a * 13) + b)).toInt ≤ v.toInt := fun z => c_5 ((lg_cmp_ge _ _).mpr (Int64.le_iff_toInt_le.mpr z))
      refine lv_aload_n hx hb dX0_atMost_25 rfl (lv_at hl 0 rfl) ?_
      refine va_get (D := G.1) (ci := 0) (v := .ref h1) (C := RX0) (T := TX0) (N := 2) hx hb hts hin_X0 hown hK.1 hP 0 rfl rfl 0 (by decide) hfl_11 (fun _ h9 => h9) rfl dX0_atMost_26 ?_
      refine lv_iload_n hx hb dX0_atMost_29 rfl (lv_at hl 1 rfl) ?_
      refine lv_bipush (v := 13) hx hb dX0_atMost_30 (by decide) ?_
      refine lv_imul hx hb dX0_atMost_32 ?_
      refine nmI (pk_mul a 13) ?_
      refine lv_iload_n hx hb dX0_atMost_33 rfl (lv_at hl 2 rfl) ?_
      refine lv_iadd hx hb dX0_atMost_34 ?_
      refine nmI (nI_add (a * 13) b) ?_
      refine lv_lload_n hx hb dX0_atMost_35 rfl (lv_at hl 3 rfl) ?_
      refine aJst hx hb hK.1 hP hD hS 1 1 rfl rfl (k := ((a * 13) + b)) rfl (by omega) (by decide) dX0_atMost_36 (fun H locs hP hD hS => ?_)
      have hP : va_P G.1 vwCl [(h0, .inr (0, [.ref h1, .int (nI N)])), (h1, .inl (G.2 1, 169, .inr (.inl (vp_updL ms ((a * 13) + b) v))))] H := hP
      have hD : va_D A [(h0, .inr (0, [.ref h1, .int (nI N)])), (h1, .inl (G.2 1, 169, .inr (.inl (vp_updL ms ((a * 13) + b) v))))] := hD
      exact rtV C hr hAe (u := (vp_updL ms ((a * 13) + b) v)) hP hD hS dX0_atMost_37 (by unfold amF; first | rw [if_pos (by omega)] | rw [if_neg (by omega)])

set_option maxHeartbeats 4000000 in
set_option maxRecDepth 100000 in
theorem c_X0_between (l : Launch) (G : gT) (h0 : Nat) (h1 : Nat) (ms : Nat → Int64) (N : Nat) (a : Nat) (b : Nat) (hN : N ≤ 13) (ha : a < N) (hb2 : b < N) : Met l yX0_between wsX0_between ({ frames := 2, cells := 0, slots := 0, locals := 44 }) (cPre G [.ref h0, .int (nI a), .int (nI b)] [(h0, .inr (0, [.ref h1, .int (nI N)])), (h1, .inl (G.2 1, 169, .inr (.inl ms)))]) (va_Ql (fun (rv : Int64) (_u : Unit) => rv = ms ((a * 13) + b)) (cW G [(h0, .inr (0, [.ref h1, .int (nI N)])), (h1, .inl (G.2 1, 169, .inr (.inl ms)))] (fun (_u : Unit) => [(h0, .inr (0, [.ref h1, .int (nI N)])), (h1, .inl (G.2 1, 169, .inr (.inl ms)))])) (pB [(h0, .inr (0, [.ref h1, .int (nI N)])), (h1, .inl (G.2 1, 169, .inr (.inl ms)))])) 0 0 (pB [(h0, .inr (0, [.ref h1, .int (nI N)])), (h1, .inl (G.2 1, 169, .inr (.inl ms)))]) := by
  refine ofCX (G := G) (cc := cX0_between) (maxL := 3) (ret := (some .long)) (by decide) rfl (Nat.le_of_ble_eq_true rfl) ?_
  intro p e s m below meth c ls C hr hin hD hP hl
  obtain ⟨hx, hb, hml, hown, hts, hlocks, hK⟩ := id C
  have hown : s.vm.findClass RX0 = some m.cls := hown
  have hfl_11 := hts (.fieldLink RX0 11 "AfterDesk$Bounds" "most" "[J") (by decide +kernel)
  have hin_X0 : ∀ w ∈ wsX00, w ∈ wsX0_between := by decide +kernel
  generalize hAe : pB [(h0, .inr (0, [.ref h1, .int (nI N)])), (h1, .inl (G.2 1, 169, .inr (.inl ms)))] = A at hD ⊢
  have hS : va_S A s.heap s.heap [] := va_S.rf
  have hP : va_P G.1 vwCl [(h0, .inr (0, [.ref h1, .int (nI N)])), (h1, .inl (G.2 1, 169, .inr (.inl ms)))] s.heap := hP
  have hD : va_D A [(h0, .inr (0, [.ref h1, .int (nI N)])), (h1, .inl (G.2 1, 169, .inr (.inl ms)))] := hD
  have hl : lv_has ls 3 [(0, .ref h0), (1, .int (nI a)), (2, .int (nI b))] := hl
  refine lv_aload_n hx hb dX0_between_0 rfl (lv_at hl 0 rfl) ?_
  refine lv_iload_n hx hb dX0_between_1 rfl (lv_at hl 1 rfl) ?_
  refine lv_iload_n hx hb dX0_between_2 rfl (lv_at hl 2 rfl) ?_
  refine xI (S := Unit) (va_runV (As := [.int (nI a), .int (nI b)]) (rest := []) ⟨hx, hb, hml, hown, hts⟩ (c_X0_areNodes l G h0 h1 ms N (nI a) (nI b) (by first | omega | assumption)) (cwV 2 hts gX0_between_X0_areNodes rfl rfl rfl (by decide +kernel) ⟨Nat.le_of_ble_eq_true rfl, Nat.le_of_ble_eq_true rfl⟩) (pV [.int (nI a), .int (nI b)] hK (hP.sub (ws' := [(h0, .inr (0, [.ref h1, .int (nI N)])), (h1, .inl (G.2 1, 169, .inr (.inl ms)))]) [0, 1] rfl) (hD.sub (ws' := [(h0, .inr (0, [.ref h1, .int (nI N)])), (h1, .inl (G.2 1, 169, .inr (.inl ms)))]) [0, 1] (by decide) rfl) (ci := 0) (q0 := 0) rfl rfl) rfl rfl hl.1 rfl (lv_room (Nat.le_of_ble_eq_true rfl)) dX0_between_3 ⟨Nat.zero_le _, Nat.zero_le _⟩) hP hD hS [0, 1] [] (wr := []) rfl rfl (by decide) (by decide) [0, 1] (w2 := fun (_ : Unit) => [(h0, .inr (0, [.ref h1, .int (nI N)])), (h1, .inl (G.2 1, 169, .inr (.inl ms)))]) (fun _ => rfl) (by decide) (fun r_1 u_2 H locs hw_3 hP hD hS => ?_)
  (try dsimp only at hw_3); subst hw_3
  have hP : va_P G.1 vwCl [(h0, .inr (0, [.ref h1, .int (nI N)])), (h1, .inl (G.2 1, 169, .inr (.inl ms)))] H := hP
  have hD : va_D A [(h0, .inr (0, [.ref h1, .int (nI N)])), (h1, .inl (G.2 1, 169, .inr (.inl ms)))] := hD
  refine lv_if_eq (tgt := 23) hx hb dX0_between_6 (by decide) (fun c_4 => ?_) (fun c_4 => ?_)
  · -- yes: bI (decide ((0 ≤ (nI a).toInt ∧ (nI a).toInt < (N : Int)) ∧  eq 0
    have c_4 : ¬ ((0 ≤ (nI a).toInt ∧ (nI a).toInt < (N : Int)) ∧ (0 ≤ (nI b).toInt ∧ (nI b).toInt < (N : Int))) := bD0 c_4
    simp (disch := omega) only [sub1_toInt, nI_toInt] at c_4
    exfalso; omega
  · -- no: bI (decide ((0 ≤ (nI a).toInt ∧ (nI a).toInt < (N : Int)) ∧  ne 0
    have c_4 : (0 ≤ (nI a).toInt ∧ (nI a).toInt < (N : Int)) ∧ (0 ≤ (nI b).toInt ∧ (nI b).toInt < (N : Int)) := bD1 c_4
    simp (disch := omega) only [sub1_toInt, nI_toInt] at c_4
    refine lv_aload_n hx hb dX0_between_9 rfl (lv_at hl 0 rfl) ?_
    refine va_get (D := G.1) (ci := 0) (v := .ref h1) (C := RX0) (T := TX0) (N := 2) hx hb hts hin_X0 hown hK.1 hP 0 rfl rfl 0 (by decide) hfl_11 (fun _ h9 => h9) rfl dX0_between_10 ?_
    refine lv_iload_n hx hb dX0_between_13 rfl (lv_at hl 1 rfl) ?_
    refine lv_bipush (v := 13) hx hb dX0_between_14 (by decide) ?_
    refine lv_imul hx hb dX0_between_16 ?_
    refine nmI (pk_mul a 13) ?_
    refine lv_iload_n hx hb dX0_between_17 rfl (lv_at hl 2 rfl) ?_
    refine lv_iadd hx hb dX0_between_18 ?_
    refine nmI (nI_add (a * 13) b) ?_
    refine aJld hx hb hK.1 hP 1 1 rfl rfl (k := ((a * 13) + b)) rfl (by omega) (by decide) dX0_between_19 ?_
    refine lv_goto (tgt := 26) hx hb dX0_between_20 (by decide) ?_
    exact rtL C hr hAe (u := ()) hP hD hS dX0_between_26 rfl

set_option maxHeartbeats 4000000 in
set_option maxRecDepth 100000 in
theorem lp_X0_tightenRow_24 {p : Program} {l : Launch} {e : Env} {R : Room} {s : State} {m : MethodId} {args : Array Value} {below : List Frame} {meth : Method} {c : Code} {A : Nat → Prop} {H0 : Heap} {Q : State → Prop} {G : gT} (C : CX p s m meth c args cX0_tightenRow 8 RX0 wsX0_tightenRow G) (h0 : Nat) (h1 : Nat) (ms0 : Nat → Int64) (N : Nat) (a : Nat) (v : Nat) (x : Int64) (hN : N ≤ 13) (ha : a < N) (hv : v < N) (hk : ∀ (H : Heap) (locs : List Loc) (ls : Array Slot), va_P G.1 vwCl [(h0, .inr (0, [.ref h1, .int (nI N)])), (h1, .inl (G.2 1, 169, .inr (.inl (trF ms0 a v x N))))] H → va_D A [(h0, .inr (0, [.ref h1, .int (nI N)])), (h1, .inl (G.2 1, 169, .inr (.inl (trF ms0 a v x N))))] → va_S A H0 H locs → lv_has ls 8 [(0, .ref h0), (1, .int (nI a)), (2, .int (nI v)), (3, .long x), (5, .int (nI N))] → W p l e R s m args below meth c H locs 0 0 Q (F0 m 98 ls [])) : ∀ (fu k : Nat) (ms : Nat → Int64), k ≤ N → N - k < fu → ms = trF ms0 a v x k → ∀ (H : Heap) (locs : List Loc) (ls : Array Slot), va_P G.1 vwCl [(h0, .inr (0, [.ref h1, .int (nI N)])), (h1, .inl (G.2 1, 169, .inr (.inl ms)))] H → va_D A [(h0, .inr (0, [.ref h1, .int (nI N)])), (h1, .inl (G.2 1, 169, .inr (.inl ms)))] → va_S A H0 H locs → lv_has ls 8 [(0, .ref h0), (1, .int (nI a)), (2, .int (nI v)), (3, .long x), (5, .int (nI k))] → W p l e R s m args below meth c H locs 0 0 Q (F0 m 24 ls []) := by
  obtain ⟨hx, hb, hml, hown, hts, hlocks, hK⟩ := id C
  have hfl_15 := hts (.fieldLink RX0 15 "AfterDesk$Bounds" "nodes" "I") (by decide +kernel)
  have hin_X0 : ∀ w ∈ wsX00, w ∈ wsX0_tightenRow := by decide +kernel
  have hfl_11 := hts (.fieldLink RX0 11 "AfterDesk$Bounds" "most" "[J") (by decide +kernel)
  have hcl_28 := hts (.constantLong RX0 28 (1152921504606846976)) (by decide +kernel)
  intro fu
  induction fu with
  | zero =>
    intro k ms h1 h2
    exact absurd h2 (by omega)
  | succ fu ih =>
    intro k ms hkle hkn e_ms  H locs ls hP hD hS hl
    subst e_ms
    refine lv_iload hx hb dX0_tightenRow_24 (lv_at hl 4 rfl) ?_
    refine lv_aload_n hx hb dX0_tightenRow_26 rfl (lv_at hl 0 rfl) ?_
    refine va_get (D := G.1) (ci := 0) (v := .int (nI N)) (C := RX0) (T := TX0) (N := 2) hx hb hts hin_X0 hown hK.1 hP 0 rfl rfl 1 (by decide) hfl_15 (fun _ h9 => h9) rfl dX0_tightenRow_27 ?_
    refine lv_icmp_ge (tgt := 98) hx hb dX0_tightenRow_30 (by decide) (fun c_1 => ?_) (fun c_1 => ?_)
    · -- yes: nI k ge nI N
      have c_1 : N ≤ k := (nI_leI (a := N) (b := k) (by omega) (by omega)).mp c_1
      have hkN : k = N := by omega
      subst hkN
      exact hk  _ _ _ hP hD hS (lv_sub hl [0, 1, 2, 3, 4] rfl)
    · -- no: nI k lt nI N
      have c_1 : ¬ N ≤ k := fun z => c_1 ((nI_leI (a := N) (b := k) (by omega) (by omega)).mpr z)
      refine lv_aload_n hx hb dX0_tightenRow_33 rfl (lv_at hl 0 rfl) ?_
      refine va_get (D := G.1) (ci := 0) (v := .ref h1) (C := RX0) (T := TX0) (N := 2) hx hb hts hin_X0 hown hK.1 hP 0 rfl rfl 0 (by decide) hfl_11 (fun _ h9 => h9) rfl dX0_tightenRow_34 ?_
      refine lv_iload_n hx hb dX0_tightenRow_37 rfl (lv_at hl 2 rfl) ?_
      refine lv_bipush (v := 13) hx hb dX0_tightenRow_38 (by decide) ?_
      refine lv_imul hx hb dX0_tightenRow_40 ?_
      refine nmI (pk_mul v 13) ?_
      refine lv_iload hx hb dX0_tightenRow_41 (lv_at hl 4 rfl) ?_
      refine lv_iadd hx hb dX0_tightenRow_43 ?_
      refine nmI (nI_add (v * 13) k) ?_
      refine aJld hx hb hK.1 hP 1 1 rfl rfl (k := ((v * 13) + k)) rfl (by omega) (by decide) dX0_tightenRow_44 ?_
      refine lv_lstore (lv' := [(6, .long ((trF ms0 a v x k) ((v * 13) + k))), (0, .ref h0), (1, .int (nI a)), (2, .int (nI v)), (3, .long x), (5, .int (nI k))]) hx hb dX0_tightenRow_45 hl (by decide) rfl (fun ls hl => ?_)
      refine lv_lload hx hb dX0_tightenRow_47 (lv_at hl 0 rfl) ?_
      refine lv_ldc2 hx hb hown hcl_28 dX0_tightenRow_49 ?_
      refine W.lcmp hx hb dX0_tightenRow_52 ?_
      refine lv_if_ge (tgt := 92) hx hb dX0_tightenRow_53 (by decide) (fun c_2 => ?_) (fun c_2 => ?_)
      · -- yes: lg_cmp ((trF ms0 a v x k) ((v * 13) + k)) 230584300921369395 ge 0
        have c_2 : 1152921504606846976 ≤ ((trF ms0 a v x k) ((v * 13) + k)).toInt := Int64.le_iff_toInt_le.mp ((lg_cmp_ge _ _).mp c_2)
        refine lv_iinc (v := nI (k + 1)) (lv' := [(5, .int (nI (k + 1))), (6, .long ((trF ms0 a v x k) ((v * 13) + k))), (0, .ref h0), (1, .int (nI a)), (2, .int (nI v)), (3, .long x)]) hx hb dX0_tightenRow_92 hl (k := 5) rfl (nI_inc _) (by decide) rfl (fun ls hl => ?_)
        refine lv_goto (tgt := 24) hx hb dX0_tightenRow_95 (by decide) ?_
        exact ih (k + 1) (trF ms0 a v x k) (by omega) (by omega) (by show _ = trS (trF ms0 a v x k) a v x k; unfold trS; first | rw [if_pos (by omega)] | rw [if_neg (by omega)])  _ _ _ hP hD hS (lv_sub hl [2, 3, 4, 5, 0] rfl)
      · -- no: lg_cmp ((trF ms0 a v x k) ((v * 13) + k)) 230584300921369395 lt 0
        have c_2 : ¬ 1152921504606846976 ≤ ((trF ms0 a v x k) ((v * 13) + k)).toInt := fun z => c_2 ((lg_cmp_ge _ _).mpr (Int64.le_iff_toInt_le.mpr z))
        refine lv_lload_n hx hb dX0_tightenRow_56 rfl (lv_at hl 4 rfl) ?_
        refine lv_lload hx hb dX0_tightenRow_57 (lv_at hl 0 rfl) ?_
        refine lv_ladd hx hb dX0_tightenRow_59 ?_
        refine lv_aload_n hx hb dX0_tightenRow_60 rfl (lv_at hl 1 rfl) ?_
        refine va_get (D := G.1) (ci := 0) (v := .ref h1) (C := RX0) (T := TX0) (N := 2) hx hb hts hin_X0 hown hK.1 hP 0 rfl rfl 0 (by decide) hfl_11 (fun _ h9 => h9) rfl dX0_tightenRow_61 ?_
        refine lv_iload_n hx hb dX0_tightenRow_64 rfl (lv_at hl 2 rfl) ?_
        refine lv_bipush (v := 13) hx hb dX0_tightenRow_65 (by decide) ?_
        refine lv_imul hx hb dX0_tightenRow_67 ?_
        refine nmI (pk_mul a 13) ?_
        refine lv_iload hx hb dX0_tightenRow_68 (lv_at hl 5 rfl) ?_
        refine lv_iadd hx hb dX0_tightenRow_70 ?_
        refine nmI (nI_add (a * 13) k) ?_
        refine aJld hx hb hK.1 hP 1 1 rfl rfl (k := ((a * 13) + k)) rfl (by omega) (by decide) dX0_tightenRow_71 ?_
        refine W.lcmp hx hb dX0_tightenRow_72 ?_
        refine lv_if_ge (tgt := 92) hx hb dX0_tightenRow_73 (by decide) (fun c_3 => ?_) (fun c_3 => ?_)
        · -- yes: lg_cmp (x + ((trF ms0 a v x k) ((v * 13) + k))) ((trF ms0 a  ge 0
          have c_3 : ((trF ms0 a v x k) ((a * 13) + k)).toInt ≤ (x + ((trF ms0 a v x k) ((v * 13) + k))).toInt := Int64.le_iff_toInt_le.mp ((lg_cmp_ge _ _).mp c_3)
          refine lv_iinc (v := nI (k + 1)) (lv' := [(5, .int (nI (k + 1))), (6, .long ((trF ms0 a v x k) ((v * 13) + k))), (0, .ref h0), (1, .int (nI a)), (2, .int (nI v)), (3, .long x)]) hx hb dX0_tightenRow_92 hl (k := 5) rfl (nI_inc _) (by decide) rfl (fun ls hl => ?_)
          refine lv_goto (tgt := 24) hx hb dX0_tightenRow_95 (by decide) ?_
          exact ih (k + 1) (trF ms0 a v x k) (by omega) (by omega) (by show _ = trS (trF ms0 a v x k) a v x k; unfold trS; first | rw [if_pos (by omega)] | rw [if_neg (by omega)])  _ _ _ hP hD hS (lv_sub hl [2, 3, 4, 5, 0] rfl)
        · -- no: lg_cmp (x + ((trF ms0 a v x k) ((v * 13) + k))) ((trF ms0 a  lt 0
          have c_3 : ¬ ((trF ms0 a v x k) ((a * 13) + k)).toInt ≤ (x + ((trF ms0 a v x k) ((v * 13) + k))).toInt := fun z => c_3 ((lg_cmp_ge _ _).mpr (Int64.le_iff_toInt_le.mpr z))
          refine lv_aload_n hx hb dX0_tightenRow_76 rfl (lv_at hl 1 rfl) ?_
          refine va_get (D := G.1) (ci := 0) (v := .ref h1) (C := RX0) (T := TX0) (N := 2) hx hb hts hin_X0 hown hK.1 hP 0 rfl rfl 0 (by decide) hfl_11 (fun _ h9 => h9) rfl dX0_tightenRow_77 ?_
          refine lv_iload_n hx hb dX0_tightenRow_80 rfl (lv_at hl 2 rfl) ?_
          refine lv_bipush (v := 13) hx hb dX0_tightenRow_81 (by decide) ?_
          refine lv_imul hx hb dX0_tightenRow_83 ?_
          refine nmI (pk_mul a 13) ?_
          refine lv_iload hx hb dX0_tightenRow_84 (lv_at hl 5 rfl) ?_
          refine lv_iadd hx hb dX0_tightenRow_86 ?_
          refine nmI (nI_add (a * 13) k) ?_
          refine lv_lload_n hx hb dX0_tightenRow_87 rfl (lv_at hl 4 rfl) ?_
          refine lv_lload hx hb dX0_tightenRow_88 (lv_at hl 0 rfl) ?_
          refine lv_ladd hx hb dX0_tightenRow_90 ?_
          refine aJst hx hb hK.1 hP hD hS 1 1 rfl rfl (k := ((a * 13) + k)) rfl (by omega) (by decide) dX0_tightenRow_91 (fun H locs hP hD hS => ?_)
          have hP : va_P G.1 vwCl [(h0, .inr (0, [.ref h1, .int (nI N)])), (h1, .inl (G.2 1, 169, .inr (.inl (vp_updL (trF ms0 a v x k) ((a * 13) + k) (x + ((trF ms0 a v x k) ((v * 13) + k)))))))] H := hP
          have hD : va_D A [(h0, .inr (0, [.ref h1, .int (nI N)])), (h1, .inl (G.2 1, 169, .inr (.inl (vp_updL (trF ms0 a v x k) ((a * 13) + k) (x + ((trF ms0 a v x k) ((v * 13) + k)))))))] := hD
          refine lv_iinc (v := nI (k + 1)) (lv' := [(5, .int (nI (k + 1))), (6, .long ((trF ms0 a v x k) ((v * 13) + k))), (0, .ref h0), (1, .int (nI a)), (2, .int (nI v)), (3, .long x)]) hx hb dX0_tightenRow_92 hl (k := 5) rfl (nI_inc _) (by decide) rfl (fun ls hl => ?_)
          refine lv_goto (tgt := 24) hx hb dX0_tightenRow_95 (by decide) ?_
          exact ih (k + 1) (vp_updL (trF ms0 a v x k) ((a * 13) + k) (x + ((trF ms0 a v x k) ((v * 13) + k)))) (by omega) (by omega) (by show _ = trS (trF ms0 a v x k) a v x k; unfold trS; first | rw [if_pos (by omega)] | rw [if_neg (by omega)])  _ _ _ hP hD hS (lv_sub hl [2, 3, 4, 5, 0] rfl)

set_option maxHeartbeats 4000000 in
set_option maxRecDepth 100000 in
theorem c_X0_tightenRow (l : Launch) (G : gT) (h0 : Nat) (h1 : Nat) (ms : Nat → Int64) (N : Nat) (a : Nat) (v : Nat) (hN : N ≤ 13) (ha : a < N) (hv : v < N) : Met l yX0_tightenRow wsX0_tightenRow ({ frames := 0, cells := 0, slots := 0, locals := 0 }) (cPre G [.ref h0, .int (nI a), .int (nI v)] [(h0, .inr (0, [.ref h1, .int (nI N)])), (h1, .inl (G.2 1, 169, .inr (.inl ms)))]) (va_Qv (fun (u : (Nat → Int64)) => u = rwF ms a v N) (cW G [(h0, .inr (0, [.ref h1, .int (nI N)])), (h1, .inl (G.2 1, 169, .inr (.inl ms)))] (fun (u : (Nat → Int64)) => [(h0, .inr (0, [.ref h1, .int (nI N)])), (h1, .inl (G.2 1, 169, .inr (.inl u)))])) (pB [(h0, .inr (0, [.ref h1, .int (nI N)])), (h1, .inl (G.2 1, 169, .inr (.inl ms)))])) 0 0 (pB [(h0, .inr (0, [.ref h1, .int (nI N)])), (h1, .inl (G.2 1, 169, .inr (.inl ms)))]) := by
  refine ofCX (G := G) (cc := cX0_tightenRow) (maxL := 8) (ret := none) (by decide) rfl (Nat.le_of_ble_eq_true rfl) ?_
  intro p e s m below meth c ls C hr hin hD hP hl
  obtain ⟨hx, hb, hml, hown, hts, hlocks, hK⟩ := id C
  have hown : s.vm.findClass RX0 = some m.cls := hown
  have hfl_11 := hts (.fieldLink RX0 11 "AfterDesk$Bounds" "most" "[J") (by decide +kernel)
  have hin_X0 : ∀ w ∈ wsX00, w ∈ wsX0_tightenRow := by decide +kernel
  have hcl_28 := hts (.constantLong RX0 28 (1152921504606846976)) (by decide +kernel)
  generalize hAe : pB [(h0, .inr (0, [.ref h1, .int (nI N)])), (h1, .inl (G.2 1, 169, .inr (.inl ms)))] = A at hD ⊢
  have hS : va_S A s.heap s.heap [] := va_S.rf
  have hP : va_P G.1 vwCl [(h0, .inr (0, [.ref h1, .int (nI N)])), (h1, .inl (G.2 1, 169, .inr (.inl ms)))] s.heap := hP
  have hD : va_D A [(h0, .inr (0, [.ref h1, .int (nI N)])), (h1, .inl (G.2 1, 169, .inr (.inl ms)))] := hD
  have hl : lv_has ls 8 [(0, .ref h0), (1, .int (nI a)), (2, .int (nI v))] := hl
  refine lv_aload_n hx hb dX0_tightenRow_0 rfl (lv_at hl 0 rfl) ?_
  refine va_get (D := G.1) (ci := 0) (v := .ref h1) (C := RX0) (T := TX0) (N := 2) hx hb hts hin_X0 hown hK.1 hP 0 rfl rfl 0 (by decide) hfl_11 (fun _ h9 => h9) rfl dX0_tightenRow_1 ?_
  refine lv_iload_n hx hb dX0_tightenRow_4 rfl (lv_at hl 1 rfl) ?_
  refine lv_bipush (v := 13) hx hb dX0_tightenRow_5 (by decide) ?_
  refine lv_imul hx hb dX0_tightenRow_7 ?_
  refine nmI (pk_mul a 13) ?_
  refine lv_iload_n hx hb dX0_tightenRow_8 rfl (lv_at hl 2 rfl) ?_
  refine lv_iadd hx hb dX0_tightenRow_9 ?_
  refine nmI (nI_add (a * 13) v) ?_
  refine aJld hx hb hK.1 hP 1 1 rfl rfl (k := ((a * 13) + v)) rfl (by omega) (by decide) dX0_tightenRow_10 ?_
  refine lv_lstore_n (lv' := [(3, .long (ms ((a * 13) + v))), (0, .ref h0), (1, .int (nI a)), (2, .int (nI v))]) hx hb dX0_tightenRow_11 rfl hl (by decide) rfl (fun ls hl => ?_)
  refine lv_lload_n hx hb dX0_tightenRow_12 rfl (lv_at hl 0 rfl) ?_
  refine lv_ldc2 hx hb hown hcl_28 dX0_tightenRow_13 ?_
  refine W.lcmp hx hb dX0_tightenRow_16 ?_
  refine lv_if_lt (tgt := 21) hx hb dX0_tightenRow_17 (by decide) (fun c_1 => ?_) (fun c_1 => ?_)
  · -- yes: lg_cmp (ms ((a * 13) + v)) 1152921504606846976 lt 0
    have c_1 : (ms ((a * 13) + v)).toInt < 1152921504606846976 := Int64.lt_iff_toInt_lt.mp ((lg_cmp_lt _ _).mp c_1)
    refine lv_iconst (v := 0) hx hb dX0_tightenRow_21 (by decide) ?_
    refine lv_istore (lv' := [(5, .int 0), (3, .long (ms ((a * 13) + v))), (0, .ref h0), (1, .int (nI a)), (2, .int (nI v))]) hx hb dX0_tightenRow_22 hl (by decide) rfl (fun ls hl => ?_)
    refine lp_X0_tightenRow_24 C h0 h1 ms N a v (ms ((a * 13) + v)) (by first | omega | assumption) (by first | omega | assumption) (by first | omega | assumption) (fun  H locs ls hP hD hS hl => ?_) (N + 1) 0 ms (by omega) (by omega) rfl  _ _ _ hP hD hS (lv_sub hl [2, 3, 4, 1, 0] rfl)
    have hP : va_P G.1 vwCl [(h0, .inr (0, [.ref h1, .int (nI N)])), (h1, .inl (G.2 1, 169, .inr (.inl (trF ms a v (ms ((a * 13) + v)) N))))] H := hP
    have hD : va_D A [(h0, .inr (0, [.ref h1, .int (nI N)])), (h1, .inl (G.2 1, 169, .inr (.inl (trF ms a v (ms ((a * 13) + v)) N))))] := hD
    exact rtV C hr hAe (u := (trF ms a v (ms ((a * 13) + v)) N)) hP hD hS dX0_tightenRow_98 (by unfold rwF; first | rw [if_pos (by omega)] | rw [if_neg (by omega)])
  · -- no: lg_cmp (ms ((a * 13) + v)) 1152921504606846976 ge 0
    have c_1 : ¬ (ms ((a * 13) + v)).toInt < 1152921504606846976 := fun z => c_1 ((lg_cmp_lt _ _).mpr (Int64.lt_iff_toInt_lt.mpr z))
    exact rtV C hr hAe (u := ms) hP hD hS dX0_tightenRow_20 (by unfold rwF; first | rw [if_pos (by omega)] | rw [if_neg (by omega)])

set_option maxHeartbeats 4000000 in
set_option maxRecDepth 100000 in
theorem lp_X0_isAnyBelowItself_2 {p : Program} {l : Launch} {e : Env} {R : Room} {s : State} {m : MethodId} {args : Array Value} {below : List Frame} {meth : Method} {c : Code} {A : Nat → Prop} {H0 : Heap} {Q : State → Prop} {G : gT} (C : CX p s m meth c args cX0_isAnyBelowItself 2 RX0 wsX0_isAnyBelowItself G) (h0 : Nat) (h1 : Nat) (ms : Nat → Int64) (N : Nat) (hN : N ≤ 13) (hk : (¬ anyNeg ms N = true) → ∀ (H : Heap) (locs : List Loc) (ls : Array Slot), va_P G.1 vwCl [(h0, .inr (0, [.ref h1, .int (nI N)])), (h1, .inl (G.2 1, 169, .inr (.inl ms)))] H → va_D A [(h0, .inr (0, [.ref h1, .int (nI N)])), (h1, .inl (G.2 1, 169, .inr (.inl ms)))] → va_S A H0 H locs → lv_has ls 2 [(0, .ref h0), (1, .int (nI N))] → W p l e R s m args below meth c H locs 0 0 Q (F0 m 34 ls [])) (he0 : ∀ (k : Nat) , k < N → (¬ anyNeg ms k = true) → ((ms ((k * 13) + k)).toInt < 0) → ∀ (H : Heap) (locs : List Loc) (ls : Array Slot), va_P G.1 vwCl [(h0, .inr (0, [.ref h1, .int (nI N)])), (h1, .inl (G.2 1, 169, .inr (.inl ms)))] H → va_D A [(h0, .inr (0, [.ref h1, .int (nI N)])), (h1, .inl (G.2 1, 169, .inr (.inl ms)))] → va_S A H0 H locs → lv_has ls 2 [(0, .ref h0), (1, .int (nI k))] → W p l e R s m args below meth c H locs 0 0 Q (F0 m 26 ls [])) : ∀ (fu k : Nat), k ≤ N → N - k < fu → (¬ anyNeg ms k = true) → ∀ (H : Heap) (locs : List Loc) (ls : Array Slot), va_P G.1 vwCl [(h0, .inr (0, [.ref h1, .int (nI N)])), (h1, .inl (G.2 1, 169, .inr (.inl ms)))] H → va_D A [(h0, .inr (0, [.ref h1, .int (nI N)])), (h1, .inl (G.2 1, 169, .inr (.inl ms)))] → va_S A H0 H locs → lv_has ls 2 [(0, .ref h0), (1, .int (nI k))] → W p l e R s m args below meth c H locs 0 0 Q (F0 m 2 ls []) := by
  obtain ⟨hx, hb, hml, hown, hts, hlocks, hK⟩ := id C
  have hfl_15 := hts (.fieldLink RX0 15 "AfterDesk$Bounds" "nodes" "I") (by decide +kernel)
  have hin_X0 : ∀ w ∈ wsX00, w ∈ wsX0_isAnyBelowItself := by decide +kernel
  have hfl_11 := hts (.fieldLink RX0 11 "AfterDesk$Bounds" "most" "[J") (by decide +kernel)
  intro fu
  induction fu with
  | zero =>
    intro k  h1 h2
    exact absurd h2 (by omega)
  | succ fu ih =>
    intro k  hkle hkn  hno H locs ls hP hD hS hl
    refine lv_iload_n hx hb dX0_isAnyBelowItself_2 rfl (lv_at hl 1 rfl) ?_
    refine lv_aload_n hx hb dX0_isAnyBelowItself_3 rfl (lv_at hl 0 rfl) ?_
    refine va_get (D := G.1) (ci := 0) (v := .int (nI N)) (C := RX0) (T := TX0) (N := 2) hx hb hts hin_X0 hown hK.1 hP 0 rfl rfl 1 (by decide) hfl_15 (fun _ h9 => h9) rfl dX0_isAnyBelowItself_4 ?_
    refine lv_icmp_ge (tgt := 34) hx hb dX0_isAnyBelowItself_7 (by decide) (fun c_1 => ?_) (fun c_1 => ?_)
    · -- yes: nI k ge nI N
      have c_1 : N ≤ k := (nI_leI (a := N) (b := k) (by omega) (by omega)).mp c_1
      have hkN : k = N := by omega
      subst hkN
      exact hk hno _ _ _ hP hD hS (lv_sub hl [0, 1] rfl)
    · -- no: nI k lt nI N
      have c_1 : ¬ N ≤ k := fun z => c_1 ((nI_leI (a := N) (b := k) (by omega) (by omega)).mpr z)
      refine lv_aload_n hx hb dX0_isAnyBelowItself_10 rfl (lv_at hl 0 rfl) ?_
      refine va_get (D := G.1) (ci := 0) (v := .ref h1) (C := RX0) (T := TX0) (N := 2) hx hb hts hin_X0 hown hK.1 hP 0 rfl rfl 0 (by decide) hfl_11 (fun _ h9 => h9) rfl dX0_isAnyBelowItself_11 ?_
      refine lv_iload_n hx hb dX0_isAnyBelowItself_14 rfl (lv_at hl 1 rfl) ?_
      refine lv_bipush (v := 13) hx hb dX0_isAnyBelowItself_15 (by decide) ?_
      refine lv_imul hx hb dX0_isAnyBelowItself_17 ?_
      refine nmI (pk_mul k 13) ?_
      refine lv_iload_n hx hb dX0_isAnyBelowItself_18 rfl (lv_at hl 1 rfl) ?_
      refine lv_iadd hx hb dX0_isAnyBelowItself_19 ?_
      refine nmI (nI_add (k * 13) k) ?_
      refine aJld hx hb hK.1 hP 1 1 rfl rfl (k := ((k * 13) + k)) rfl (by omega) (by decide) dX0_isAnyBelowItself_20 ?_
      refine lv_lconst (v := 0) hx hb dX0_isAnyBelowItself_21 (by decide) ?_
      refine W.lcmp hx hb dX0_isAnyBelowItself_22 ?_
      refine lv_if_ge (tgt := 28) hx hb dX0_isAnyBelowItself_23 (by decide) (fun c_2 => ?_) (fun c_2 => ?_)
      · -- yes: lg_cmp (ms ((k * 13) + k)) 0 ge 0
        have c_2 : 0 ≤ (ms ((k * 13) + k)).toInt := Int64.le_iff_toInt_le.mp ((lg_cmp_ge _ _).mp c_2)
        refine lv_iinc (v := nI (k + 1)) (lv' := [(1, .int (nI (k + 1))), (0, .ref h0)]) hx hb dX0_isAnyBelowItself_28 hl (k := 1) rfl (nI_inc _) (by decide) rfl (fun ls hl => ?_)
        refine lv_goto (tgt := 2) hx hb dX0_isAnyBelowItself_31 (by decide) ?_
        exact ih (k + 1)  (by omega) (by omega)  (by show ¬ (anyNeg ms k || decide ((ms ((k * 13) + k)).toInt < 0)) = true; rw [Bool.or_eq_true]; rintro (z | z); exact hno z; exact absurd (of_decide_eq_true z) (by omega)) _ _ _ hP hD hS (lv_sub hl [1, 0] rfl)
      · -- no: lg_cmp (ms ((k * 13) + k)) 0 lt 0
        have c_2 : ¬ 0 ≤ (ms ((k * 13) + k)).toInt := fun z => c_2 ((lg_cmp_ge _ _).mpr (Int64.le_iff_toInt_le.mpr z))
        exact he0 k  (by omega) hno (by omega) _ _ _ hP hD hS (lv_sub hl [0, 1] rfl)

set_option maxHeartbeats 4000000 in
set_option maxRecDepth 100000 in
theorem c_X0_isAnyBelowItself (l : Launch) (G : gT) (h0 : Nat) (h1 : Nat) (ms : Nat → Int64) (N : Nat) (hN : N ≤ 13) : Met l yX0_isAnyBelowItself wsX0_isAnyBelowItself ({ frames := 0, cells := 0, slots := 0, locals := 0 }) (cPre G [.ref h0] [(h0, .inr (0, [.ref h1, .int (nI N)])), (h1, .inl (G.2 1, 169, .inr (.inl ms)))]) (va_Qi (fun (rv : Int32) (_u : Unit) => rv = bI (decide (anyNeg ms N = true))) (cW G [(h0, .inr (0, [.ref h1, .int (nI N)])), (h1, .inl (G.2 1, 169, .inr (.inl ms)))] (fun (_u : Unit) => [(h0, .inr (0, [.ref h1, .int (nI N)])), (h1, .inl (G.2 1, 169, .inr (.inl ms)))])) (pB [(h0, .inr (0, [.ref h1, .int (nI N)])), (h1, .inl (G.2 1, 169, .inr (.inl ms)))])) 0 0 (pB [(h0, .inr (0, [.ref h1, .int (nI N)])), (h1, .inl (G.2 1, 169, .inr (.inl ms)))]) := by
  refine ofCX (G := G) (cc := cX0_isAnyBelowItself) (maxL := 2) (ret := (some .boolean)) (by decide) rfl (Nat.le_of_ble_eq_true rfl) ?_
  intro p e s m below meth c ls C hr hin hD hP hl
  obtain ⟨hx, hb, hml, hown, hts, hlocks, hK⟩ := id C
  have hown : s.vm.findClass RX0 = some m.cls := hown
  generalize hAe : pB [(h0, .inr (0, [.ref h1, .int (nI N)])), (h1, .inl (G.2 1, 169, .inr (.inl ms)))] = A at hD ⊢
  have hS : va_S A s.heap s.heap [] := va_S.rf
  have hP : va_P G.1 vwCl [(h0, .inr (0, [.ref h1, .int (nI N)])), (h1, .inl (G.2 1, 169, .inr (.inl ms)))] s.heap := hP
  have hD : va_D A [(h0, .inr (0, [.ref h1, .int (nI N)])), (h1, .inl (G.2 1, 169, .inr (.inl ms)))] := hD
  have hl : lv_has ls 2 [(0, .ref h0)] := hl
  refine lv_iconst (v := 0) hx hb dX0_isAnyBelowItself_0 (by decide) ?_
  refine lv_istore_n (lv' := [(1, .int 0), (0, .ref h0)]) hx hb dX0_isAnyBelowItself_1 rfl hl (by decide) rfl (fun ls hl => ?_)
  refine lp_X0_isAnyBelowItself_2 C h0 h1 ms N (by first | omega | assumption) (fun hno H locs ls hP hD hS hl => ?_) (fun kq  hlt hno hneg H locs ls hP hD hS hl => ?_) (N + 1) 0  (by omega) (by omega)  (by exact (fun z => by cases z)) _ _ _ hP hD hS (lv_sub hl [1, 0] rfl)
  · -- loop lp_X0_isAnyBelowItself_2, end 0
    have hP : va_P G.1 vwCl [(h0, .inr (0, [.ref h1, .int (nI N)])), (h1, .inl (G.2 1, 169, .inr (.inl ms)))] H := hP
    have hD : va_D A [(h0, .inr (0, [.ref h1, .int (nI N)])), (h1, .inl (G.2 1, 169, .inr (.inl ms)))] := hD
    refine lv_iconst (v := 0) hx hb dX0_isAnyBelowItself_34 (by decide) ?_
    exact rtZ C hr rfl hAe (u := ()) hP hD hS dX0_isAnyBelowItself_35 (bI_f hno)
  · -- loop lp_X0_isAnyBelowItself_2, end 1
    have hP : va_P G.1 vwCl [(h0, .inr (0, [.ref h1, .int (nI N)])), (h1, .inl (G.2 1, 169, .inr (.inl ms)))] H := hP
    have hD : va_D A [(h0, .inr (0, [.ref h1, .int (nI N)])), (h1, .inl (G.2 1, 169, .inr (.inl ms)))] := hD
    refine lv_iconst (v := 1) hx hb dX0_isAnyBelowItself_26 (by decide) ?_
    exact rtZ C hr rfl hAe (u := ()) hP hD hS dX0_isAnyBelowItself_27 (bI_t (anyNeg_of hlt hneg))

set_option maxHeartbeats 4000000 in
set_option maxRecDepth 100000 in
theorem lp_X0_tighten_12 {p : Program} {l : Launch} {e : Env} {R : Room} {s : State} {m : MethodId} {args : Array Value} {below : List Frame} {meth : Method} {c : Code} {A : Nat → Prop} {H0 : Heap} {Q : State → Prop} {G : gT} (C : CX p s m meth c args cX0_tighten 3 RX0 wsX0_tighten G) (h0 : Nat) (h1 : Nat) (ms0 : Nat → Int64) (N : Nat) (v : Nat) (hN : N ≤ 13) (hv : v < N) (hRf : 1 ≤ R.frames) (hRl : 27 ≤ R.locals) (hk : ∀ (H : Heap) (locs : List Loc) (ls : Array Slot), va_P G.1 vwCl [(h0, .inr (0, [.ref h1, .int (nI N)])), (h1, .inl (G.2 1, 169, .inr (.inl (viF ms0 v N N))))] H → va_D A [(h0, .inr (0, [.ref h1, .int (nI N)])), (h1, .inl (G.2 1, 169, .inr (.inl (viF ms0 v N N))))] → va_S A H0 H locs → lv_has ls 3 [(0, .ref h0), (1, .int (nI v)), (2, .int (nI N))] → W p l e R s m args below meth c H locs 0 0 Q (F0 m 32 ls [])) : ∀ (fu a : Nat) (ms : Nat → Int64), a ≤ N → N - a < fu → ms = viF ms0 v N a → ∀ (H : Heap) (locs : List Loc) (ls : Array Slot), va_P G.1 vwCl [(h0, .inr (0, [.ref h1, .int (nI N)])), (h1, .inl (G.2 1, 169, .inr (.inl ms)))] H → va_D A [(h0, .inr (0, [.ref h1, .int (nI N)])), (h1, .inl (G.2 1, 169, .inr (.inl ms)))] → va_S A H0 H locs → lv_has ls 3 [(0, .ref h0), (1, .int (nI v)), (2, .int (nI a))] → W p l e R s m args below meth c H locs 0 0 Q (F0 m 12 ls []) := by
  obtain ⟨hx, hb, hml, hown, hts, hlocks, hK⟩ := id C
  have hfl_15 := hts (.fieldLink RX0 15 "AfterDesk$Bounds" "nodes" "I") (by decide +kernel)
  have hin_X0 : ∀ w ∈ wsX00, w ∈ wsX0_tighten := by decide +kernel
  intro fu
  induction fu with
  | zero =>
    intro a ms h1 h2
    exact absurd h2 (by omega)
  | succ fu ih =>
    intro a ms hkle hkn e_ms  H locs ls hP hD hS hl
    subst e_ms
    refine lv_iload_n hx hb dX0_tighten_12 rfl (lv_at hl 2 rfl) ?_
    refine lv_aload_n hx hb dX0_tighten_13 rfl (lv_at hl 0 rfl) ?_
    refine va_get (D := G.1) (ci := 0) (v := .int (nI N)) (C := RX0) (T := TX0) (N := 2) hx hb hts hin_X0 hown hK.1 hP 0 rfl rfl 1 (by decide) hfl_15 (fun _ h9 => h9) rfl dX0_tighten_14 ?_
    refine lv_icmp_ge (tgt := 32) hx hb dX0_tighten_17 (by decide) (fun c_1 => ?_) (fun c_1 => ?_)
    · -- yes: nI a ge nI N
      have c_1 : N ≤ a := (nI_leI (a := N) (b := a) (by omega) (by omega)).mp c_1
      have hkN : a = N := by omega
      subst hkN
      exact hk  _ _ _ hP hD hS (lv_sub hl [0, 1, 2] rfl)
    · -- no: nI a lt nI N
      have c_1 : ¬ N ≤ a := fun z => c_1 ((nI_leI (a := N) (b := a) (by omega) (by omega)).mpr z)
      refine lv_aload_n hx hb dX0_tighten_20 rfl (lv_at hl 0 rfl) ?_
      refine lv_iload_n hx hb dX0_tighten_21 rfl (lv_at hl 2 rfl) ?_
      refine lv_iload_n hx hb dX0_tighten_22 rfl (lv_at hl 1 rfl) ?_
      refine xV (S := (Nat → Int64)) (va_runV (As := [.int (nI a), .int (nI v)]) (rest := []) ⟨hx, hb, hml, hown, hts⟩ (c_X0_tightenRow l G h0 h1 (viF ms0 v N a) N a v (by first | omega | assumption) (by first | omega | assumption) (by first | omega | assumption)) (cwV 2 hts gX0_tighten_X0_tightenRow rfl rfl rfl (by decide +kernel) ⟨Nat.le_trans (Nat.le_of_ble_eq_true (m := 1) rfl) hRf, Nat.le_trans (Nat.le_of_ble_eq_true (m := 27) rfl) hRl⟩) (pV [.int (nI a), .int (nI v)] hK (hP.sub (ws' := [(h0, .inr (0, [.ref h1, .int (nI N)])), (h1, .inl (G.2 1, 169, .inr (.inl (viF ms0 v N a))))]) [0, 1] rfl) (hD.sub (ws' := [(h0, .inr (0, [.ref h1, .int (nI N)])), (h1, .inl (G.2 1, 169, .inr (.inl (viF ms0 v N a))))]) [0, 1] (by decide) rfl) (ci := 0) (q0 := 0) rfl rfl) rfl rfl hl.1 rfl (lv_room (Nat.le_of_ble_eq_true rfl)) dX0_tighten_23 ⟨Nat.zero_le _, Nat.zero_le _⟩) hP hD hS [0, 1] [] (wr := []) rfl rfl (by decide) (by decide) [0, 1] (w2 := fun (u_4 : (Nat → Int64)) => [(h0, .inr (0, [.ref h1, .int (nI N)])), (h1, .inl (G.2 1, 169, .inr (.inl u_4)))]) (fun _ => rfl) (by decide) (fun u_4 H locs hw_5 hP hD hS => ?_)
      obtain ⟨gv_2, rfl⟩ : ∃ z, z = u_4 := ⟨_, rfl⟩
      (try dsimp only at hw_5); subst hw_5
      have hP : va_P G.1 vwCl [(h0, .inr (0, [.ref h1, .int (nI N)])), (h1, .inl (G.2 1, 169, .inr (.inl (rwF (viF ms0 v N a) a v N))))] H := hP
      have hD : va_D A [(h0, .inr (0, [.ref h1, .int (nI N)])), (h1, .inl (G.2 1, 169, .inr (.inl (rwF (viF ms0 v N a) a v N))))] := hD
      refine lv_iinc (v := nI (a + 1)) (lv' := [(2, .int (nI (a + 1))), (0, .ref h0), (1, .int (nI v))]) hx hb dX0_tighten_26 hl (k := 2) rfl (nI_inc _) (by decide) rfl (fun ls hl => ?_)
      refine lv_goto (tgt := 12) hx hb dX0_tighten_29 (by decide) ?_
      exact ih (a + 1) (rwF (viF ms0 v N a) a v N) (by omega) (by omega) rfl  _ _ _ hP hD hS (lv_sub hl [1, 2, 0] rfl)

set_option maxHeartbeats 4000000 in
set_option maxRecDepth 100000 in
theorem lp_X0_tighten_2 {p : Program} {l : Launch} {e : Env} {R : Room} {s : State} {m : MethodId} {args : Array Value} {below : List Frame} {meth : Method} {c : Code} {A : Nat → Prop} {H0 : Heap} {Q : State → Prop} {G : gT} (C : CX p s m meth c args cX0_tighten 3 RX0 wsX0_tighten G) (h0 : Nat) (h1 : Nat) (ms0 : Nat → Int64) (N : Nat) (hN : N ≤ 13) (hRf : 1 ≤ R.frames) (hRl : 27 ≤ R.locals) (hk : (tOK ms0 N N) → ∀ (H : Heap) (locs : List Loc) (ls : Array Slot), va_P G.1 vwCl [(h0, .inr (0, [.ref h1, .int (nI N)])), (h1, .inl (G.2 1, 169, .inr (.inl (tiF ms0 N N))))] H → va_D A [(h0, .inr (0, [.ref h1, .int (nI N)])), (h1, .inl (G.2 1, 169, .inr (.inl (tiF ms0 N N))))] → va_S A H0 H locs → lv_has ls 3 [(0, .ref h0), (1, .int (nI N))] → W p l e R s m args below meth c H locs 0 0 Q (F0 m 47 ls [])) (he0 : ∀ (v : Nat) , v < N → (tOK ms0 N v) → (anyNeg (tiF ms0 N (v + 1)) N = true) → ∀ (H : Heap) (locs : List Loc) (ls : Array Slot), va_P G.1 vwCl [(h0, .inr (0, [.ref h1, .int (nI N)])), (h1, .inl (G.2 1, 169, .inr (.inl (tiF ms0 N (v + 1)))))] H → va_D A [(h0, .inr (0, [.ref h1, .int (nI N)])), (h1, .inl (G.2 1, 169, .inr (.inl (tiF ms0 N (v + 1)))))] → va_S A H0 H locs → lv_has ls 3 [(0, .ref h0), (1, .int (nI v))] → W p l e R s m args below meth c H locs 0 0 Q (F0 m 39 ls [])) : ∀ (fu v : Nat) (ms : Nat → Int64), v ≤ N → N - v < fu → ms = tiF ms0 N v → (tOK ms0 N v) → ∀ (H : Heap) (locs : List Loc) (ls : Array Slot), va_P G.1 vwCl [(h0, .inr (0, [.ref h1, .int (nI N)])), (h1, .inl (G.2 1, 169, .inr (.inl ms)))] H → va_D A [(h0, .inr (0, [.ref h1, .int (nI N)])), (h1, .inl (G.2 1, 169, .inr (.inl ms)))] → va_S A H0 H locs → lv_has ls 3 [(0, .ref h0), (1, .int (nI v))] → W p l e R s m args below meth c H locs 0 0 Q (F0 m 2 ls []) := by
  obtain ⟨hx, hb, hml, hown, hts, hlocks, hK⟩ := id C
  have hfl_15 := hts (.fieldLink RX0 15 "AfterDesk$Bounds" "nodes" "I") (by decide +kernel)
  have hin_X0 : ∀ w ∈ wsX00, w ∈ wsX0_tighten := by decide +kernel
  intro fu
  induction fu with
  | zero =>
    intro v ms h1 h2
    exact absurd h2 (by omega)
  | succ fu ih =>
    intro v ms hkle hkn e_ms hok H locs ls hP hD hS hl
    subst e_ms
    refine lv_iload_n hx hb dX0_tighten_2 rfl (lv_at hl 1 rfl) ?_
    refine lv_aload_n hx hb dX0_tighten_3 rfl (lv_at hl 0 rfl) ?_
    refine va_get (D := G.1) (ci := 0) (v := .int (nI N)) (C := RX0) (T := TX0) (N := 2) hx hb hts hin_X0 hown hK.1 hP 0 rfl rfl 1 (by decide) hfl_15 (fun _ h9 => h9) rfl dX0_tighten_4 ?_
    refine lv_icmp_ge (tgt := 47) hx hb dX0_tighten_7 (by decide) (fun c_1 => ?_) (fun c_1 => ?_)
    · -- yes: nI v ge nI N
      have c_1 : N ≤ v := (nI_leI (a := N) (b := v) (by omega) (by omega)).mp c_1
      have hkN : v = N := by omega
      subst hkN
      exact hk hok _ _ _ hP hD hS (lv_sub hl [0, 1] rfl)
    · -- no: nI v lt nI N
      have c_1 : ¬ N ≤ v := fun z => c_1 ((nI_leI (a := N) (b := v) (by omega) (by omega)).mpr z)
      refine lv_iconst (v := 0) hx hb dX0_tighten_10 (by decide) ?_
      refine lv_istore_n (lv' := [(2, .int 0), (0, .ref h0), (1, .int (nI v))]) hx hb dX0_tighten_11 rfl hl (by decide) rfl (fun ls hl => ?_)
      refine lp_X0_tighten_12 C h0 h1 (tiF ms0 N v) N v (by first | omega | assumption) (by first | omega | assumption) (Nat.le_trans (Nat.le_of_ble_eq_true (m := 1) rfl) hRf) (Nat.le_trans (Nat.le_of_ble_eq_true (m := 27) rfl) hRl) (fun  H locs ls hP hD hS hl => ?_) (N + 1) 0 (tiF ms0 N v) (by omega) (by omega) rfl  _ _ _ hP hD hS (lv_sub hl [1, 2, 0] rfl)
      have hP : va_P G.1 vwCl [(h0, .inr (0, [.ref h1, .int (nI N)])), (h1, .inl (G.2 1, 169, .inr (.inl (viF (tiF ms0 N v) v N N))))] H := hP
      have hD : va_D A [(h0, .inr (0, [.ref h1, .int (nI N)])), (h1, .inl (G.2 1, 169, .inr (.inl (viF (tiF ms0 N v) v N N))))] := hD
      refine lv_aload_n hx hb dX0_tighten_32 rfl (lv_at hl 0 rfl) ?_
      refine xI (S := Unit) (va_runV (As := []) (rest := []) ⟨hx, hb, hml, hown, hts⟩ (c_X0_isAnyBelowItself l G h0 h1 (viF (tiF ms0 N v) v N N) N (by first | omega | assumption)) (cwV 0 hts gX0_tighten_X0_isAnyBelowItself rfl rfl rfl (by decide +kernel) ⟨Nat.le_trans (Nat.le_of_ble_eq_true (m := 1) rfl) hRf, Nat.le_trans (Nat.le_of_ble_eq_true (m := 27) rfl) hRl⟩) (pV [] hK (hP.sub (ws' := [(h0, .inr (0, [.ref h1, .int (nI N)])), (h1, .inl (G.2 1, 169, .inr (.inl (viF (tiF ms0 N v) v N N))))]) [0, 1] rfl) (hD.sub (ws' := [(h0, .inr (0, [.ref h1, .int (nI N)])), (h1, .inl (G.2 1, 169, .inr (.inl (viF (tiF ms0 N v) v N N))))]) [0, 1] (by decide) rfl) (ci := 0) (q0 := 0) rfl rfl) rfl rfl hl.1 rfl (lv_room (Nat.le_of_ble_eq_true rfl)) dX0_tighten_33 ⟨Nat.zero_le _, Nat.zero_le _⟩) hP hD hS [0, 1] [] (wr := []) rfl rfl (by decide) (by decide) [0, 1] (w2 := fun (_ : Unit) => [(h0, .inr (0, [.ref h1, .int (nI N)])), (h1, .inl (G.2 1, 169, .inr (.inl (viF (tiF ms0 N v) v N N))))]) (fun _ => rfl) (by decide) (fun r_2 u_3 H locs hw_4 hP hD hS => ?_)
      (try dsimp only at hw_4); subst hw_4
      have hP : va_P G.1 vwCl [(h0, .inr (0, [.ref h1, .int (nI N)])), (h1, .inl (G.2 1, 169, .inr (.inl (viF (tiF ms0 N v) v N N))))] H := hP
      have hD : va_D A [(h0, .inr (0, [.ref h1, .int (nI N)])), (h1, .inl (G.2 1, 169, .inr (.inl (viF (tiF ms0 N v) v N N))))] := hD
      refine lv_if_eq (tgt := 41) hx hb dX0_tighten_36 (by decide) (fun c_5 => ?_) (fun c_5 => ?_)
      · -- yes: bI (decide (anyNeg (viF (tiF ms0 N v) v N N) N = true)) eq 0
        have c_5 : ¬ (anyNeg (viF (tiF ms0 N v) v N N) N = true) := bD0 c_5
        refine lv_iinc (v := nI (v + 1)) (lv' := [(1, .int (nI (v + 1))), (0, .ref h0), (2, .int (nI N))]) hx hb dX0_tighten_41 hl (k := 1) rfl (nI_inc _) (by decide) rfl (fun ls hl => ?_)
        refine lv_goto (tgt := 2) hx hb dX0_tighten_44 (by decide) ?_
        exact ih (v + 1) (viF (tiF ms0 N v) v N N) (by omega) (by omega) rfl (by exact tOK_s hok (by assumption)) _ _ _ hP hD hS (lv_sub hl [1, 0] rfl)
      · -- no: bI (decide (anyNeg (viF (tiF ms0 N v) v N N) N = true)) ne 0
        have c_5 : anyNeg (viF (tiF ms0 N v) v N N) N = true := bD1 c_5
        exact he0 v  (by omega) hok (by assumption) _ _ _ hP hD hS (lv_sub hl [0, 1] rfl)

set_option maxHeartbeats 4000000 in
set_option maxRecDepth 100000 in
theorem c_X0_tighten (l : Launch) (G : gT) (h0 : Nat) (h1 : Nat) (ms : Nat → Int64) (N : Nat) (hN : N ≤ 13) : Met l yX0_tighten wsX0_tighten ({ frames := 1, cells := 0, slots := 0, locals := 27 }) (cPre G [.ref h0] [(h0, .inr (0, [.ref h1, .int (nI N)])), (h1, .inl (G.2 1, 169, .inr (.inl ms)))]) (va_Qi (fun (rv : Int32) (u : (Nat → Int64)) => ((rv = 1 ∧ u = tiF ms N N ∧ tOK ms N N) ∨ (rv = 0 ∧ ∃ v, v < N ∧ tOK ms N v ∧ anyNeg (tiF ms N (v + 1)) N = true))) (cW G [(h0, .inr (0, [.ref h1, .int (nI N)])), (h1, .inl (G.2 1, 169, .inr (.inl ms)))] (fun (u : (Nat → Int64)) => [(h0, .inr (0, [.ref h1, .int (nI N)])), (h1, .inl (G.2 1, 169, .inr (.inl u)))])) (pB [(h0, .inr (0, [.ref h1, .int (nI N)])), (h1, .inl (G.2 1, 169, .inr (.inl ms)))])) 0 0 (pB [(h0, .inr (0, [.ref h1, .int (nI N)])), (h1, .inl (G.2 1, 169, .inr (.inl ms)))]) := by
  refine ofCX (G := G) (cc := cX0_tighten) (maxL := 3) (ret := (some .boolean)) (by decide) rfl (Nat.le_of_ble_eq_true rfl) ?_
  intro p e s m below meth c ls C hr hin hD hP hl
  obtain ⟨hx, hb, hml, hown, hts, hlocks, hK⟩ := id C
  have hown : s.vm.findClass RX0 = some m.cls := hown
  generalize hAe : pB [(h0, .inr (0, [.ref h1, .int (nI N)])), (h1, .inl (G.2 1, 169, .inr (.inl ms)))] = A at hD ⊢
  have hS : va_S A s.heap s.heap [] := va_S.rf
  have hP : va_P G.1 vwCl [(h0, .inr (0, [.ref h1, .int (nI N)])), (h1, .inl (G.2 1, 169, .inr (.inl ms)))] s.heap := hP
  have hD : va_D A [(h0, .inr (0, [.ref h1, .int (nI N)])), (h1, .inl (G.2 1, 169, .inr (.inl ms)))] := hD
  have hl : lv_has ls 3 [(0, .ref h0)] := hl
  refine lv_iconst (v := 0) hx hb dX0_tighten_0 (by decide) ?_
  refine lv_istore_n (lv' := [(1, .int 0), (0, .ref h0)]) hx hb dX0_tighten_1 rfl hl (by decide) rfl (fun ls hl => ?_)
  refine lp_X0_tighten_2 C h0 h1 ms N (by first | omega | assumption) (Nat.le_of_ble_eq_true rfl) (Nat.le_of_ble_eq_true rfl) (fun hok H locs ls hP hD hS hl => ?_) (fun vq  hlt hok hneg H locs ls hP hD hS hl => ?_) (N + 1) 0 ms (by omega) (by omega) rfl (by exact tOK_0 _ _) _ _ _ hP hD hS (lv_sub hl [1, 0] rfl)
  · -- loop lp_X0_tighten_2, end 0
    have hP : va_P G.1 vwCl [(h0, .inr (0, [.ref h1, .int (nI N)])), (h1, .inl (G.2 1, 169, .inr (.inl (tiF ms N N))))] H := hP
    have hD : va_D A [(h0, .inr (0, [.ref h1, .int (nI N)])), (h1, .inl (G.2 1, 169, .inr (.inl (tiF ms N N))))] := hD
    refine lv_iconst (v := 1) hx hb dX0_tighten_47 (by decide) ?_
    exact rtZ C hr rfl hAe (u := (tiF ms N N)) hP hD hS dX0_tighten_48 (Or.inl ⟨rfl, rfl, hok⟩)
  · -- loop lp_X0_tighten_2, end 1
    have hP : va_P G.1 vwCl [(h0, .inr (0, [.ref h1, .int (nI N)])), (h1, .inl (G.2 1, 169, .inr (.inl (tiF ms N (vq + 1)))))] H := hP
    have hD : va_D A [(h0, .inr (0, [.ref h1, .int (nI N)])), (h1, .inl (G.2 1, 169, .inr (.inl (tiF ms N (vq + 1)))))] := hD
    refine lv_iconst (v := 0) hx hb dX0_tighten_39 (by decide) ?_
    exact rtZ C hr rfl hAe (u := (tiF ms N (vq + 1))) hP hD hS dX0_tighten_40 (Or.inr ⟨rfl, vq, hlt, hok, hneg⟩)
