set_option maxHeartbeats 4000000 in
set_option maxRecDepth 100000 in
theorem c_J6_bitCount_0f7a4 (l : Launch) (G : gT) (v : Int32) : Met l yJ6_bitCount_0f7a4 wsJ6_bitCount_0f7a4 ({ frames := 0, cells := 0, slots := 0, locals := 0 }) (cPre G [.int v] []) (va_Qi (fun (rv : Int32) (_u : Unit) => rv = popc v) (cW G [] (fun (_u : Unit) => [])) (pB [])) 0 0 (pB []) := by
  refine ofCX (G := G) (cc := cJ6_bitCount_0f7a4) (maxL := 1) (ret := (some .int)) (by decide) rfl (Nat.le_of_ble_eq_true rfl) ?_
  intro p e s m below meth c ls C hr hin hD hP hl
  obtain ⟨hx, hb, hml, hown, hts, hlocks, hK⟩ := id C
  have hown : s.vm.findClass RJ6 = some m.cls := hown
  have hcn_265 := hts (.constant RJ6 265 (1431655765)) (by decide +kernel)
  have hcn_266 := hts (.constant RJ6 266 (858993459)) (by decide +kernel)
  have hcn_267 := hts (.constant RJ6 267 (252645135)) (by decide +kernel)
  generalize hAe : pB [] = A at hD ⊢
  have hS : va_S A s.heap s.heap [] := va_S.rf
  have hP : va_P G.1 vwCl [] s.heap := hP
  have hD : va_D A [] := hD
  have hl : lv_has ls 1 [(0, .int v)] := hl
  refine lv_iload_n hx hb dJ6_bitCount_0f7a4_0 rfl (lv_at hl 0 rfl) ?_
  refine lv_iload_n hx hb dJ6_bitCount_0f7a4_1 rfl (lv_at hl 0 rfl) ?_
  refine lv_iconst (v := 1) hx hb dJ6_bitCount_0f7a4_2 (by decide) ?_
  refine lv_iushr (v := (v.toUInt32 >>> ((1 : Int32).toUInt32 &&& Int32.toUInt32 31)).toInt32) hx hb dJ6_bitCount_0f7a4_3 rfl ?_
  refine lv_ldcw hx hb hown hcn_265 dJ6_bitCount_0f7a4_4 ?_
  refine lv_iand hx hb dJ6_bitCount_0f7a4_7 ?_
  refine lv_isub hx hb dJ6_bitCount_0f7a4_8 ?_
  refine lv_topi (fun y1 ey1 => ?_)
  refine lv_istore_n (lv' := [(0, .int y1)]) hx hb dJ6_bitCount_0f7a4_9 rfl hl (by decide) rfl (fun ls hl => ?_)
  refine lv_iload_n hx hb dJ6_bitCount_0f7a4_10 rfl (lv_at hl 0 rfl) ?_
  refine lv_ldcw hx hb hown hcn_266 dJ6_bitCount_0f7a4_11 ?_
  refine lv_iand hx hb dJ6_bitCount_0f7a4_14 ?_
  refine lv_iload_n hx hb dJ6_bitCount_0f7a4_15 rfl (lv_at hl 0 rfl) ?_
  refine lv_iconst (v := 2) hx hb dJ6_bitCount_0f7a4_16 (by decide) ?_
  refine lv_iushr (v := (y1.toUInt32 >>> ((2 : Int32).toUInt32 &&& Int32.toUInt32 31)).toInt32) hx hb dJ6_bitCount_0f7a4_17 rfl ?_
  refine lv_ldcw hx hb hown hcn_266 dJ6_bitCount_0f7a4_18 ?_
  refine lv_iand hx hb dJ6_bitCount_0f7a4_21 ?_
  refine lv_iadd hx hb dJ6_bitCount_0f7a4_22 ?_
  refine lv_topi (fun y2 ey2 => ?_)
  refine lv_istore_n (lv' := [(0, .int y2)]) hx hb dJ6_bitCount_0f7a4_23 rfl hl (by decide) rfl (fun ls hl => ?_)
  refine lv_iload_n hx hb dJ6_bitCount_0f7a4_24 rfl (lv_at hl 0 rfl) ?_
  refine lv_iload_n hx hb dJ6_bitCount_0f7a4_25 rfl (lv_at hl 0 rfl) ?_
  refine lv_iconst (v := 4) hx hb dJ6_bitCount_0f7a4_26 (by decide) ?_
  refine lv_iushr (v := (y2.toUInt32 >>> ((4 : Int32).toUInt32 &&& Int32.toUInt32 31)).toInt32) hx hb dJ6_bitCount_0f7a4_27 rfl ?_
  refine lv_iadd hx hb dJ6_bitCount_0f7a4_28 ?_
  refine lv_ldcw hx hb hown hcn_267 dJ6_bitCount_0f7a4_29 ?_
  refine lv_iand hx hb dJ6_bitCount_0f7a4_32 ?_
  refine lv_topi (fun y3 ey3 => ?_)
  refine lv_istore_n (lv' := [(0, .int y3)]) hx hb dJ6_bitCount_0f7a4_33 rfl hl (by decide) rfl (fun ls hl => ?_)
  refine lv_iload_n hx hb dJ6_bitCount_0f7a4_34 rfl (lv_at hl 0 rfl) ?_
  refine lv_iload_n hx hb dJ6_bitCount_0f7a4_35 rfl (lv_at hl 0 rfl) ?_
  refine lv_bipush (v := 8) hx hb dJ6_bitCount_0f7a4_36 (by decide) ?_
  refine lv_iushr (v := (y3.toUInt32 >>> ((8 : Int32).toUInt32 &&& Int32.toUInt32 31)).toInt32) hx hb dJ6_bitCount_0f7a4_38 rfl ?_
  refine lv_iadd hx hb dJ6_bitCount_0f7a4_39 ?_
  refine lv_topi (fun y4 ey4 => ?_)
  refine lv_istore_n (lv' := [(0, .int y4)]) hx hb dJ6_bitCount_0f7a4_40 rfl hl (by decide) rfl (fun ls hl => ?_)
  refine lv_iload_n hx hb dJ6_bitCount_0f7a4_41 rfl (lv_at hl 0 rfl) ?_
  refine lv_iload_n hx hb dJ6_bitCount_0f7a4_42 rfl (lv_at hl 0 rfl) ?_
  refine lv_bipush (v := 16) hx hb dJ6_bitCount_0f7a4_43 (by decide) ?_
  refine lv_iushr (v := (y4.toUInt32 >>> ((16 : Int32).toUInt32 &&& Int32.toUInt32 31)).toInt32) hx hb dJ6_bitCount_0f7a4_45 rfl ?_
  refine lv_iadd hx hb dJ6_bitCount_0f7a4_46 ?_
  refine lv_topi (fun y5 ey5 => ?_)
  refine lv_istore_n (lv' := [(0, .int y5)]) hx hb dJ6_bitCount_0f7a4_47 rfl hl (by decide) rfl (fun ls hl => ?_)
  refine lv_iload_n hx hb dJ6_bitCount_0f7a4_48 rfl (lv_at hl 0 rfl) ?_
  refine lv_bipush (v := 63) hx hb dJ6_bitCount_0f7a4_49 (by decide) ?_
  refine lv_iand hx hb dJ6_bitCount_0f7a4_51 ?_
  exact rtI C hr hAe (u := ()) hP hD hS dJ6_bitCount_0f7a4_52 (by rw [ey5, ey4, ey3, ey2, ey1]; rfl)

set_option maxHeartbeats 4000000 in
set_option maxRecDepth 100000 in
theorem lp_J7_fill_53178_5 {p : Program} {l : Launch} {e : Env} {R : Room} {s : State} {m : MethodId} {args : Array Value} {below : List Frame} {meth : Method} {c : Code} {A : Nat → Prop} {H0 : Heap} {Q : State → Prop} {G : gT} (C : CX p s m meth c args cJ7_fill_53178 4 RJ7 wsJ7_fill_53178 G) (h0 : Nat) (N : Nat) (f0 : Nat → Int32) (v : Int32) (hN : N < 2 ^ 31) (hk : ∀ (H : Heap) (locs : List Loc) (ls : Array Slot), va_P G.1 vwCl [(h0, .inl (G.2 0, N, .inl (fillF v f0 N)))] H → va_D A [(h0, .inl (G.2 0, N, .inl (fillF v f0 N)))] → va_S A H0 H locs → lv_has ls 4 [(0, .ref h0), (1, .int v), (2, .int (nI N)), (3, .int (nI N))] → W p l e R s m args below meth c H locs 0 0 Q (F0 m 20 ls [])) : ∀ (fu k : Nat) (f : Nat → Int32), k ≤ N → N - k < fu → f = fillF v f0 k → ∀ (H : Heap) (locs : List Loc) (ls : Array Slot), va_P G.1 vwCl [(h0, .inl (G.2 0, N, .inl f))] H → va_D A [(h0, .inl (G.2 0, N, .inl f))] → va_S A H0 H locs → lv_has ls 4 [(0, .ref h0), (1, .int v), (2, .int (nI k)), (3, .int (nI N))] → W p l e R s m args below meth c H locs 0 0 Q (F0 m 5 ls []) := by
  obtain ⟨hx, hb, hml, hown, hts, hlocks, hK⟩ := id C
  intro fu
  induction fu with
  | zero =>
    intro k f h1 h2
    exact absurd h2 (by omega)
  | succ fu ih =>
    intro k f hkle hkn e_f  H locs ls hP hD hS hl
    subst e_f
    refine lv_iload_n hx hb dJ7_fill_53178_5 rfl (lv_at hl 2 rfl) ?_
    refine lv_iload_n hx hb dJ7_fill_53178_6 rfl (lv_at hl 3 rfl) ?_
    refine lv_icmp_ge (tgt := 20) hx hb dJ7_fill_53178_7 (by decide) (fun c_1 => ?_) (fun c_1 => ?_)
    · -- yes: nI k ge nI N
      have c_1 : N ≤ k := (nI_leI (a := N) (b := k) (by omega) (by omega)).mp c_1
      have hkN : k = N := by omega
      subst hkN
      exact hk  _ _ _ hP hD hS (lv_sub hl [0, 1, 2, 3] rfl)
    · -- no: nI k lt nI N
      have c_1 : ¬ N ≤ k := fun z => c_1 ((nI_leI (a := N) (b := k) (by omega) (by omega)).mpr z)
      refine lv_aload_n hx hb dJ7_fill_53178_10 rfl (lv_at hl 0 rfl) ?_
      refine lv_iload_n hx hb dJ7_fill_53178_11 rfl (lv_at hl 2 rfl) ?_
      refine lv_iload_n hx hb dJ7_fill_53178_12 rfl (lv_at hl 1 rfl) ?_
      refine aIst hx hb hK.1 hP hD hS 0 0 rfl rfl (k := k) rfl (by omega) (by omega) dJ7_fill_53178_13 (fun H locs hP hD hS => ?_)
      have hP : va_P G.1 vwCl [(h0, .inl (G.2 0, N, .inl (upd (fillF v f0 k) k v)))] H := hP
      have hD : va_D A [(h0, .inl (G.2 0, N, .inl (upd (fillF v f0 k) k v)))] := hD
      refine lv_iinc (v := nI (k + 1)) (lv' := [(2, .int (nI (k + 1))), (0, .ref h0), (1, .int v), (3, .int (nI N))]) hx hb dJ7_fill_53178_14 hl (k := 2) rfl (nI_inc _) (by decide) rfl (fun ls hl => ?_)
      refine lv_goto (tgt := 5) hx hb dJ7_fill_53178_17 (by decide) ?_
      exact ih (k + 1) (upd (fillF v f0 k) k v) (by omega) (by omega) (by exact fillI_s _ _ _)  _ _ _ hP hD hS (lv_sub hl [1, 2, 0, 3] rfl)

set_option maxHeartbeats 4000000 in
set_option maxRecDepth 100000 in
theorem c_J7_fill_53178 (l : Launch) (G : gT) (h0 : Nat) (N : Nat) (f : Nat → Int32) (v : Int32) (hN : N < 2 ^ 31) : Met l yJ7_fill_53178 wsJ7_fill_53178 ({ frames := 0, cells := 0, slots := 0, locals := 0 }) (cPre G [.ref h0, .int v] [(h0, .inl (G.2 0, N, .inl f))]) (va_Qv (fun (u : (Nat → Int32)) => u = fillF v f N) (cW G [(h0, .inl (G.2 0, N, .inl f))] (fun (u : (Nat → Int32)) => [(h0, .inl (G.2 0, N, .inl u))])) (pB [(h0, .inl (G.2 0, N, .inl f))])) 0 0 (pB [(h0, .inl (G.2 0, N, .inl f))]) := by
  refine ofCX (G := G) (cc := cJ7_fill_53178) (maxL := 4) (ret := none) (by decide) rfl (Nat.le_of_ble_eq_true rfl) ?_
  intro p e s m below meth c ls C hr hin hD hP hl
  obtain ⟨hx, hb, hml, hown, hts, hlocks, hK⟩ := id C
  have hown : s.vm.findClass RJ7 = some m.cls := hown
  generalize hAe : pB [(h0, .inl (G.2 0, N, .inl f))] = A at hD ⊢
  have hS : va_S A s.heap s.heap [] := va_S.rf
  have hP : va_P G.1 vwCl [(h0, .inl (G.2 0, N, .inl f))] s.heap := hP
  have hD : va_D A [(h0, .inl (G.2 0, N, .inl f))] := hD
  have hl : lv_has ls 4 [(0, .ref h0), (1, .int v)] := hl
  refine lv_iconst (v := 0) hx hb dJ7_fill_53178_0 (by decide) ?_
  refine lv_istore_n (lv' := [(2, .int 0), (0, .ref h0), (1, .int v)]) hx hb dJ7_fill_53178_1 rfl hl (by decide) rfl (fun ls hl => ?_)
  refine lv_aload_n hx hb dJ7_fill_53178_2 rfl (lv_at hl 1 rfl) ?_
  refine va_alen (v := nI N) hx hb hK.1 hP 0 0 rfl rfl rfl dJ7_fill_53178_3 ?_
  refine lv_istore_n (lv' := [(3, .int (nI N)), (2, .int 0), (0, .ref h0), (1, .int v)]) hx hb dJ7_fill_53178_4 rfl hl (by decide) rfl (fun ls hl => ?_)
  refine lp_J7_fill_53178_5 C h0 N f v (by first | omega | assumption) (fun  H locs ls hP hD hS hl => ?_) (N + 1) 0 f (by omega) (by omega) (by exact (fillF_0 _ _).symm)  _ _ _ hP hD hS (lv_sub hl [2, 3, 1, 0] rfl)
  have hP : va_P G.1 vwCl [(h0, .inl (G.2 0, N, .inl (fillF v f N)))] H := hP
  have hD : va_D A [(h0, .inl (G.2 0, N, .inl (fillF v f N)))] := hD
  exact rtV C hr hAe (u := (fillF v f N)) hP hD hS dJ7_fill_53178_20 rfl

set_option maxHeartbeats 4000000 in
set_option maxRecDepth 100000 in
theorem lp_J7_fill_d0a16_6 {p : Program} {l : Launch} {e : Env} {R : Room} {s : State} {m : MethodId} {args : Array Value} {below : List Frame} {meth : Method} {c : Code} {A : Nat → Prop} {H0 : Heap} {Q : State → Prop} {G : gT} (C : CX p s m meth c args cJ7_fill_d0a16 5 RJ7 wsJ7_fill_d0a16 G) (h0 : Nat) (N : Nat) (f0 : Nat → Int64) (v : Int64) (hN : N < 2 ^ 31) (hk : ∀ (H : Heap) (locs : List Loc) (ls : Array Slot), va_P G.1 vwCl [(h0, .inl (G.2 1, N, .inr (.inl (fillF v f0 N))))] H → va_D A [(h0, .inl (G.2 1, N, .inr (.inl (fillF v f0 N))))] → va_S A H0 H locs → lv_has ls 5 [(0, .ref h0), (1, .long v), (3, .int (nI N)), (4, .int (nI N))] → W p l e R s m args below meth c H locs 0 0 Q (F0 m 22 ls [])) : ∀ (fu k : Nat) (f : Nat → Int64), k ≤ N → N - k < fu → f = fillF v f0 k → ∀ (H : Heap) (locs : List Loc) (ls : Array Slot), va_P G.1 vwCl [(h0, .inl (G.2 1, N, .inr (.inl f)))] H → va_D A [(h0, .inl (G.2 1, N, .inr (.inl f)))] → va_S A H0 H locs → lv_has ls 5 [(0, .ref h0), (1, .long v), (3, .int (nI k)), (4, .int (nI N))] → W p l e R s m args below meth c H locs 0 0 Q (F0 m 6 ls []) := by
  obtain ⟨hx, hb, hml, hown, hts, hlocks, hK⟩ := id C
  intro fu
  induction fu with
  | zero =>
    intro k f h1 h2
    exact absurd h2 (by omega)
  | succ fu ih =>
    intro k f hkle hkn e_f  H locs ls hP hD hS hl
    subst e_f
    refine lv_iload_n hx hb dJ7_fill_d0a16_6 rfl (lv_at hl 2 rfl) ?_
    refine lv_iload hx hb dJ7_fill_d0a16_7 (lv_at hl 3 rfl) ?_
    refine lv_icmp_ge (tgt := 22) hx hb dJ7_fill_d0a16_9 (by decide) (fun c_1 => ?_) (fun c_1 => ?_)
    · -- yes: nI k ge nI N
      have c_1 : N ≤ k := (nI_leI (a := N) (b := k) (by omega) (by omega)).mp c_1
      have hkN : k = N := by omega
      subst hkN
      exact hk  _ _ _ hP hD hS (lv_sub hl [0, 1, 2, 3] rfl)
    · -- no: nI k lt nI N
      have c_1 : ¬ N ≤ k := fun z => c_1 ((nI_leI (a := N) (b := k) (by omega) (by omega)).mpr z)
      refine lv_aload_n hx hb dJ7_fill_d0a16_12 rfl (lv_at hl 0 rfl) ?_
      refine lv_iload_n hx hb dJ7_fill_d0a16_13 rfl (lv_at hl 2 rfl) ?_
      refine lv_lload_n hx hb dJ7_fill_d0a16_14 rfl (lv_at hl 1 rfl) ?_
      refine aJst hx hb hK.1 hP hD hS 0 1 rfl rfl (k := k) rfl (by omega) (by omega) dJ7_fill_d0a16_15 (fun H locs hP hD hS => ?_)
      have hP : va_P G.1 vwCl [(h0, .inl (G.2 1, N, .inr (.inl (vp_updL (fillF v f0 k) k v))))] H := hP
      have hD : va_D A [(h0, .inl (G.2 1, N, .inr (.inl (vp_updL (fillF v f0 k) k v))))] := hD
      refine lv_iinc (v := nI (k + 1)) (lv' := [(3, .int (nI (k + 1))), (0, .ref h0), (1, .long v), (4, .int (nI N))]) hx hb dJ7_fill_d0a16_16 hl (k := 2) rfl (nI_inc _) (by decide) rfl (fun ls hl => ?_)
      refine lv_goto (tgt := 6) hx hb dJ7_fill_d0a16_19 (by decide) ?_
      exact ih (k + 1) (vp_updL (fillF v f0 k) k v) (by omega) (by omega) (by exact fillL_s _ _ _)  _ _ _ hP hD hS (lv_sub hl [1, 2, 0, 3] rfl)

set_option maxHeartbeats 4000000 in
set_option maxRecDepth 100000 in
theorem c_J7_fill_d0a16 (l : Launch) (G : gT) (h0 : Nat) (N : Nat) (f : Nat → Int64) (v : Int64) (hN : N < 2 ^ 31) : Met l yJ7_fill_d0a16 wsJ7_fill_d0a16 ({ frames := 0, cells := 0, slots := 0, locals := 0 }) (cPre G [.ref h0, .long v] [(h0, .inl (G.2 1, N, .inr (.inl f)))]) (va_Qv (fun (u : (Nat → Int64)) => u = fillF v f N) (cW G [(h0, .inl (G.2 1, N, .inr (.inl f)))] (fun (u : (Nat → Int64)) => [(h0, .inl (G.2 1, N, .inr (.inl u)))])) (pB [(h0, .inl (G.2 1, N, .inr (.inl f)))])) 0 0 (pB [(h0, .inl (G.2 1, N, .inr (.inl f)))]) := by
  refine ofCX (G := G) (cc := cJ7_fill_d0a16) (maxL := 5) (ret := none) (by decide) rfl (Nat.le_of_ble_eq_true rfl) ?_
  intro p e s m below meth c ls C hr hin hD hP hl
  obtain ⟨hx, hb, hml, hown, hts, hlocks, hK⟩ := id C
  have hown : s.vm.findClass RJ7 = some m.cls := hown
  generalize hAe : pB [(h0, .inl (G.2 1, N, .inr (.inl f)))] = A at hD ⊢
  have hS : va_S A s.heap s.heap [] := va_S.rf
  have hP : va_P G.1 vwCl [(h0, .inl (G.2 1, N, .inr (.inl f)))] s.heap := hP
  have hD : va_D A [(h0, .inl (G.2 1, N, .inr (.inl f)))] := hD
  have hl : lv_has ls 5 [(0, .ref h0), (1, .long v)] := hl
  refine lv_iconst (v := 0) hx hb dJ7_fill_d0a16_0 (by decide) ?_
  refine lv_istore_n (lv' := [(3, .int 0), (0, .ref h0), (1, .long v)]) hx hb dJ7_fill_d0a16_1 rfl hl (by decide) rfl (fun ls hl => ?_)
  refine lv_aload_n hx hb dJ7_fill_d0a16_2 rfl (lv_at hl 1 rfl) ?_
  refine va_alen (v := nI N) hx hb hK.1 hP 0 1 rfl rfl rfl dJ7_fill_d0a16_3 ?_
  refine lv_istore (lv' := [(4, .int (nI N)), (3, .int 0), (0, .ref h0), (1, .long v)]) hx hb dJ7_fill_d0a16_4 hl (by decide) rfl (fun ls hl => ?_)
  refine lp_J7_fill_d0a16_6 C h0 N f v (by first | omega | assumption) (fun  H locs ls hP hD hS hl => ?_) (N + 1) 0 f (by omega) (by omega) (by exact (fillF_0 _ _).symm)  _ _ _ hP hD hS (lv_sub hl [2, 3, 1, 0] rfl)
  have hP : va_P G.1 vwCl [(h0, .inl (G.2 1, N, .inr (.inl (fillF v f N))))] H := hP
  have hD : va_D A [(h0, .inl (G.2 1, N, .inr (.inl (fillF v f N))))] := hD
  exact rtV C hr hAe (u := (fillF v f N)) hP hD hS dJ7_fill_d0a16_22 rfl

set_option maxHeartbeats 4000000 in
set_option maxRecDepth 100000 in
theorem c_X5_size (l : Launch) (G : gT) (h0 : Nat) (h1 : Nat) (h2 : Nat) (h3 : Nat) (ta : Nat → Int32) (tb : Nat → Int32) (td : Nat → Int32) (n : Nat) : Met l yX5_size wsX5_size ({ frames := 0, cells := 0, slots := 0, locals := 0 }) (cPre G [.ref h0] [(h0, .inr (5, [.ref h1, .ref h2, .ref h3, .int (nI n)])), (h1, .inl (G.2 0, 24, .inl ta)), (h2, .inl (G.2 0, 24, .inl tb)), (h3, .inl (G.2 0, 24, .inl td))]) (va_Qi (fun (rv : Int32) (_u : Unit) => rv = nI n) (cW G [(h0, .inr (5, [.ref h1, .ref h2, .ref h3, .int (nI n)])), (h1, .inl (G.2 0, 24, .inl ta)), (h2, .inl (G.2 0, 24, .inl tb)), (h3, .inl (G.2 0, 24, .inl td))] (fun (_u : Unit) => [(h0, .inr (5, [.ref h1, .ref h2, .ref h3, .int (nI n)])), (h1, .inl (G.2 0, 24, .inl ta)), (h2, .inl (G.2 0, 24, .inl tb)), (h3, .inl (G.2 0, 24, .inl td))])) (pB [(h0, .inr (5, [.ref h1, .ref h2, .ref h3, .int (nI n)])), (h1, .inl (G.2 0, 24, .inl ta)), (h2, .inl (G.2 0, 24, .inl tb)), (h3, .inl (G.2 0, 24, .inl td))])) 0 0 (pB [(h0, .inr (5, [.ref h1, .ref h2, .ref h3, .int (nI n)])), (h1, .inl (G.2 0, 24, .inl ta)), (h2, .inl (G.2 0, 24, .inl tb)), (h3, .inl (G.2 0, 24, .inl td))]) := by
  refine ofCX (G := G) (cc := cX5_size) (maxL := 1) (ret := (some .int)) (by decide) rfl (Nat.le_of_ble_eq_true rfl) ?_
  intro p e s m below meth c ls C hr hin hD hP hl
  obtain ⟨hx, hb, hml, hown, hts, hlocks, hK⟩ := id C
  have hown : s.vm.findClass RX5 = some m.cls := hown
  have hfl_21 := hts (.fieldLink RX5 21 "AfterDesk$Ties" "size" "I") (by decide +kernel)
  have hin_X5 : ∀ w ∈ wsX50, w ∈ wsX5_size := by decide +kernel
  generalize hAe : pB [(h0, .inr (5, [.ref h1, .ref h2, .ref h3, .int (nI n)])), (h1, .inl (G.2 0, 24, .inl ta)), (h2, .inl (G.2 0, 24, .inl tb)), (h3, .inl (G.2 0, 24, .inl td))] = A at hD ⊢
  have hS : va_S A s.heap s.heap [] := va_S.rf
  have hP : va_P G.1 vwCl [(h0, .inr (5, [.ref h1, .ref h2, .ref h3, .int (nI n)])), (h1, .inl (G.2 0, 24, .inl ta)), (h2, .inl (G.2 0, 24, .inl tb)), (h3, .inl (G.2 0, 24, .inl td))] s.heap := hP
  have hD : va_D A [(h0, .inr (5, [.ref h1, .ref h2, .ref h3, .int (nI n)])), (h1, .inl (G.2 0, 24, .inl ta)), (h2, .inl (G.2 0, 24, .inl tb)), (h3, .inl (G.2 0, 24, .inl td))] := hD
  have hl : lv_has ls 1 [(0, .ref h0)] := hl
  refine lv_aload_n hx hb dX5_size_0 rfl (lv_at hl 0 rfl) ?_
  refine va_get (D := G.1) (ci := 5) (v := .int (nI n)) (C := RX5) (T := TX5) (N := 4) hx hb hts hin_X5 hown hK.1 hP 0 rfl rfl 3 (by decide) hfl_21 (fun _ h9 => h9) rfl dX5_size_1 ?_
  exact rtI C hr hAe (u := ()) hP hD hS dX5_size_4 rfl

set_option maxHeartbeats 4000000 in
set_option maxRecDepth 100000 in
theorem c_X5_isFull (l : Launch) (G : gT) (h0 : Nat) (h1 : Nat) (h2 : Nat) (h3 : Nat) (ta : Nat → Int32) (tb : Nat → Int32) (td : Nat → Int32) (n : Nat) (hn : n ≤ 24) : Met l yX5_isFull wsX5_isFull ({ frames := 0, cells := 0, slots := 0, locals := 0 }) (cPre G [.ref h0] [(h0, .inr (5, [.ref h1, .ref h2, .ref h3, .int (nI n)])), (h1, .inl (G.2 0, 24, .inl ta)), (h2, .inl (G.2 0, 24, .inl tb)), (h3, .inl (G.2 0, 24, .inl td))]) (va_Qi (fun (rv : Int32) (_u : Unit) => rv = bI (decide (24 ≤ n))) (cW G [(h0, .inr (5, [.ref h1, .ref h2, .ref h3, .int (nI n)])), (h1, .inl (G.2 0, 24, .inl ta)), (h2, .inl (G.2 0, 24, .inl tb)), (h3, .inl (G.2 0, 24, .inl td))] (fun (_u : Unit) => [(h0, .inr (5, [.ref h1, .ref h2, .ref h3, .int (nI n)])), (h1, .inl (G.2 0, 24, .inl ta)), (h2, .inl (G.2 0, 24, .inl tb)), (h3, .inl (G.2 0, 24, .inl td))])) (pB [(h0, .inr (5, [.ref h1, .ref h2, .ref h3, .int (nI n)])), (h1, .inl (G.2 0, 24, .inl ta)), (h2, .inl (G.2 0, 24, .inl tb)), (h3, .inl (G.2 0, 24, .inl td))])) 0 0 (pB [(h0, .inr (5, [.ref h1, .ref h2, .ref h3, .int (nI n)])), (h1, .inl (G.2 0, 24, .inl ta)), (h2, .inl (G.2 0, 24, .inl tb)), (h3, .inl (G.2 0, 24, .inl td))]) := by
  refine ofCX (G := G) (cc := cX5_isFull) (maxL := 1) (ret := (some .boolean)) (by decide) rfl (Nat.le_of_ble_eq_true rfl) ?_
  intro p e s m below meth c ls C hr hin hD hP hl
  obtain ⟨hx, hb, hml, hown, hts, hlocks, hK⟩ := id C
  have hown : s.vm.findClass RX5 = some m.cls := hown
  have hfl_21 := hts (.fieldLink RX5 21 "AfterDesk$Ties" "size" "I") (by decide +kernel)
  have hin_X5 : ∀ w ∈ wsX50, w ∈ wsX5_isFull := by decide +kernel
  generalize hAe : pB [(h0, .inr (5, [.ref h1, .ref h2, .ref h3, .int (nI n)])), (h1, .inl (G.2 0, 24, .inl ta)), (h2, .inl (G.2 0, 24, .inl tb)), (h3, .inl (G.2 0, 24, .inl td))] = A at hD ⊢
  have hS : va_S A s.heap s.heap [] := va_S.rf
  have hP : va_P G.1 vwCl [(h0, .inr (5, [.ref h1, .ref h2, .ref h3, .int (nI n)])), (h1, .inl (G.2 0, 24, .inl ta)), (h2, .inl (G.2 0, 24, .inl tb)), (h3, .inl (G.2 0, 24, .inl td))] s.heap := hP
  have hD : va_D A [(h0, .inr (5, [.ref h1, .ref h2, .ref h3, .int (nI n)])), (h1, .inl (G.2 0, 24, .inl ta)), (h2, .inl (G.2 0, 24, .inl tb)), (h3, .inl (G.2 0, 24, .inl td))] := hD
  have hl : lv_has ls 1 [(0, .ref h0)] := hl
  refine lv_aload_n hx hb dX5_isFull_0 rfl (lv_at hl 0 rfl) ?_
  refine va_get (D := G.1) (ci := 5) (v := .int (nI n)) (C := RX5) (T := TX5) (N := 4) hx hb hts hin_X5 hown hK.1 hP 0 rfl rfl 3 (by decide) hfl_21 (fun _ h9 => h9) rfl dX5_isFull_1 ?_
  refine lv_bipush (v := 24) hx hb dX5_isFull_4 (by decide) ?_
  refine lv_icmp_lt (tgt := 13) hx hb dX5_isFull_6 (by decide) (fun c_1 => ?_) (fun c_1 => ?_)
  · -- yes: nI n lt 24
    have c_1 : n < 24 := (nI_ltI (a := n) (b := 24) (by omega) (by omega)).mp c_1
    refine lv_iconst (v := 0) hx hb dX5_isFull_13 (by decide) ?_
    exact rtZ C hr rfl hAe (u := ()) hP hD hS dX5_isFull_14 (bI_f (by omega))
  · -- no: nI n ge 24
    have c_1 : ¬ n < 24 := fun z => c_1 ((nI_ltI (a := n) (b := 24) (by omega) (by omega)).mpr z)
    refine lv_iconst (v := 1) hx hb dX5_isFull_9 (by decide) ?_
    refine lv_goto (tgt := 14) hx hb dX5_isFull_10 (by decide) ?_
    exact rtZ C hr rfl hAe (u := ()) hP hD hS dX5_isFull_14 (bI_t (by omega))

set_option maxHeartbeats 4000000 in
set_option maxRecDepth 100000 in
theorem c_X5_append (l : Launch) (G : gT) (h0 : Nat) (h1 : Nat) (h2 : Nat) (h3 : Nat) (ta : Nat → Int32) (tb : Nat → Int32) (td : Nat → Int32) (n : Nat) (a : Int32) (b : Int32) (d : Int32) (hn : n < 24) : Met l yX5_append wsX5_append ({ frames := 1, cells := 0, slots := 0, locals := 20 }) (cPre G [.ref h0, .int a, .int b, .int d] [(h0, .inr (5, [.ref h1, .ref h2, .ref h3, .int (nI n)])), (h1, .inl (G.2 0, 24, .inl ta)), (h2, .inl (G.2 0, 24, .inl tb)), (h3, .inl (G.2 0, 24, .inl td))]) (va_Qi (fun (rv : Int32) (u : (Nat → Int32) × (Nat → Int32) × (Nat → Int32)) => rv = nI (n + 1) ∧ u.1 = upd ta n a ∧ u.2.1 = upd tb n b ∧ u.2.2 = upd td n d) (cW G [(h0, .inr (5, [.ref h1, .ref h2, .ref h3, .int (nI n)])), (h1, .inl (G.2 0, 24, .inl ta)), (h2, .inl (G.2 0, 24, .inl tb)), (h3, .inl (G.2 0, 24, .inl td))] (fun (u : (Nat → Int32) × (Nat → Int32) × (Nat → Int32)) => [(h0, .inr (5, [.ref h1, .ref h2, .ref h3, .int (nI (n + 1))])), (h1, .inl (G.2 0, 24, .inl u.1)), (h2, .inl (G.2 0, 24, .inl u.2.1)), (h3, .inl (G.2 0, 24, .inl u.2.2))])) (pB [(h0, .inr (5, [.ref h1, .ref h2, .ref h3, .int (nI n)])), (h1, .inl (G.2 0, 24, .inl ta)), (h2, .inl (G.2 0, 24, .inl tb)), (h3, .inl (G.2 0, 24, .inl td))])) 0 0 (pB [(h0, .inr (5, [.ref h1, .ref h2, .ref h3, .int (nI n)])), (h1, .inl (G.2 0, 24, .inl ta)), (h2, .inl (G.2 0, 24, .inl tb)), (h3, .inl (G.2 0, 24, .inl td))]) := by
  refine ofCX (G := G) (cc := cX5_append) (maxL := 4) (ret := (some .int)) (by decide) rfl (Nat.le_of_ble_eq_true rfl) ?_
  intro p e s m below meth c ls C hr hin hD hP hl
  obtain ⟨hx, hb, hml, hown, hts, hlocks, hK⟩ := id C
  have hown : s.vm.findClass RX5 = some m.cls := hown
  have hfl_9 := hts (.fieldLink RX5 9 "AfterDesk$Ties" "aheads" "[I") (by decide +kernel)
  have hin_X5 : ∀ w ∈ wsX50, w ∈ wsX5_append := by decide +kernel
  have hfl_21 := hts (.fieldLink RX5 21 "AfterDesk$Ties" "size" "I") (by decide +kernel)
  have hfl_15 := hts (.fieldLink RX5 15 "AfterDesk$Ties" "behinds" "[I") (by decide +kernel)
  have hfl_18 := hts (.fieldLink RX5 18 "AfterDesk$Ties" "distances" "[I") (by decide +kernel)
  generalize hAe : pB [(h0, .inr (5, [.ref h1, .ref h2, .ref h3, .int (nI n)])), (h1, .inl (G.2 0, 24, .inl ta)), (h2, .inl (G.2 0, 24, .inl tb)), (h3, .inl (G.2 0, 24, .inl td))] = A at hD ⊢
  have hS : va_S A s.heap s.heap [] := va_S.rf
  have hP : va_P G.1 vwCl [(h0, .inr (5, [.ref h1, .ref h2, .ref h3, .int (nI n)])), (h1, .inl (G.2 0, 24, .inl ta)), (h2, .inl (G.2 0, 24, .inl tb)), (h3, .inl (G.2 0, 24, .inl td))] s.heap := hP
  have hD : va_D A [(h0, .inr (5, [.ref h1, .ref h2, .ref h3, .int (nI n)])), (h1, .inl (G.2 0, 24, .inl ta)), (h2, .inl (G.2 0, 24, .inl tb)), (h3, .inl (G.2 0, 24, .inl td))] := hD
  have hl : lv_has ls 4 [(0, .ref h0), (1, .int a), (2, .int b), (3, .int d)] := hl
  refine lv_aload_n hx hb dX5_append_0 rfl (lv_at hl 0 rfl) ?_
  refine xI (S := Unit) (va_runV (As := []) (rest := []) ⟨hx, hb, hml, hown, hts⟩ (c_X5_isFull l G h0 h1 h2 h3 ta tb td n (by first | omega | assumption)) (cwV 0 hts gX5_append_X5_isFull rfl rfl rfl (by decide +kernel) ⟨Nat.le_of_ble_eq_true rfl, Nat.le_of_ble_eq_true rfl⟩) (pV [] hK (hP.sub (ws' := [(h0, .inr (5, [.ref h1, .ref h2, .ref h3, .int (nI n)])), (h1, .inl (G.2 0, 24, .inl ta)), (h2, .inl (G.2 0, 24, .inl tb)), (h3, .inl (G.2 0, 24, .inl td))]) [0, 1, 2, 3] rfl) (hD.sub (ws' := [(h0, .inr (5, [.ref h1, .ref h2, .ref h3, .int (nI n)])), (h1, .inl (G.2 0, 24, .inl ta)), (h2, .inl (G.2 0, 24, .inl tb)), (h3, .inl (G.2 0, 24, .inl td))]) [0, 1, 2, 3] (by decide) rfl) (ci := 5) (q0 := 0) rfl rfl) rfl rfl hl.1 rfl (lv_room (Nat.le_of_ble_eq_true rfl)) dX5_append_1 ⟨Nat.zero_le _, Nat.zero_le _⟩) hP hD hS [0, 1, 2, 3] [] (wr := []) rfl rfl (by decide) (by decide) [0, 1, 2, 3] (w2 := fun (_ : Unit) => [(h0, .inr (5, [.ref h1, .ref h2, .ref h3, .int (nI n)])), (h1, .inl (G.2 0, 24, .inl ta)), (h2, .inl (G.2 0, 24, .inl tb)), (h3, .inl (G.2 0, 24, .inl td))]) (fun _ => rfl) (by decide) (fun r_1 u_2 H locs hw_3 hP hD hS => ?_)
  (try dsimp only at hw_3); subst hw_3
  have hP : va_P G.1 vwCl [(h0, .inr (5, [.ref h1, .ref h2, .ref h3, .int (nI n)])), (h1, .inl (G.2 0, 24, .inl ta)), (h2, .inl (G.2 0, 24, .inl tb)), (h3, .inl (G.2 0, 24, .inl td))] H := hP
  have hD : va_D A [(h0, .inr (5, [.ref h1, .ref h2, .ref h3, .int (nI n)])), (h1, .inl (G.2 0, 24, .inl ta)), (h2, .inl (G.2 0, 24, .inl tb)), (h3, .inl (G.2 0, 24, .inl td))] := hD
  refine lv_if_ne (tgt := 47) hx hb dX5_append_4 (by decide) (fun c_4 => ?_) (fun c_4 => ?_)
  · -- yes: bI (decide (24 ≤ n)) ne 0
    have c_4 : 24 ≤ n := bD1 c_4
    exfalso; omega
  · -- no: bI (decide (24 ≤ n)) eq 0
    have c_4 : ¬ (24 ≤ n) := bD0 c_4
    refine lv_aload_n hx hb dX5_append_7 rfl (lv_at hl 0 rfl) ?_
    refine va_get (D := G.1) (ci := 5) (v := .ref h1) (C := RX5) (T := TX5) (N := 4) hx hb hts hin_X5 hown hK.1 hP 0 rfl rfl 0 (by decide) hfl_9 (fun _ h9 => h9) rfl dX5_append_8 ?_
    refine lv_aload_n hx hb dX5_append_11 rfl (lv_at hl 0 rfl) ?_
    refine va_get (D := G.1) (ci := 5) (v := .int (nI n)) (C := RX5) (T := TX5) (N := 4) hx hb hts hin_X5 hown hK.1 hP 0 rfl rfl 3 (by decide) hfl_21 (fun _ h9 => h9) rfl dX5_append_12 ?_
    refine lv_iload_n hx hb dX5_append_15 rfl (lv_at hl 1 rfl) ?_
    refine aIst hx hb hK.1 hP hD hS 1 0 rfl rfl (k := n) rfl (by omega) (by decide) dX5_append_16 (fun H locs hP hD hS => ?_)
    have hP : va_P G.1 vwCl [(h0, .inr (5, [.ref h1, .ref h2, .ref h3, .int (nI n)])), (h1, .inl (G.2 0, 24, .inl (upd ta n a))), (h2, .inl (G.2 0, 24, .inl tb)), (h3, .inl (G.2 0, 24, .inl td))] H := hP
    have hD : va_D A [(h0, .inr (5, [.ref h1, .ref h2, .ref h3, .int (nI n)])), (h1, .inl (G.2 0, 24, .inl (upd ta n a))), (h2, .inl (G.2 0, 24, .inl tb)), (h3, .inl (G.2 0, 24, .inl td))] := hD
    refine lv_aload_n hx hb dX5_append_17 rfl (lv_at hl 0 rfl) ?_
    refine va_get (D := G.1) (ci := 5) (v := .ref h2) (C := RX5) (T := TX5) (N := 4) hx hb hts hin_X5 hown hK.1 hP 0 rfl rfl 1 (by decide) hfl_15 (fun _ h9 => h9) rfl dX5_append_18 ?_
    refine lv_aload_n hx hb dX5_append_21 rfl (lv_at hl 0 rfl) ?_
    refine va_get (D := G.1) (ci := 5) (v := .int (nI n)) (C := RX5) (T := TX5) (N := 4) hx hb hts hin_X5 hown hK.1 hP 0 rfl rfl 3 (by decide) hfl_21 (fun _ h9 => h9) rfl dX5_append_22 ?_
    refine lv_iload_n hx hb dX5_append_25 rfl (lv_at hl 2 rfl) ?_
    refine aIst hx hb hK.1 hP hD hS 2 0 rfl rfl (k := n) rfl (by omega) (by decide) dX5_append_26 (fun H locs hP hD hS => ?_)
    have hP : va_P G.1 vwCl [(h0, .inr (5, [.ref h1, .ref h2, .ref h3, .int (nI n)])), (h1, .inl (G.2 0, 24, .inl (upd ta n a))), (h2, .inl (G.2 0, 24, .inl (upd tb n b))), (h3, .inl (G.2 0, 24, .inl td))] H := hP
    have hD : va_D A [(h0, .inr (5, [.ref h1, .ref h2, .ref h3, .int (nI n)])), (h1, .inl (G.2 0, 24, .inl (upd ta n a))), (h2, .inl (G.2 0, 24, .inl (upd tb n b))), (h3, .inl (G.2 0, 24, .inl td))] := hD
    refine lv_aload_n hx hb dX5_append_27 rfl (lv_at hl 0 rfl) ?_
    refine va_get (D := G.1) (ci := 5) (v := .ref h3) (C := RX5) (T := TX5) (N := 4) hx hb hts hin_X5 hown hK.1 hP 0 rfl rfl 2 (by decide) hfl_18 (fun _ h9 => h9) rfl dX5_append_28 ?_
    refine lv_aload_n hx hb dX5_append_31 rfl (lv_at hl 0 rfl) ?_
    refine va_get (D := G.1) (ci := 5) (v := .int (nI n)) (C := RX5) (T := TX5) (N := 4) hx hb hts hin_X5 hown hK.1 hP 0 rfl rfl 3 (by decide) hfl_21 (fun _ h9 => h9) rfl dX5_append_32 ?_
    refine lv_iload_n hx hb dX5_append_35 rfl (lv_at hl 3 rfl) ?_
    refine aIst hx hb hK.1 hP hD hS 3 0 rfl rfl (k := n) rfl (by omega) (by decide) dX5_append_36 (fun H locs hP hD hS => ?_)
    have hP : va_P G.1 vwCl [(h0, .inr (5, [.ref h1, .ref h2, .ref h3, .int (nI n)])), (h1, .inl (G.2 0, 24, .inl (upd ta n a))), (h2, .inl (G.2 0, 24, .inl (upd tb n b))), (h3, .inl (G.2 0, 24, .inl (upd td n d)))] H := hP
    have hD : va_D A [(h0, .inr (5, [.ref h1, .ref h2, .ref h3, .int (nI n)])), (h1, .inl (G.2 0, 24, .inl (upd ta n a))), (h2, .inl (G.2 0, 24, .inl (upd tb n b))), (h3, .inl (G.2 0, 24, .inl (upd td n d)))] := hD
    refine lv_aload_n hx hb dX5_append_37 rfl (lv_at hl 0 rfl) ?_
    refine lv_dup hx hb dX5_append_38 rfl ?_
    refine va_get (D := G.1) (ci := 5) (v := .int (nI n)) (C := RX5) (T := TX5) (N := 4) hx hb hts hin_X5 hown hK.1 hP 0 rfl rfl 3 (by decide) hfl_21 (fun _ h9 => h9) rfl dX5_append_39 ?_
    refine lv_iconst (v := 1) hx hb dX5_append_42 (by decide) ?_
    refine lv_iadd hx hb dX5_append_43 ?_
    refine nmI (nI_add n 1) ?_
    refine va_put (D := G.1) (ci := 5) (v := .int (nI (n + 1))) (ty := .int) (C := RX5) (T := TX5) (N := 4) hx hb hts hin_X5 tyX5 tyX5_ok nmX5 hown hK.1 hP hD hS 0 rfl rfl 3 (by decide) hfl_21 (fun _ h9 => h9) rfl (by decide +kernel) rfl rfl (Nat.le_of_ble_eq_true rfl) dX5_append_44 (fun H locs hP hD hS => ?_)
    have hP : va_P G.1 vwCl [(h0, .inr (5, [.ref h1, .ref h2, .ref h3, .int (nI (n + 1))])), (h1, .inl (G.2 0, 24, .inl (upd ta n a))), (h2, .inl (G.2 0, 24, .inl (upd tb n b))), (h3, .inl (G.2 0, 24, .inl (upd td n d)))] H := hP
    have hD : va_D A [(h0, .inr (5, [.ref h1, .ref h2, .ref h3, .int (nI (n + 1))])), (h1, .inl (G.2 0, 24, .inl (upd ta n a))), (h2, .inl (G.2 0, 24, .inl (upd tb n b))), (h3, .inl (G.2 0, 24, .inl (upd td n d)))] := hD
    refine lv_aload_n hx hb dX5_append_47 rfl (lv_at hl 0 rfl) ?_
    refine va_get (D := G.1) (ci := 5) (v := .int (nI (n + 1))) (C := RX5) (T := TX5) (N := 4) hx hb hts hin_X5 hown hK.1 hP 0 rfl rfl 3 (by decide) hfl_21 (fun _ h9 => h9) rfl dX5_append_48 ?_
    exact rtI C hr hAe (u := ((upd ta n a), (upd tb n b), (upd td n d))) hP hD hS dX5_append_51 (by exact ⟨rfl, rfl, rfl, rfl⟩)

set_option maxHeartbeats 4000000 in
set_option maxRecDepth 100000 in
theorem c_X5_move (l : Launch) (G : gT) (h0 : Nat) (h1 : Nat) (h2 : Nat) (h3 : Nat) (ta : Nat → Int32) (tb : Nat → Int32) (td : Nat → Int32) (n : Nat) (a : Nat) (b : Nat) (ha : a < 24) (hb2 : b < 24) : Met l yX5_move wsX5_move ({ frames := 0, cells := 0, slots := 0, locals := 0 }) (cPre G [.ref h0, .int (nI a), .int (nI b)] [(h0, .inr (5, [.ref h1, .ref h2, .ref h3, .int (nI n)])), (h1, .inl (G.2 0, 24, .inl ta)), (h2, .inl (G.2 0, 24, .inl tb)), (h3, .inl (G.2 0, 24, .inl td))]) (va_Qv (fun (u : (Nat → Int32) × (Nat → Int32) × (Nat → Int32)) => u.1 = upd ta b (ta a) ∧ u.2.1 = upd tb b (tb a) ∧ u.2.2 = upd td b (td a)) (cW G [(h0, .inr (5, [.ref h1, .ref h2, .ref h3, .int (nI n)])), (h1, .inl (G.2 0, 24, .inl ta)), (h2, .inl (G.2 0, 24, .inl tb)), (h3, .inl (G.2 0, 24, .inl td))] (fun (u : (Nat → Int32) × (Nat → Int32) × (Nat → Int32)) => [(h0, .inr (5, [.ref h1, .ref h2, .ref h3, .int (nI n)])), (h1, .inl (G.2 0, 24, .inl u.1)), (h2, .inl (G.2 0, 24, .inl u.2.1)), (h3, .inl (G.2 0, 24, .inl u.2.2))])) (pB [(h0, .inr (5, [.ref h1, .ref h2, .ref h3, .int (nI n)])), (h1, .inl (G.2 0, 24, .inl ta)), (h2, .inl (G.2 0, 24, .inl tb)), (h3, .inl (G.2 0, 24, .inl td))])) 0 0 (pB [(h0, .inr (5, [.ref h1, .ref h2, .ref h3, .int (nI n)])), (h1, .inl (G.2 0, 24, .inl ta)), (h2, .inl (G.2 0, 24, .inl tb)), (h3, .inl (G.2 0, 24, .inl td))]) := by
  refine ofCX (G := G) (cc := cX5_move) (maxL := 3) (ret := none) (by decide) rfl (Nat.le_of_ble_eq_true rfl) ?_
  intro p e s m below meth c ls C hr hin hD hP hl
  obtain ⟨hx, hb, hml, hown, hts, hlocks, hK⟩ := id C
  have hown : s.vm.findClass RX5 = some m.cls := hown
  have hfl_9 := hts (.fieldLink RX5 9 "AfterDesk$Ties" "aheads" "[I") (by decide +kernel)
  have hin_X5 : ∀ w ∈ wsX50, w ∈ wsX5_move := by decide +kernel
  have hfl_15 := hts (.fieldLink RX5 15 "AfterDesk$Ties" "behinds" "[I") (by decide +kernel)
  have hfl_18 := hts (.fieldLink RX5 18 "AfterDesk$Ties" "distances" "[I") (by decide +kernel)
  generalize hAe : pB [(h0, .inr (5, [.ref h1, .ref h2, .ref h3, .int (nI n)])), (h1, .inl (G.2 0, 24, .inl ta)), (h2, .inl (G.2 0, 24, .inl tb)), (h3, .inl (G.2 0, 24, .inl td))] = A at hD ⊢
  have hS : va_S A s.heap s.heap [] := va_S.rf
  have hP : va_P G.1 vwCl [(h0, .inr (5, [.ref h1, .ref h2, .ref h3, .int (nI n)])), (h1, .inl (G.2 0, 24, .inl ta)), (h2, .inl (G.2 0, 24, .inl tb)), (h3, .inl (G.2 0, 24, .inl td))] s.heap := hP
  have hD : va_D A [(h0, .inr (5, [.ref h1, .ref h2, .ref h3, .int (nI n)])), (h1, .inl (G.2 0, 24, .inl ta)), (h2, .inl (G.2 0, 24, .inl tb)), (h3, .inl (G.2 0, 24, .inl td))] := hD
  have hl : lv_has ls 3 [(0, .ref h0), (1, .int (nI a)), (2, .int (nI b))] := hl
  refine lv_aload_n hx hb dX5_move_0 rfl (lv_at hl 0 rfl) ?_
  refine va_get (D := G.1) (ci := 5) (v := .ref h1) (C := RX5) (T := TX5) (N := 4) hx hb hts hin_X5 hown hK.1 hP 0 rfl rfl 0 (by decide) hfl_9 (fun _ h9 => h9) rfl dX5_move_1 ?_
  refine lv_iload_n hx hb dX5_move_4 rfl (lv_at hl 2 rfl) ?_
  refine lv_aload_n hx hb dX5_move_5 rfl (lv_at hl 0 rfl) ?_
  refine va_get (D := G.1) (ci := 5) (v := .ref h1) (C := RX5) (T := TX5) (N := 4) hx hb hts hin_X5 hown hK.1 hP 0 rfl rfl 0 (by decide) hfl_9 (fun _ h9 => h9) rfl dX5_move_6 ?_
  refine lv_iload_n hx hb dX5_move_9 rfl (lv_at hl 1 rfl) ?_
  refine aIld hx hb hK.1 hP 1 0 rfl rfl (k := a) rfl (by omega) (by decide) dX5_move_10 ?_
  refine aIst hx hb hK.1 hP hD hS 1 0 rfl rfl (k := b) rfl (by omega) (by decide) dX5_move_11 (fun H locs hP hD hS => ?_)
  have hP : va_P G.1 vwCl [(h0, .inr (5, [.ref h1, .ref h2, .ref h3, .int (nI n)])), (h1, .inl (G.2 0, 24, .inl (upd ta b (ta a)))), (h2, .inl (G.2 0, 24, .inl tb)), (h3, .inl (G.2 0, 24, .inl td))] H := hP
  have hD : va_D A [(h0, .inr (5, [.ref h1, .ref h2, .ref h3, .int (nI n)])), (h1, .inl (G.2 0, 24, .inl (upd ta b (ta a)))), (h2, .inl (G.2 0, 24, .inl tb)), (h3, .inl (G.2 0, 24, .inl td))] := hD
  refine lv_aload_n hx hb dX5_move_12 rfl (lv_at hl 0 rfl) ?_
  refine va_get (D := G.1) (ci := 5) (v := .ref h2) (C := RX5) (T := TX5) (N := 4) hx hb hts hin_X5 hown hK.1 hP 0 rfl rfl 1 (by decide) hfl_15 (fun _ h9 => h9) rfl dX5_move_13 ?_
  refine lv_iload_n hx hb dX5_move_16 rfl (lv_at hl 2 rfl) ?_
  refine lv_aload_n hx hb dX5_move_17 rfl (lv_at hl 0 rfl) ?_
  refine va_get (D := G.1) (ci := 5) (v := .ref h2) (C := RX5) (T := TX5) (N := 4) hx hb hts hin_X5 hown hK.1 hP 0 rfl rfl 1 (by decide) hfl_15 (fun _ h9 => h9) rfl dX5_move_18 ?_
  refine lv_iload_n hx hb dX5_move_21 rfl (lv_at hl 1 rfl) ?_
  refine aIld hx hb hK.1 hP 2 0 rfl rfl (k := a) rfl (by omega) (by decide) dX5_move_22 ?_
  refine aIst hx hb hK.1 hP hD hS 2 0 rfl rfl (k := b) rfl (by omega) (by decide) dX5_move_23 (fun H locs hP hD hS => ?_)
  have hP : va_P G.1 vwCl [(h0, .inr (5, [.ref h1, .ref h2, .ref h3, .int (nI n)])), (h1, .inl (G.2 0, 24, .inl (upd ta b (ta a)))), (h2, .inl (G.2 0, 24, .inl (upd tb b (tb a)))), (h3, .inl (G.2 0, 24, .inl td))] H := hP
  have hD : va_D A [(h0, .inr (5, [.ref h1, .ref h2, .ref h3, .int (nI n)])), (h1, .inl (G.2 0, 24, .inl (upd ta b (ta a)))), (h2, .inl (G.2 0, 24, .inl (upd tb b (tb a)))), (h3, .inl (G.2 0, 24, .inl td))] := hD
  refine lv_aload_n hx hb dX5_move_24 rfl (lv_at hl 0 rfl) ?_
  refine va_get (D := G.1) (ci := 5) (v := .ref h3) (C := RX5) (T := TX5) (N := 4) hx hb hts hin_X5 hown hK.1 hP 0 rfl rfl 2 (by decide) hfl_18 (fun _ h9 => h9) rfl dX5_move_25 ?_
  refine lv_iload_n hx hb dX5_move_28 rfl (lv_at hl 2 rfl) ?_
  refine lv_aload_n hx hb dX5_move_29 rfl (lv_at hl 0 rfl) ?_
  refine va_get (D := G.1) (ci := 5) (v := .ref h3) (C := RX5) (T := TX5) (N := 4) hx hb hts hin_X5 hown hK.1 hP 0 rfl rfl 2 (by decide) hfl_18 (fun _ h9 => h9) rfl dX5_move_30 ?_
  refine lv_iload_n hx hb dX5_move_33 rfl (lv_at hl 1 rfl) ?_
  refine aIld hx hb hK.1 hP 3 0 rfl rfl (k := a) rfl (by omega) (by decide) dX5_move_34 ?_
  refine aIst hx hb hK.1 hP hD hS 3 0 rfl rfl (k := b) rfl (by omega) (by decide) dX5_move_35 (fun H locs hP hD hS => ?_)
  have hP : va_P G.1 vwCl [(h0, .inr (5, [.ref h1, .ref h2, .ref h3, .int (nI n)])), (h1, .inl (G.2 0, 24, .inl (upd ta b (ta a)))), (h2, .inl (G.2 0, 24, .inl (upd tb b (tb a)))), (h3, .inl (G.2 0, 24, .inl (upd td b (td a))))] H := hP
  have hD : va_D A [(h0, .inr (5, [.ref h1, .ref h2, .ref h3, .int (nI n)])), (h1, .inl (G.2 0, 24, .inl (upd ta b (ta a)))), (h2, .inl (G.2 0, 24, .inl (upd tb b (tb a)))), (h3, .inl (G.2 0, 24, .inl (upd td b (td a))))] := hD
  exact rtV C hr hAe (u := ((upd ta b (ta a)), (upd tb b (tb a)), (upd td b (td a)))) hP hD hS dX5_move_36 (by exact ⟨rfl, rfl, rfl⟩)

set_option maxHeartbeats 4000000 in
set_option maxRecDepth 100000 in
theorem lp_X5_remove_18 {p : Program} {l : Launch} {e : Env} {R : Room} {s : State} {m : MethodId} {args : Array Value} {below : List Frame} {meth : Method} {c : Code} {A : Nat → Prop} {H0 : Heap} {Q : State → Prop} {G : gT} (C : CX p s m meth c args cX5_remove 3 RX5 wsX5_remove G) (h0 : Nat) (h1 : Nat) (h2 : Nat) (h3 : Nat) (ta0 : Nat → Int32) (tb0 : Nat → Int32) (td0 : Nat → Int32) (n : Nat) (j : Nat) (hn : n ≤ 24) (hRf : 1 ≤ R.frames) (hRl : 22 ≤ R.locals) (hk : (j + 1 ≤ n) → ∀ (H : Heap) (locs : List Loc) (ls : Array Slot), va_P G.1 vwCl [(h0, .inr (5, [.ref h1, .ref h2, .ref h3, .int (nI n)])), (h1, .inl (G.2 0, 24, .inl (rmS ta0 j n))), (h2, .inl (G.2 0, 24, .inl (rmS tb0 j n))), (h3, .inl (G.2 0, 24, .inl (rmS td0 j n)))] H → va_D A [(h0, .inr (5, [.ref h1, .ref h2, .ref h3, .int (nI n)])), (h1, .inl (G.2 0, 24, .inl (rmS ta0 j n))), (h2, .inl (G.2 0, 24, .inl (rmS tb0 j n))), (h3, .inl (G.2 0, 24, .inl (rmS td0 j n)))] → va_S A H0 H locs → lv_has ls 3 [(0, .ref h0), (1, .int (nI j)), (2, .int (nI n))] → W p l e R s m args below meth c H locs 0 0 Q (F0 m 40 ls [])) : ∀ (fu k : Nat) (ta : Nat → Int32) (tb : Nat → Int32) (td : Nat → Int32), k ≤ n → n - k < fu → ta = rmS ta0 j k → tb = rmS tb0 j k → td = rmS td0 j k → (j + 1 ≤ k) → ∀ (H : Heap) (locs : List Loc) (ls : Array Slot), va_P G.1 vwCl [(h0, .inr (5, [.ref h1, .ref h2, .ref h3, .int (nI n)])), (h1, .inl (G.2 0, 24, .inl ta)), (h2, .inl (G.2 0, 24, .inl tb)), (h3, .inl (G.2 0, 24, .inl td))] H → va_D A [(h0, .inr (5, [.ref h1, .ref h2, .ref h3, .int (nI n)])), (h1, .inl (G.2 0, 24, .inl ta)), (h2, .inl (G.2 0, 24, .inl tb)), (h3, .inl (G.2 0, 24, .inl td))] → va_S A H0 H locs → lv_has ls 3 [(0, .ref h0), (1, .int (nI j)), (2, .int (nI k))] → W p l e R s m args below meth c H locs 0 0 Q (F0 m 18 ls []) := by
  obtain ⟨hx, hb, hml, hown, hts, hlocks, hK⟩ := id C
  have hfl_21 := hts (.fieldLink RX5 21 "AfterDesk$Ties" "size" "I") (by decide +kernel)
  have hin_X5 : ∀ w ∈ wsX50, w ∈ wsX5_remove := by decide +kernel
  intro fu
  induction fu with
  | zero =>
    intro k ta tb td h1 h2
    exact absurd h2 (by omega)
  | succ fu ih =>
    intro k ta tb td hkle hkn e_ta e_tb e_td hj H locs ls hP hD hS hl
    subst e_ta
    subst e_tb
    subst e_td
    refine lv_iload_n hx hb dX5_remove_18 rfl (lv_at hl 2 rfl) ?_
    refine lv_aload_n hx hb dX5_remove_19 rfl (lv_at hl 0 rfl) ?_
    refine va_get (D := G.1) (ci := 5) (v := .int (nI n)) (C := RX5) (T := TX5) (N := 4) hx hb hts hin_X5 hown hK.1 hP 0 rfl rfl 3 (by decide) hfl_21 (fun _ h9 => h9) rfl dX5_remove_20 ?_
    refine lv_icmp_ge (tgt := 40) hx hb dX5_remove_23 (by decide) (fun c_1 => ?_) (fun c_1 => ?_)
    · -- yes: nI k ge nI n
      have c_1 : n ≤ k := (nI_leI (a := n) (b := k) (by omega) (by omega)).mp c_1
      have hkN : k = n := by omega
      subst hkN
      exact hk hj _ _ _ hP hD hS (lv_sub hl [0, 1, 2] rfl)
    · -- no: nI k lt nI n
      have c_1 : ¬ n ≤ k := fun z => c_1 ((nI_leI (a := n) (b := k) (by omega) (by omega)).mpr z)
      refine lv_aload_n hx hb dX5_remove_26 rfl (lv_at hl 0 rfl) ?_
      refine lv_iload_n hx hb dX5_remove_27 rfl (lv_at hl 2 rfl) ?_
      refine lv_iload_n hx hb dX5_remove_28 rfl (lv_at hl 2 rfl) ?_
      refine lv_iconst (v := 1) hx hb dX5_remove_29 (by decide) ?_
      refine lv_isub hx hb dX5_remove_30 ?_
      refine nmI (pk_sub (a := k) (b := 1) (by omega)) ?_
      refine xV (S := (Nat → Int32) × (Nat → Int32) × (Nat → Int32)) (va_runV (As := [.int (nI k), .int (nI (k - 1))]) (rest := []) ⟨hx, hb, hml, hown, hts⟩ (c_X5_move l G h0 h1 h2 h3 (rmS ta0 j k) (rmS tb0 j k) (rmS td0 j k) n k (k - 1) (by first | omega | assumption) (by first | omega | assumption)) (cwV 2 hts gX5_remove_X5_move rfl rfl rfl (by decide +kernel) ⟨Nat.le_trans (Nat.le_of_ble_eq_true (m := 1) rfl) hRf, Nat.le_trans (Nat.le_of_ble_eq_true (m := 22) rfl) hRl⟩) (pV [.int (nI k), .int (nI (k - 1))] hK (hP.sub (ws' := [(h0, .inr (5, [.ref h1, .ref h2, .ref h3, .int (nI n)])), (h1, .inl (G.2 0, 24, .inl (rmS ta0 j k))), (h2, .inl (G.2 0, 24, .inl (rmS tb0 j k))), (h3, .inl (G.2 0, 24, .inl (rmS td0 j k)))]) [0, 1, 2, 3] rfl) (hD.sub (ws' := [(h0, .inr (5, [.ref h1, .ref h2, .ref h3, .int (nI n)])), (h1, .inl (G.2 0, 24, .inl (rmS ta0 j k))), (h2, .inl (G.2 0, 24, .inl (rmS tb0 j k))), (h3, .inl (G.2 0, 24, .inl (rmS td0 j k)))]) [0, 1, 2, 3] (by decide) rfl) (ci := 5) (q0 := 0) rfl rfl) rfl rfl hl.1 rfl (lv_room (Nat.le_of_ble_eq_true rfl)) dX5_remove_31 ⟨Nat.zero_le _, Nat.zero_le _⟩) hP hD hS [0, 1, 2, 3] [] (wr := []) rfl rfl (by decide) (by decide) [0, 1, 2, 3] (w2 := fun (u_6 : (Nat → Int32) × (Nat → Int32) × (Nat → Int32)) => [(h0, .inr (5, [.ref h1, .ref h2, .ref h3, .int (nI n)])), (h1, .inl (G.2 0, 24, .inl u_6.1)), (h2, .inl (G.2 0, 24, .inl u_6.2.1)), (h3, .inl (G.2 0, 24, .inl u_6.2.2))]) (fun _ => rfl) (by decide) (fun u_6 H locs hw_7 hP hD hS => ?_)
      obtain ⟨tav_2, tbv_3, tdv_4⟩ := u_6
      (try dsimp only at hw_7); obtain ⟨rfl, rfl, rfl⟩ := hw_7
      have hP : va_P G.1 vwCl [(h0, .inr (5, [.ref h1, .ref h2, .ref h3, .int (nI n)])), (h1, .inl (G.2 0, 24, .inl (upd (rmS ta0 j k) (k - 1) ((rmS ta0 j k) k)))), (h2, .inl (G.2 0, 24, .inl (upd (rmS tb0 j k) (k - 1) ((rmS tb0 j k) k)))), (h3, .inl (G.2 0, 24, .inl (upd (rmS td0 j k) (k - 1) ((rmS td0 j k) k))))] H := hP
      have hD : va_D A [(h0, .inr (5, [.ref h1, .ref h2, .ref h3, .int (nI n)])), (h1, .inl (G.2 0, 24, .inl (upd (rmS ta0 j k) (k - 1) ((rmS ta0 j k) k)))), (h2, .inl (G.2 0, 24, .inl (upd (rmS tb0 j k) (k - 1) ((rmS tb0 j k) k)))), (h3, .inl (G.2 0, 24, .inl (upd (rmS td0 j k) (k - 1) ((rmS td0 j k) k))))] := hD
      refine lv_iinc (v := nI (k + 1)) (lv' := [(2, .int (nI (k + 1))), (0, .ref h0), (1, .int (nI j))]) hx hb dX5_remove_34 hl (k := 2) rfl (nI_inc _) (by decide) rfl (fun ls hl => ?_)
      refine lv_goto (tgt := 18) hx hb dX5_remove_37 (by decide) ?_
      exact ih (k + 1) (upd (rmS ta0 j k) (k - 1) ((rmS ta0 j k) k)) (upd (rmS tb0 j k) (k - 1) ((rmS tb0 j k) k)) (upd (rmS td0 j k) (k - 1) ((rmS td0 j k) k)) (by omega) (by omega) (by exact rmS_s _ hj) (by exact rmS_s _ hj) (by exact rmS_s _ hj) (by omega) _ _ _ hP hD hS (lv_sub hl [1, 2, 0] rfl)

set_option maxHeartbeats 4000000 in
set_option maxRecDepth 100000 in
theorem c_X5_remove (l : Launch) (G : gT) (h0 : Nat) (h1 : Nat) (h2 : Nat) (h3 : Nat) (ta : Nat → Int32) (tb : Nat → Int32) (td : Nat → Int32) (n : Nat) (j : Nat) (hn : n ≤ 24) (hj : j < n) : Met l yX5_remove wsX5_remove ({ frames := 1, cells := 0, slots := 0, locals := 22 }) (cPre G [.ref h0, .int (nI j)] [(h0, .inr (5, [.ref h1, .ref h2, .ref h3, .int (nI n)])), (h1, .inl (G.2 0, 24, .inl ta)), (h2, .inl (G.2 0, 24, .inl tb)), (h3, .inl (G.2 0, 24, .inl td))]) (va_Qi (fun (rv : Int32) (u : (Nat → Int32) × (Nat → Int32) × (Nat → Int32)) => rv = nI (n - 1) ∧ u.1 = rmS ta j n ∧ u.2.1 = rmS tb j n ∧ u.2.2 = rmS td j n) (cW G [(h0, .inr (5, [.ref h1, .ref h2, .ref h3, .int (nI n)])), (h1, .inl (G.2 0, 24, .inl ta)), (h2, .inl (G.2 0, 24, .inl tb)), (h3, .inl (G.2 0, 24, .inl td))] (fun (u : (Nat → Int32) × (Nat → Int32) × (Nat → Int32)) => [(h0, .inr (5, [.ref h1, .ref h2, .ref h3, .int (nI (n - 1))])), (h1, .inl (G.2 0, 24, .inl u.1)), (h2, .inl (G.2 0, 24, .inl u.2.1)), (h3, .inl (G.2 0, 24, .inl u.2.2))])) (pB [(h0, .inr (5, [.ref h1, .ref h2, .ref h3, .int (nI n)])), (h1, .inl (G.2 0, 24, .inl ta)), (h2, .inl (G.2 0, 24, .inl tb)), (h3, .inl (G.2 0, 24, .inl td))])) 0 0 (pB [(h0, .inr (5, [.ref h1, .ref h2, .ref h3, .int (nI n)])), (h1, .inl (G.2 0, 24, .inl ta)), (h2, .inl (G.2 0, 24, .inl tb)), (h3, .inl (G.2 0, 24, .inl td))]) := by
  refine ofCX (G := G) (cc := cX5_remove) (maxL := 3) (ret := (some .int)) (by decide) rfl (Nat.le_of_ble_eq_true rfl) ?_
  intro p e s m below meth c ls C hr hin hD hP hl
  obtain ⟨hx, hb, hml, hown, hts, hlocks, hK⟩ := id C
  have hown : s.vm.findClass RX5 = some m.cls := hown
  have hfl_21 := hts (.fieldLink RX5 21 "AfterDesk$Ties" "size" "I") (by decide +kernel)
  have hin_X5 : ∀ w ∈ wsX50, w ∈ wsX5_remove := by decide +kernel
  have hini_RX7 := hts (.initialized RX7) (by decide +kernel)
  have hst_X7_isWithin := hts (.static yX7_isWithin) (by decide +kernel)
  generalize hAe : pB [(h0, .inr (5, [.ref h1, .ref h2, .ref h3, .int (nI n)])), (h1, .inl (G.2 0, 24, .inl ta)), (h2, .inl (G.2 0, 24, .inl tb)), (h3, .inl (G.2 0, 24, .inl td))] = A at hD ⊢
  have hS : va_S A s.heap s.heap [] := va_S.rf
  have hP : va_P G.1 vwCl [(h0, .inr (5, [.ref h1, .ref h2, .ref h3, .int (nI n)])), (h1, .inl (G.2 0, 24, .inl ta)), (h2, .inl (G.2 0, 24, .inl tb)), (h3, .inl (G.2 0, 24, .inl td))] s.heap := hP
  have hD : va_D A [(h0, .inr (5, [.ref h1, .ref h2, .ref h3, .int (nI n)])), (h1, .inl (G.2 0, 24, .inl ta)), (h2, .inl (G.2 0, 24, .inl tb)), (h3, .inl (G.2 0, 24, .inl td))] := hD
  have hl : lv_has ls 3 [(0, .ref h0), (1, .int (nI j))] := hl
  refine lv_iload_n hx hb dX5_remove_0 rfl (lv_at hl 1 rfl) ?_
  refine lv_iconst (v := 0) hx hb dX5_remove_1 (by decide) ?_
  refine lv_aload_n hx hb dX5_remove_2 rfl (lv_at hl 0 rfl) ?_
  refine va_get (D := G.1) (ci := 5) (v := .int (nI n)) (C := RX5) (T := TX5) (N := 4) hx hb hts hin_X5 hown hK.1 hP 0 rfl rfl 3 (by decide) hfl_21 (fun _ h9 => h9) rfl dX5_remove_3 ?_
  refine lv_iconst (v := 1) hx hb dX5_remove_6 (by decide) ?_
  refine lv_isub hx hb dX5_remove_7 ?_
  refine xI (S := Unit) (va_runSN (As := [.int (nI j), .int 0, .int ((nI n) - 1)]) (rest := []) ⟨hx, hb, hml, hown, hts⟩ (c_X7_isWithin l G (nI j) 0 ((nI n) - 1)) ⟨va_cnB 3 hts gX5_remove_X7_isWithin_n29 rfl rfl rfl (hK.2.1 _ nst_X5_29) hini_RX7 (by decide +kernel) ⟨Nat.le_of_ble_eq_true rfl, Nat.le_of_ble_eq_true rfl⟩, hst_X7_isWithin, trivial⟩ (pS [.int (nI j), .int 0, .int ((nI n) - 1)] hK (hP.sub (ws' := []) [] rfl) (hD.sub (ws' := []) [] (by decide) rfl)) rfl rfl hl.1 rfl (lv_room (Nat.le_of_ble_eq_true rfl)) dX5_remove_8 ⟨Nat.zero_le _, Nat.zero_le _⟩) hP hD hS [] [0, 1, 2, 3] (wr := [(h0, .inr (5, [.ref h1, .ref h2, .ref h3, .int (nI n)])), (h1, .inl (G.2 0, 24, .inl ta)), (h2, .inl (G.2 0, 24, .inl tb)), (h3, .inl (G.2 0, 24, .inl td))]) rfl rfl (by decide) (by decide) [0, 1, 2, 3] (w2 := fun (_ : Unit) => [(h0, .inr (5, [.ref h1, .ref h2, .ref h3, .int (nI n)])), (h1, .inl (G.2 0, 24, .inl ta)), (h2, .inl (G.2 0, 24, .inl tb)), (h3, .inl (G.2 0, 24, .inl td))]) (fun _ => rfl) (by decide) (fun r_1 u_2 H locs hw_3 hP hD hS => ?_)
  (try dsimp only at hw_3); subst hw_3
  have hP : va_P G.1 vwCl [(h0, .inr (5, [.ref h1, .ref h2, .ref h3, .int (nI n)])), (h1, .inl (G.2 0, 24, .inl ta)), (h2, .inl (G.2 0, 24, .inl tb)), (h3, .inl (G.2 0, 24, .inl td))] H := hP
  have hD : va_D A [(h0, .inr (5, [.ref h1, .ref h2, .ref h3, .int (nI n)])), (h1, .inl (G.2 0, 24, .inl ta)), (h2, .inl (G.2 0, 24, .inl tb)), (h3, .inl (G.2 0, 24, .inl td))] := hD
  refine lv_if_eq (tgt := 50) hx hb dX5_remove_11 (by decide) (fun c_4 => ?_) (fun c_4 => ?_)
  · -- yes: bI (decide (0 ≤ (nI j).toInt ∧ (nI j).toInt ≤ ((nI n) - 1).t eq 0
    have c_4 : ¬ (0 ≤ (nI j).toInt ∧ (nI j).toInt ≤ ((nI n) - 1).toInt) := bD0 c_4
    simp (disch := omega) only [sub1_toInt, nI_toInt] at c_4
    exfalso; omega
  · -- no: bI (decide (0 ≤ (nI j).toInt ∧ (nI j).toInt ≤ ((nI n) - 1).t ne 0
    have c_4 : 0 ≤ (nI j).toInt ∧ (nI j).toInt ≤ ((nI n) - 1).toInt := bD1 c_4
    simp (disch := omega) only [sub1_toInt, nI_toInt] at c_4
    refine lv_iload_n hx hb dX5_remove_14 rfl (lv_at hl 1 rfl) ?_
    refine lv_iconst (v := 1) hx hb dX5_remove_15 (by decide) ?_
    refine lv_iadd hx hb dX5_remove_16 ?_
    refine nmI (nI_add j 1) ?_
    refine lv_istore_n (lv' := [(2, .int (nI (j + 1))), (0, .ref h0), (1, .int (nI j))]) hx hb dX5_remove_17 rfl hl (by decide) rfl (fun ls hl => ?_)
    refine lp_X5_remove_18 C h0 h1 h2 h3 ta tb td n j (by first | omega | assumption) (Nat.le_of_ble_eq_true rfl) (Nat.le_of_ble_eq_true rfl) (fun hj H locs ls hP hD hS hl => ?_) (n + 1) (j + 1) ta tb td (by omega) (by omega) (by exact (rmS_0 _ _).symm) (by exact (rmS_0 _ _).symm) (by exact (rmS_0 _ _).symm) (by omega) _ _ _ hP hD hS (lv_sub hl [1, 2, 0] rfl)
    have hP : va_P G.1 vwCl [(h0, .inr (5, [.ref h1, .ref h2, .ref h3, .int (nI n)])), (h1, .inl (G.2 0, 24, .inl (rmS ta j n))), (h2, .inl (G.2 0, 24, .inl (rmS tb j n))), (h3, .inl (G.2 0, 24, .inl (rmS td j n)))] H := hP
    have hD : va_D A [(h0, .inr (5, [.ref h1, .ref h2, .ref h3, .int (nI n)])), (h1, .inl (G.2 0, 24, .inl (rmS ta j n))), (h2, .inl (G.2 0, 24, .inl (rmS tb j n))), (h3, .inl (G.2 0, 24, .inl (rmS td j n)))] := hD
    refine lv_aload_n hx hb dX5_remove_40 rfl (lv_at hl 0 rfl) ?_
    refine lv_dup hx hb dX5_remove_41 rfl ?_
    refine va_get (D := G.1) (ci := 5) (v := .int (nI n)) (C := RX5) (T := TX5) (N := 4) hx hb hts hin_X5 hown hK.1 hP 0 rfl rfl 3 (by decide) hfl_21 (fun _ h9 => h9) rfl dX5_remove_42 ?_
    refine lv_iconst (v := 1) hx hb dX5_remove_45 (by decide) ?_
    refine lv_isub hx hb dX5_remove_46 ?_
    refine nmI (pk_sub (a := n) (b := 1) (by omega)) ?_
    refine va_put (D := G.1) (ci := 5) (v := .int (nI (n - 1))) (ty := .int) (C := RX5) (T := TX5) (N := 4) hx hb hts hin_X5 tyX5 tyX5_ok nmX5 hown hK.1 hP hD hS 0 rfl rfl 3 (by decide) hfl_21 (fun _ h9 => h9) rfl (by decide +kernel) rfl rfl (Nat.le_of_ble_eq_true rfl) dX5_remove_47 (fun H locs hP hD hS => ?_)
    have hP : va_P G.1 vwCl [(h0, .inr (5, [.ref h1, .ref h2, .ref h3, .int (nI (n - 1))])), (h1, .inl (G.2 0, 24, .inl (rmS ta j n))), (h2, .inl (G.2 0, 24, .inl (rmS tb j n))), (h3, .inl (G.2 0, 24, .inl (rmS td j n)))] H := hP
    have hD : va_D A [(h0, .inr (5, [.ref h1, .ref h2, .ref h3, .int (nI (n - 1))])), (h1, .inl (G.2 0, 24, .inl (rmS ta j n))), (h2, .inl (G.2 0, 24, .inl (rmS tb j n))), (h3, .inl (G.2 0, 24, .inl (rmS td j n)))] := hD
    refine lv_aload_n hx hb dX5_remove_50 rfl (lv_at hl 0 rfl) ?_
    refine va_get (D := G.1) (ci := 5) (v := .int (nI (n - 1))) (C := RX5) (T := TX5) (N := 4) hx hb hts hin_X5 hown hK.1 hP 0 rfl rfl 3 (by decide) hfl_21 (fun _ h9 => h9) rfl dX5_remove_51 ?_
    exact rtI C hr hAe (u := ((rmS ta j n), (rmS tb j n), (rmS td j n))) hP hD hS dX5_remove_54 (by exact ⟨rfl, rfl, rfl, rfl⟩)

set_option maxHeartbeats 4000000 in
set_option maxRecDepth 100000 in
theorem lp_X5_removeAllOf_4 {p : Program} {l : Launch} {e : Env} {R : Room} {s : State} {m : MethodId} {args : Array Value} {below : List Frame} {meth : Method} {c : Code} {A : Nat → Prop} {H0 : Heap} {Q : State → Prop} {G : gT} (C : CX p s m meth c args cX5_removeAllOf 4 RX5 wsX5_removeAllOf G) (h0 : Nat) (h1 : Nat) (h2 : Nat) (h3 : Nat) (ta0 : Nat → Int32) (tb0 : Nat → Int32) (td0 : Nat → Int32) (n : Nat) (t : Int32) (hn : n ≤ 24) (hRf : 1 ≤ R.frames) (hRl : 22 ≤ R.locals) (hk : ∀ (H : Heap) (locs : List Loc) (ls : Array Slot), va_P G.1 vwCl [(h0, .inr (5, [.ref h1, .ref h2, .ref h3, .int (nI n)])), (h1, .inl (G.2 0, 24, .inl (cmpF ta0 (tieK ta0 tb0 t) n))), (h2, .inl (G.2 0, 24, .inl (cmpF tb0 (tieK ta0 tb0 t) n))), (h3, .inl (G.2 0, 24, .inl (cmpF td0 (tieK ta0 tb0 t) n)))] H → va_D A [(h0, .inr (5, [.ref h1, .ref h2, .ref h3, .int (nI n)])), (h1, .inl (G.2 0, 24, .inl (cmpF ta0 (tieK ta0 tb0 t) n))), (h2, .inl (G.2 0, 24, .inl (cmpF tb0 (tieK ta0 tb0 t) n))), (h3, .inl (G.2 0, 24, .inl (cmpF td0 (tieK ta0 tb0 t) n)))] → va_S A H0 H locs → lv_has ls 4 [(0, .ref h0), (1, .int t), (2, .int (nI (kpt (tieK ta0 tb0 t) n))), (3, .int (nI n))] → W p l e R s m args below meth c H locs 0 0 Q (F0 m 47 ls [])) : ∀ (fu k : Nat) (kp : Nat) (ta : Nat → Int32) (tb : Nat → Int32) (td : Nat → Int32), k ≤ n → n - k < fu → kp = kpt (tieK ta0 tb0 t) k → ta = cmpF ta0 (tieK ta0 tb0 t) k → tb = cmpF tb0 (tieK ta0 tb0 t) k → td = cmpF td0 (tieK ta0 tb0 t) k → ∀ (H : Heap) (locs : List Loc) (ls : Array Slot), va_P G.1 vwCl [(h0, .inr (5, [.ref h1, .ref h2, .ref h3, .int (nI n)])), (h1, .inl (G.2 0, 24, .inl ta)), (h2, .inl (G.2 0, 24, .inl tb)), (h3, .inl (G.2 0, 24, .inl td))] H → va_D A [(h0, .inr (5, [.ref h1, .ref h2, .ref h3, .int (nI n)])), (h1, .inl (G.2 0, 24, .inl ta)), (h2, .inl (G.2 0, 24, .inl tb)), (h3, .inl (G.2 0, 24, .inl td))] → va_S A H0 H locs → lv_has ls 4 [(0, .ref h0), (1, .int t), (2, .int (nI kp)), (3, .int (nI k))] → W p l e R s m args below meth c H locs 0 0 Q (F0 m 4 ls []) := by
  obtain ⟨hx, hb, hml, hown, hts, hlocks, hK⟩ := id C
  have hfl_21 := hts (.fieldLink RX5 21 "AfterDesk$Ties" "size" "I") (by decide +kernel)
  have hin_X5 : ∀ w ∈ wsX50, w ∈ wsX5_removeAllOf := by decide +kernel
  have hfl_9 := hts (.fieldLink RX5 9 "AfterDesk$Ties" "aheads" "[I") (by decide +kernel)
  have hfl_15 := hts (.fieldLink RX5 15 "AfterDesk$Ties" "behinds" "[I") (by decide +kernel)
  intro fu
  induction fu with
  | zero =>
    intro k kp ta tb td h1 h2
    exact absurd h2 (by omega)
  | succ fu ih =>
    intro k kp ta tb td hkle hkn e_kp e_ta e_tb e_td  H locs ls hP hD hS hl
    subst e_kp
    subst e_ta
    subst e_tb
    subst e_td
    refine lv_iload_n hx hb dX5_removeAllOf_4 rfl (lv_at hl 3 rfl) ?_
    refine lv_aload_n hx hb dX5_removeAllOf_5 rfl (lv_at hl 0 rfl) ?_
    refine va_get (D := G.1) (ci := 5) (v := .int (nI n)) (C := RX5) (T := TX5) (N := 4) hx hb hts hin_X5 hown hK.1 hP 0 rfl rfl 3 (by decide) hfl_21 (fun _ h9 => h9) rfl dX5_removeAllOf_6 ?_
    refine lv_icmp_ge (tgt := 47) hx hb dX5_removeAllOf_9 (by decide) (fun c_1 => ?_) (fun c_1 => ?_)
    · -- yes: nI k ge nI n
      have c_1 : n ≤ k := (nI_leI (a := n) (b := k) (by omega) (by omega)).mp c_1
      have hkN : k = n := by omega
      subst hkN
      exact hk  _ _ _ hP hD hS (lv_sub hl [0, 1, 2, 3] rfl)
    · -- no: nI k lt nI n
      have c_1 : ¬ n ≤ k := fun z => c_1 ((nI_leI (a := n) (b := k) (by omega) (by omega)).mpr z)
      refine lv_aload_n hx hb dX5_removeAllOf_12 rfl (lv_at hl 0 rfl) ?_
      refine va_get (D := G.1) (ci := 5) (v := .ref h1) (C := RX5) (T := TX5) (N := 4) hx hb hts hin_X5 hown hK.1 hP 0 rfl rfl 0 (by decide) hfl_9 (fun _ h9 => h9) rfl dX5_removeAllOf_13 ?_
      refine lv_iload_n hx hb dX5_removeAllOf_16 rfl (lv_at hl 3 rfl) ?_
      refine aIld hx hb hK.1 hP 1 0 rfl rfl (k := k) rfl (by omega) (by decide) dX5_removeAllOf_17 ?_
      refine nmI (cmpF_ge ta0 (tieK ta0 tb0 t) k k (Nat.le_refl k)) ?_
      refine lv_iload_n hx hb dX5_removeAllOf_18 rfl (lv_at hl 1 rfl) ?_
      refine lv_icmp_eq (tgt := 41) hx hb dX5_removeAllOf_19 (by decide) (fun c_2 => ?_) (fun c_2 => ?_)
      · -- yes: ta0 k eq t
        refine lv_iinc (v := nI (k + 1)) (lv' := [(3, .int (nI (k + 1))), (0, .ref h0), (1, .int t), (2, .int (nI (kpt (tieK ta0 tb0 t) k)))]) hx hb dX5_removeAllOf_41 hl (k := 3) rfl (nI_inc _) (by decide) rfl (fun ls hl => ?_)
        refine lv_goto (tgt := 4) hx hb dX5_removeAllOf_44 (by decide) ?_
        exact ih (k + 1) (kpt (tieK ta0 tb0 t) k) (cmpF ta0 (tieK ta0 tb0 t) k) (cmpF tb0 (tieK ta0 tb0 t) k) (cmpF td0 (tieK ta0 tb0 t) k) (by omega) (by omega) (by rw [kpt_s]; first | rw [if_pos (tieK_t (by assumption) (by assumption))] | rw [if_neg (by rw [tieK_a (by assumption)]; decide)] | rw [if_neg (by rw [tieK_b (by assumption)]; decide)]) (by rw [cmpF_s]; first | rw [if_pos (tieK_t (by assumption) (by assumption)), cmpF_ge _ _ _ _ (Nat.le_refl k)] | rw [if_neg (by rw [tieK_a (by assumption)]; decide)] | rw [if_neg (by rw [tieK_b (by assumption)]; decide)]) (by rw [cmpF_s]; first | rw [if_pos (tieK_t (by assumption) (by assumption)), cmpF_ge _ _ _ _ (Nat.le_refl k)] | rw [if_neg (by rw [tieK_a (by assumption)]; decide)] | rw [if_neg (by rw [tieK_b (by assumption)]; decide)]) (by rw [cmpF_s]; first | rw [if_pos (tieK_t (by assumption) (by assumption)), cmpF_ge _ _ _ _ (Nat.le_refl k)] | rw [if_neg (by rw [tieK_a (by assumption)]; decide)] | rw [if_neg (by rw [tieK_b (by assumption)]; decide)])  _ _ _ hP hD hS (lv_sub hl [1, 2, 3, 0] rfl)
      · -- no: ta0 k ne t
        refine lv_aload_n hx hb dX5_removeAllOf_22 rfl (lv_at hl 0 rfl) ?_
        refine va_get (D := G.1) (ci := 5) (v := .ref h2) (C := RX5) (T := TX5) (N := 4) hx hb hts hin_X5 hown hK.1 hP 0 rfl rfl 1 (by decide) hfl_15 (fun _ h9 => h9) rfl dX5_removeAllOf_23 ?_
        refine lv_iload_n hx hb dX5_removeAllOf_26 rfl (lv_at hl 3 rfl) ?_
        refine aIld hx hb hK.1 hP 2 0 rfl rfl (k := k) rfl (by omega) (by decide) dX5_removeAllOf_27 ?_
        refine nmI (cmpF_ge tb0 (tieK ta0 tb0 t) k k (Nat.le_refl k)) ?_
        refine lv_iload_n hx hb dX5_removeAllOf_28 rfl (lv_at hl 1 rfl) ?_
        refine lv_icmp_eq (tgt := 41) hx hb dX5_removeAllOf_29 (by decide) (fun c_3 => ?_) (fun c_3 => ?_)
        · -- yes: tb0 k eq t
          refine lv_iinc (v := nI (k + 1)) (lv' := [(3, .int (nI (k + 1))), (0, .ref h0), (1, .int t), (2, .int (nI (kpt (tieK ta0 tb0 t) k)))]) hx hb dX5_removeAllOf_41 hl (k := 3) rfl (nI_inc _) (by decide) rfl (fun ls hl => ?_)
          refine lv_goto (tgt := 4) hx hb dX5_removeAllOf_44 (by decide) ?_
          exact ih (k + 1) (kpt (tieK ta0 tb0 t) k) (cmpF ta0 (tieK ta0 tb0 t) k) (cmpF tb0 (tieK ta0 tb0 t) k) (cmpF td0 (tieK ta0 tb0 t) k) (by omega) (by omega) (by rw [kpt_s]; first | rw [if_pos (tieK_t (by assumption) (by assumption))] | rw [if_neg (by rw [tieK_a (by assumption)]; decide)] | rw [if_neg (by rw [tieK_b (by assumption)]; decide)]) (by rw [cmpF_s]; first | rw [if_pos (tieK_t (by assumption) (by assumption)), cmpF_ge _ _ _ _ (Nat.le_refl k)] | rw [if_neg (by rw [tieK_a (by assumption)]; decide)] | rw [if_neg (by rw [tieK_b (by assumption)]; decide)]) (by rw [cmpF_s]; first | rw [if_pos (tieK_t (by assumption) (by assumption)), cmpF_ge _ _ _ _ (Nat.le_refl k)] | rw [if_neg (by rw [tieK_a (by assumption)]; decide)] | rw [if_neg (by rw [tieK_b (by assumption)]; decide)]) (by rw [cmpF_s]; first | rw [if_pos (tieK_t (by assumption) (by assumption)), cmpF_ge _ _ _ _ (Nat.le_refl k)] | rw [if_neg (by rw [tieK_a (by assumption)]; decide)] | rw [if_neg (by rw [tieK_b (by assumption)]; decide)])  _ _ _ hP hD hS (lv_sub hl [1, 2, 3, 0] rfl)
        · -- no: tb0 k ne t
          have hkp := kpt_le (tieK ta0 tb0 t) k
          refine lv_aload_n hx hb dX5_removeAllOf_32 rfl (lv_at hl 0 rfl) ?_
          refine lv_iload_n hx hb dX5_removeAllOf_33 rfl (lv_at hl 3 rfl) ?_
          refine lv_iload_n hx hb dX5_removeAllOf_34 rfl (lv_at hl 2 rfl) ?_
          refine xV (S := (Nat → Int32) × (Nat → Int32) × (Nat → Int32)) (va_runV (As := [.int (nI k), .int (nI (kpt (tieK ta0 tb0 t) k))]) (rest := []) ⟨hx, hb, hml, hown, hts⟩ (c_X5_move l G h0 h1 h2 h3 (cmpF ta0 (tieK ta0 tb0 t) k) (cmpF tb0 (tieK ta0 tb0 t) k) (cmpF td0 (tieK ta0 tb0 t) k) n k (kpt (tieK ta0 tb0 t) k) (by first | omega | assumption) (by first | omega | assumption)) (cwV 2 hts gX5_removeAllOf_X5_move rfl rfl rfl (by decide +kernel) ⟨Nat.le_trans (Nat.le_of_ble_eq_true (m := 1) rfl) hRf, Nat.le_trans (Nat.le_of_ble_eq_true (m := 22) rfl) hRl⟩) (pV [.int (nI k), .int (nI (kpt (tieK ta0 tb0 t) k))] hK (hP.sub (ws' := [(h0, .inr (5, [.ref h1, .ref h2, .ref h3, .int (nI n)])), (h1, .inl (G.2 0, 24, .inl (cmpF ta0 (tieK ta0 tb0 t) k))), (h2, .inl (G.2 0, 24, .inl (cmpF tb0 (tieK ta0 tb0 t) k))), (h3, .inl (G.2 0, 24, .inl (cmpF td0 (tieK ta0 tb0 t) k)))]) [0, 1, 2, 3] rfl) (hD.sub (ws' := [(h0, .inr (5, [.ref h1, .ref h2, .ref h3, .int (nI n)])), (h1, .inl (G.2 0, 24, .inl (cmpF ta0 (tieK ta0 tb0 t) k))), (h2, .inl (G.2 0, 24, .inl (cmpF tb0 (tieK ta0 tb0 t) k))), (h3, .inl (G.2 0, 24, .inl (cmpF td0 (tieK ta0 tb0 t) k)))]) [0, 1, 2, 3] (by decide) rfl) (ci := 5) (q0 := 0) rfl rfl) rfl rfl hl.1 rfl (lv_room (Nat.le_of_ble_eq_true rfl)) dX5_removeAllOf_35 ⟨Nat.zero_le _, Nat.zero_le _⟩) hP hD hS [0, 1, 2, 3] [] (wr := []) rfl rfl (by decide) (by decide) [0, 1, 2, 3] (w2 := fun (u_8 : (Nat → Int32) × (Nat → Int32) × (Nat → Int32)) => [(h0, .inr (5, [.ref h1, .ref h2, .ref h3, .int (nI n)])), (h1, .inl (G.2 0, 24, .inl u_8.1)), (h2, .inl (G.2 0, 24, .inl u_8.2.1)), (h3, .inl (G.2 0, 24, .inl u_8.2.2))]) (fun _ => rfl) (by decide) (fun u_8 H locs hw_9 hP hD hS => ?_)
          obtain ⟨tav_4, tbv_5, tdv_6⟩ := u_8
          (try dsimp only at hw_9); obtain ⟨rfl, rfl, rfl⟩ := hw_9
          have hP : va_P G.1 vwCl [(h0, .inr (5, [.ref h1, .ref h2, .ref h3, .int (nI n)])), (h1, .inl (G.2 0, 24, .inl (upd (cmpF ta0 (tieK ta0 tb0 t) k) (kpt (tieK ta0 tb0 t) k) ((cmpF ta0 (tieK ta0 tb0 t) k) k)))), (h2, .inl (G.2 0, 24, .inl (upd (cmpF tb0 (tieK ta0 tb0 t) k) (kpt (tieK ta0 tb0 t) k) ((cmpF tb0 (tieK ta0 tb0 t) k) k)))), (h3, .inl (G.2 0, 24, .inl (upd (cmpF td0 (tieK ta0 tb0 t) k) (kpt (tieK ta0 tb0 t) k) ((cmpF td0 (tieK ta0 tb0 t) k) k))))] H := hP
          have hD : va_D A [(h0, .inr (5, [.ref h1, .ref h2, .ref h3, .int (nI n)])), (h1, .inl (G.2 0, 24, .inl (upd (cmpF ta0 (tieK ta0 tb0 t) k) (kpt (tieK ta0 tb0 t) k) ((cmpF ta0 (tieK ta0 tb0 t) k) k)))), (h2, .inl (G.2 0, 24, .inl (upd (cmpF tb0 (tieK ta0 tb0 t) k) (kpt (tieK ta0 tb0 t) k) ((cmpF tb0 (tieK ta0 tb0 t) k) k)))), (h3, .inl (G.2 0, 24, .inl (upd (cmpF td0 (tieK ta0 tb0 t) k) (kpt (tieK ta0 tb0 t) k) ((cmpF td0 (tieK ta0 tb0 t) k) k))))] := hD
          refine lv_iinc (v := nI ((kpt (tieK ta0 tb0 t) k) + 1)) (lv' := [(2, .int (nI ((kpt (tieK ta0 tb0 t) k) + 1))), (0, .ref h0), (1, .int t), (3, .int (nI k))]) hx hb dX5_removeAllOf_38 hl (k := 2) rfl (nI_inc _) (by decide) rfl (fun ls hl => ?_)
          refine lv_iinc (v := nI (k + 1)) (lv' := [(3, .int (nI (k + 1))), (2, .int (nI ((kpt (tieK ta0 tb0 t) k) + 1))), (0, .ref h0), (1, .int t)]) hx hb dX5_removeAllOf_41 hl (k := 3) rfl (nI_inc _) (by decide) rfl (fun ls hl => ?_)
          refine lv_goto (tgt := 4) hx hb dX5_removeAllOf_44 (by decide) ?_
          exact ih (k + 1) ((kpt (tieK ta0 tb0 t) k) + 1) (upd (cmpF ta0 (tieK ta0 tb0 t) k) (kpt (tieK ta0 tb0 t) k) ((cmpF ta0 (tieK ta0 tb0 t) k) k)) (upd (cmpF tb0 (tieK ta0 tb0 t) k) (kpt (tieK ta0 tb0 t) k) ((cmpF tb0 (tieK ta0 tb0 t) k) k)) (upd (cmpF td0 (tieK ta0 tb0 t) k) (kpt (tieK ta0 tb0 t) k) ((cmpF td0 (tieK ta0 tb0 t) k) k)) (by omega) (by omega) (by rw [kpt_s]; first | rw [if_pos (tieK_t (by assumption) (by assumption))] | rw [if_neg (by rw [tieK_a (by assumption)]; decide)] | rw [if_neg (by rw [tieK_b (by assumption)]; decide)]) (by rw [cmpF_s]; first | rw [if_pos (tieK_t (by assumption) (by assumption)), cmpF_ge _ _ _ _ (Nat.le_refl k)] | rw [if_neg (by rw [tieK_a (by assumption)]; decide)] | rw [if_neg (by rw [tieK_b (by assumption)]; decide)]) (by rw [cmpF_s]; first | rw [if_pos (tieK_t (by assumption) (by assumption)), cmpF_ge _ _ _ _ (Nat.le_refl k)] | rw [if_neg (by rw [tieK_a (by assumption)]; decide)] | rw [if_neg (by rw [tieK_b (by assumption)]; decide)]) (by rw [cmpF_s]; first | rw [if_pos (tieK_t (by assumption) (by assumption)), cmpF_ge _ _ _ _ (Nat.le_refl k)] | rw [if_neg (by rw [tieK_a (by assumption)]; decide)] | rw [if_neg (by rw [tieK_b (by assumption)]; decide)])  _ _ _ hP hD hS (lv_sub hl [2, 3, 1, 0] rfl)

set_option maxHeartbeats 4000000 in
set_option maxRecDepth 100000 in
theorem c_X5_removeAllOf (l : Launch) (G : gT) (h0 : Nat) (h1 : Nat) (h2 : Nat) (h3 : Nat) (ta : Nat → Int32) (tb : Nat → Int32) (td : Nat → Int32) (n : Nat) (t : Int32) (hn : n ≤ 24) : Met l yX5_removeAllOf wsX5_removeAllOf ({ frames := 1, cells := 0, slots := 0, locals := 22 }) (cPre G [.ref h0, .int t] [(h0, .inr (5, [.ref h1, .ref h2, .ref h3, .int (nI n)])), (h1, .inl (G.2 0, 24, .inl ta)), (h2, .inl (G.2 0, 24, .inl tb)), (h3, .inl (G.2 0, 24, .inl td))]) (va_Qv (fun (u : (Nat → Int32) × (Nat → Int32) × (Nat → Int32)) => u.1 = cmpF ta (tieK ta tb t) n ∧ u.2.1 = cmpF tb (tieK ta tb t) n ∧ u.2.2 = cmpF td (tieK ta tb t) n) (cW G [(h0, .inr (5, [.ref h1, .ref h2, .ref h3, .int (nI n)])), (h1, .inl (G.2 0, 24, .inl ta)), (h2, .inl (G.2 0, 24, .inl tb)), (h3, .inl (G.2 0, 24, .inl td))] (fun (u : (Nat → Int32) × (Nat → Int32) × (Nat → Int32)) => [(h0, .inr (5, [.ref h1, .ref h2, .ref h3, .int (nI (kpt (tieK ta tb t) n))])), (h1, .inl (G.2 0, 24, .inl u.1)), (h2, .inl (G.2 0, 24, .inl u.2.1)), (h3, .inl (G.2 0, 24, .inl u.2.2))])) (pB [(h0, .inr (5, [.ref h1, .ref h2, .ref h3, .int (nI n)])), (h1, .inl (G.2 0, 24, .inl ta)), (h2, .inl (G.2 0, 24, .inl tb)), (h3, .inl (G.2 0, 24, .inl td))])) 0 0 (pB [(h0, .inr (5, [.ref h1, .ref h2, .ref h3, .int (nI n)])), (h1, .inl (G.2 0, 24, .inl ta)), (h2, .inl (G.2 0, 24, .inl tb)), (h3, .inl (G.2 0, 24, .inl td))]) := by
  refine ofCX (G := G) (cc := cX5_removeAllOf) (maxL := 4) (ret := none) (by decide) rfl (Nat.le_of_ble_eq_true rfl) ?_
  intro p e s m below meth c ls C hr hin hD hP hl
  obtain ⟨hx, hb, hml, hown, hts, hlocks, hK⟩ := id C
  have hown : s.vm.findClass RX5 = some m.cls := hown
  have hfl_21 := hts (.fieldLink RX5 21 "AfterDesk$Ties" "size" "I") (by decide +kernel)
  have hin_X5 : ∀ w ∈ wsX50, w ∈ wsX5_removeAllOf := by decide +kernel
  generalize hAe : pB [(h0, .inr (5, [.ref h1, .ref h2, .ref h3, .int (nI n)])), (h1, .inl (G.2 0, 24, .inl ta)), (h2, .inl (G.2 0, 24, .inl tb)), (h3, .inl (G.2 0, 24, .inl td))] = A at hD ⊢
  have hS : va_S A s.heap s.heap [] := va_S.rf
  have hP : va_P G.1 vwCl [(h0, .inr (5, [.ref h1, .ref h2, .ref h3, .int (nI n)])), (h1, .inl (G.2 0, 24, .inl ta)), (h2, .inl (G.2 0, 24, .inl tb)), (h3, .inl (G.2 0, 24, .inl td))] s.heap := hP
  have hD : va_D A [(h0, .inr (5, [.ref h1, .ref h2, .ref h3, .int (nI n)])), (h1, .inl (G.2 0, 24, .inl ta)), (h2, .inl (G.2 0, 24, .inl tb)), (h3, .inl (G.2 0, 24, .inl td))] := hD
  have hl : lv_has ls 4 [(0, .ref h0), (1, .int t)] := hl
  refine lv_iconst (v := 0) hx hb dX5_removeAllOf_0 (by decide) ?_
  refine lv_istore_n (lv' := [(2, .int 0), (0, .ref h0), (1, .int t)]) hx hb dX5_removeAllOf_1 rfl hl (by decide) rfl (fun ls hl => ?_)
  refine lv_iconst (v := 0) hx hb dX5_removeAllOf_2 (by decide) ?_
  refine lv_istore_n (lv' := [(3, .int 0), (2, .int 0), (0, .ref h0), (1, .int t)]) hx hb dX5_removeAllOf_3 rfl hl (by decide) rfl (fun ls hl => ?_)
  refine lp_X5_removeAllOf_4 C h0 h1 h2 h3 ta tb td n t (by first | omega | assumption) (Nat.le_of_ble_eq_true rfl) (Nat.le_of_ble_eq_true rfl) (fun  H locs ls hP hD hS hl => ?_) (n + 1) 0 0 ta tb td (by omega) (by omega) rfl rfl rfl rfl  _ _ _ hP hD hS (lv_sub hl [2, 3, 1, 0] rfl)
  have hP : va_P G.1 vwCl [(h0, .inr (5, [.ref h1, .ref h2, .ref h3, .int (nI n)])), (h1, .inl (G.2 0, 24, .inl (cmpF ta (tieK ta tb t) n))), (h2, .inl (G.2 0, 24, .inl (cmpF tb (tieK ta tb t) n))), (h3, .inl (G.2 0, 24, .inl (cmpF td (tieK ta tb t) n)))] H := hP
  have hD : va_D A [(h0, .inr (5, [.ref h1, .ref h2, .ref h3, .int (nI n)])), (h1, .inl (G.2 0, 24, .inl (cmpF ta (tieK ta tb t) n))), (h2, .inl (G.2 0, 24, .inl (cmpF tb (tieK ta tb t) n))), (h3, .inl (G.2 0, 24, .inl (cmpF td (tieK ta tb t) n)))] := hD
  refine lv_aload_n hx hb dX5_removeAllOf_47 rfl (lv_at hl 0 rfl) ?_
  refine lv_iload_n hx hb dX5_removeAllOf_48 rfl (lv_at hl 2 rfl) ?_
  refine va_put (D := G.1) (ci := 5) (v := .int (nI (kpt (tieK ta tb t) n))) (ty := .int) (C := RX5) (T := TX5) (N := 4) hx hb hts hin_X5 tyX5 tyX5_ok nmX5 hown hK.1 hP hD hS 0 rfl rfl 3 (by decide) hfl_21 (fun _ h9 => h9) rfl (by decide +kernel) rfl rfl (Nat.le_of_ble_eq_true rfl) dX5_removeAllOf_49 (fun H locs hP hD hS => ?_)
  have hP : va_P G.1 vwCl [(h0, .inr (5, [.ref h1, .ref h2, .ref h3, .int (nI (kpt (tieK ta tb t) n))])), (h1, .inl (G.2 0, 24, .inl (cmpF ta (tieK ta tb t) n))), (h2, .inl (G.2 0, 24, .inl (cmpF tb (tieK ta tb t) n))), (h3, .inl (G.2 0, 24, .inl (cmpF td (tieK ta tb t) n)))] H := hP
  have hD : va_D A [(h0, .inr (5, [.ref h1, .ref h2, .ref h3, .int (nI (kpt (tieK ta tb t) n))])), (h1, .inl (G.2 0, 24, .inl (cmpF ta (tieK ta tb t) n))), (h2, .inl (G.2 0, 24, .inl (cmpF tb (tieK ta tb t) n))), (h3, .inl (G.2 0, 24, .inl (cmpF td (tieK ta tb t) n)))] := hD
  exact rtV C hr hAe (u := ((cmpF ta (tieK ta tb t) n), (cmpF tb (tieK ta tb t) n), (cmpF td (tieK ta tb t) n))) hP hD hS dX5_removeAllOf_52 (by exact ⟨rfl, rfl, rfl⟩)

set_option maxHeartbeats 4000000 in
set_option maxRecDepth 100000 in
theorem c_X5_aheadOf (l : Launch) (G : gT) (h0 : Nat) (h1 : Nat) (h2 : Nat) (h3 : Nat) (ta : Nat → Int32) (tb : Nat → Int32) (td : Nat → Int32) (n : Nat) (j : Nat) (hn : n ≤ 24) (hj : j < n) : Met l yX5_aheadOf wsX5_aheadOf ({ frames := 1, cells := 0, slots := 0, locals := 22 }) (cPre G [.ref h0, .int (nI j)] [(h0, .inr (5, [.ref h1, .ref h2, .ref h3, .int (nI n)])), (h1, .inl (G.2 0, 24, .inl ta)), (h2, .inl (G.2 0, 24, .inl tb)), (h3, .inl (G.2 0, 24, .inl td))]) (va_Qi (fun (rv : Int32) (_u : Unit) => rv = ta j) (cW G [(h0, .inr (5, [.ref h1, .ref h2, .ref h3, .int (nI n)])), (h1, .inl (G.2 0, 24, .inl ta)), (h2, .inl (G.2 0, 24, .inl tb)), (h3, .inl (G.2 0, 24, .inl td))] (fun (_u : Unit) => [(h0, .inr (5, [.ref h1, .ref h2, .ref h3, .int (nI n)])), (h1, .inl (G.2 0, 24, .inl ta)), (h2, .inl (G.2 0, 24, .inl tb)), (h3, .inl (G.2 0, 24, .inl td))])) (pB [(h0, .inr (5, [.ref h1, .ref h2, .ref h3, .int (nI n)])), (h1, .inl (G.2 0, 24, .inl ta)), (h2, .inl (G.2 0, 24, .inl tb)), (h3, .inl (G.2 0, 24, .inl td))])) 0 0 (pB [(h0, .inr (5, [.ref h1, .ref h2, .ref h3, .int (nI n)])), (h1, .inl (G.2 0, 24, .inl ta)), (h2, .inl (G.2 0, 24, .inl tb)), (h3, .inl (G.2 0, 24, .inl td))]) := by
  refine ofCX (G := G) (cc := cX5_aheadOf) (maxL := 2) (ret := (some .int)) (by decide) rfl (Nat.le_of_ble_eq_true rfl) ?_
  intro p e s m below meth c ls C hr hin hD hP hl
  obtain ⟨hx, hb, hml, hown, hts, hlocks, hK⟩ := id C
  have hown : s.vm.findClass RX5 = some m.cls := hown
  have hfl_21 := hts (.fieldLink RX5 21 "AfterDesk$Ties" "size" "I") (by decide +kernel)
  have hin_X5 : ∀ w ∈ wsX50, w ∈ wsX5_aheadOf := by decide +kernel
  have hini_RX7 := hts (.initialized RX7) (by decide +kernel)
  have hst_X7_isWithin := hts (.static yX7_isWithin) (by decide +kernel)
  have hfl_9 := hts (.fieldLink RX5 9 "AfterDesk$Ties" "aheads" "[I") (by decide +kernel)
  generalize hAe : pB [(h0, .inr (5, [.ref h1, .ref h2, .ref h3, .int (nI n)])), (h1, .inl (G.2 0, 24, .inl ta)), (h2, .inl (G.2 0, 24, .inl tb)), (h3, .inl (G.2 0, 24, .inl td))] = A at hD ⊢
  have hS : va_S A s.heap s.heap [] := va_S.rf
  have hP : va_P G.1 vwCl [(h0, .inr (5, [.ref h1, .ref h2, .ref h3, .int (nI n)])), (h1, .inl (G.2 0, 24, .inl ta)), (h2, .inl (G.2 0, 24, .inl tb)), (h3, .inl (G.2 0, 24, .inl td))] s.heap := hP
  have hD : va_D A [(h0, .inr (5, [.ref h1, .ref h2, .ref h3, .int (nI n)])), (h1, .inl (G.2 0, 24, .inl ta)), (h2, .inl (G.2 0, 24, .inl tb)), (h3, .inl (G.2 0, 24, .inl td))] := hD
  have hl : lv_has ls 2 [(0, .ref h0), (1, .int (nI j))] := hl
  refine lv_iload_n hx hb dX5_aheadOf_0 rfl (lv_at hl 1 rfl) ?_
  refine lv_iconst (v := 0) hx hb dX5_aheadOf_1 (by decide) ?_
  refine lv_aload_n hx hb dX5_aheadOf_2 rfl (lv_at hl 0 rfl) ?_
  refine va_get (D := G.1) (ci := 5) (v := .int (nI n)) (C := RX5) (T := TX5) (N := 4) hx hb hts hin_X5 hown hK.1 hP 0 rfl rfl 3 (by decide) hfl_21 (fun _ h9 => h9) rfl dX5_aheadOf_3 ?_
  refine lv_iconst (v := 1) hx hb dX5_aheadOf_6 (by decide) ?_
  refine lv_isub hx hb dX5_aheadOf_7 ?_
  refine xI (S := Unit) (va_runSN (As := [.int (nI j), .int 0, .int ((nI n) - 1)]) (rest := []) ⟨hx, hb, hml, hown, hts⟩ (c_X7_isWithin l G (nI j) 0 ((nI n) - 1)) ⟨va_cnB 3 hts gX5_aheadOf_X7_isWithin_n29 rfl rfl rfl (hK.2.1 _ nst_X5_29) hini_RX7 (by decide +kernel) ⟨Nat.le_of_ble_eq_true rfl, Nat.le_of_ble_eq_true rfl⟩, hst_X7_isWithin, trivial⟩ (pS [.int (nI j), .int 0, .int ((nI n) - 1)] hK (hP.sub (ws' := []) [] rfl) (hD.sub (ws' := []) [] (by decide) rfl)) rfl rfl hl.1 rfl (lv_room (Nat.le_of_ble_eq_true rfl)) dX5_aheadOf_8 ⟨Nat.zero_le _, Nat.zero_le _⟩) hP hD hS [] [0, 1, 2, 3] (wr := [(h0, .inr (5, [.ref h1, .ref h2, .ref h3, .int (nI n)])), (h1, .inl (G.2 0, 24, .inl ta)), (h2, .inl (G.2 0, 24, .inl tb)), (h3, .inl (G.2 0, 24, .inl td))]) rfl rfl (by decide) (by decide) [0, 1, 2, 3] (w2 := fun (_ : Unit) => [(h0, .inr (5, [.ref h1, .ref h2, .ref h3, .int (nI n)])), (h1, .inl (G.2 0, 24, .inl ta)), (h2, .inl (G.2 0, 24, .inl tb)), (h3, .inl (G.2 0, 24, .inl td))]) (fun _ => rfl) (by decide) (fun r_1 u_2 H locs hw_3 hP hD hS => ?_)
  (try dsimp only at hw_3); subst hw_3
  have hP : va_P G.1 vwCl [(h0, .inr (5, [.ref h1, .ref h2, .ref h3, .int (nI n)])), (h1, .inl (G.2 0, 24, .inl ta)), (h2, .inl (G.2 0, 24, .inl tb)), (h3, .inl (G.2 0, 24, .inl td))] H := hP
  have hD : va_D A [(h0, .inr (5, [.ref h1, .ref h2, .ref h3, .int (nI n)])), (h1, .inl (G.2 0, 24, .inl ta)), (h2, .inl (G.2 0, 24, .inl tb)), (h3, .inl (G.2 0, 24, .inl td))] := hD
  refine lv_if_eq (tgt := 23) hx hb dX5_aheadOf_11 (by decide) (fun c_4 => ?_) (fun c_4 => ?_)
  · -- yes: bI (decide (0 ≤ (nI j).toInt ∧ (nI j).toInt ≤ ((nI n) - 1).t eq 0
    have c_4 : ¬ (0 ≤ (nI j).toInt ∧ (nI j).toInt ≤ ((nI n) - 1).toInt) := bD0 c_4
    simp (disch := omega) only [sub1_toInt, nI_toInt] at c_4
    exfalso; omega
  · -- no: bI (decide (0 ≤ (nI j).toInt ∧ (nI j).toInt ≤ ((nI n) - 1).t ne 0
    have c_4 : 0 ≤ (nI j).toInt ∧ (nI j).toInt ≤ ((nI n) - 1).toInt := bD1 c_4
    simp (disch := omega) only [sub1_toInt, nI_toInt] at c_4
    refine lv_aload_n hx hb dX5_aheadOf_14 rfl (lv_at hl 0 rfl) ?_
    refine va_get (D := G.1) (ci := 5) (v := .ref h1) (C := RX5) (T := TX5) (N := 4) hx hb hts hin_X5 hown hK.1 hP 0 rfl rfl 0 (by decide) hfl_9 (fun _ h9 => h9) rfl dX5_aheadOf_15 ?_
    refine lv_iload_n hx hb dX5_aheadOf_18 rfl (lv_at hl 1 rfl) ?_
    refine aIld hx hb hK.1 hP 1 0 rfl rfl (k := j) rfl (by omega) (by decide) dX5_aheadOf_19 ?_
    refine lv_goto (tgt := 24) hx hb dX5_aheadOf_20 (by decide) ?_
    exact rtI C hr hAe (u := ()) hP hD hS dX5_aheadOf_24 rfl

set_option maxHeartbeats 4000000 in
set_option maxRecDepth 100000 in
theorem c_X5_behindOf (l : Launch) (G : gT) (h0 : Nat) (h1 : Nat) (h2 : Nat) (h3 : Nat) (ta : Nat → Int32) (tb : Nat → Int32) (td : Nat → Int32) (n : Nat) (j : Nat) (hn : n ≤ 24) (hj : j < n) : Met l yX5_behindOf wsX5_behindOf ({ frames := 1, cells := 0, slots := 0, locals := 22 }) (cPre G [.ref h0, .int (nI j)] [(h0, .inr (5, [.ref h1, .ref h2, .ref h3, .int (nI n)])), (h1, .inl (G.2 0, 24, .inl ta)), (h2, .inl (G.2 0, 24, .inl tb)), (h3, .inl (G.2 0, 24, .inl td))]) (va_Qi (fun (rv : Int32) (_u : Unit) => rv = tb j) (cW G [(h0, .inr (5, [.ref h1, .ref h2, .ref h3, .int (nI n)])), (h1, .inl (G.2 0, 24, .inl ta)), (h2, .inl (G.2 0, 24, .inl tb)), (h3, .inl (G.2 0, 24, .inl td))] (fun (_u : Unit) => [(h0, .inr (5, [.ref h1, .ref h2, .ref h3, .int (nI n)])), (h1, .inl (G.2 0, 24, .inl ta)), (h2, .inl (G.2 0, 24, .inl tb)), (h3, .inl (G.2 0, 24, .inl td))])) (pB [(h0, .inr (5, [.ref h1, .ref h2, .ref h3, .int (nI n)])), (h1, .inl (G.2 0, 24, .inl ta)), (h2, .inl (G.2 0, 24, .inl tb)), (h3, .inl (G.2 0, 24, .inl td))])) 0 0 (pB [(h0, .inr (5, [.ref h1, .ref h2, .ref h3, .int (nI n)])), (h1, .inl (G.2 0, 24, .inl ta)), (h2, .inl (G.2 0, 24, .inl tb)), (h3, .inl (G.2 0, 24, .inl td))]) := by
  refine ofCX (G := G) (cc := cX5_behindOf) (maxL := 2) (ret := (some .int)) (by decide) rfl (Nat.le_of_ble_eq_true rfl) ?_
  intro p e s m below meth c ls C hr hin hD hP hl
  obtain ⟨hx, hb, hml, hown, hts, hlocks, hK⟩ := id C
  have hown : s.vm.findClass RX5 = some m.cls := hown
  have hfl_21 := hts (.fieldLink RX5 21 "AfterDesk$Ties" "size" "I") (by decide +kernel)
  have hin_X5 : ∀ w ∈ wsX50, w ∈ wsX5_behindOf := by decide +kernel
  have hini_RX7 := hts (.initialized RX7) (by decide +kernel)
  have hst_X7_isWithin := hts (.static yX7_isWithin) (by decide +kernel)
  have hfl_15 := hts (.fieldLink RX5 15 "AfterDesk$Ties" "behinds" "[I") (by decide +kernel)
  generalize hAe : pB [(h0, .inr (5, [.ref h1, .ref h2, .ref h3, .int (nI n)])), (h1, .inl (G.2 0, 24, .inl ta)), (h2, .inl (G.2 0, 24, .inl tb)), (h3, .inl (G.2 0, 24, .inl td))] = A at hD ⊢
  have hS : va_S A s.heap s.heap [] := va_S.rf
  have hP : va_P G.1 vwCl [(h0, .inr (5, [.ref h1, .ref h2, .ref h3, .int (nI n)])), (h1, .inl (G.2 0, 24, .inl ta)), (h2, .inl (G.2 0, 24, .inl tb)), (h3, .inl (G.2 0, 24, .inl td))] s.heap := hP
  have hD : va_D A [(h0, .inr (5, [.ref h1, .ref h2, .ref h3, .int (nI n)])), (h1, .inl (G.2 0, 24, .inl ta)), (h2, .inl (G.2 0, 24, .inl tb)), (h3, .inl (G.2 0, 24, .inl td))] := hD
  have hl : lv_has ls 2 [(0, .ref h0), (1, .int (nI j))] := hl
  refine lv_iload_n hx hb dX5_behindOf_0 rfl (lv_at hl 1 rfl) ?_
  refine lv_iconst (v := 0) hx hb dX5_behindOf_1 (by decide) ?_
  refine lv_aload_n hx hb dX5_behindOf_2 rfl (lv_at hl 0 rfl) ?_
  refine va_get (D := G.1) (ci := 5) (v := .int (nI n)) (C := RX5) (T := TX5) (N := 4) hx hb hts hin_X5 hown hK.1 hP 0 rfl rfl 3 (by decide) hfl_21 (fun _ h9 => h9) rfl dX5_behindOf_3 ?_
  refine lv_iconst (v := 1) hx hb dX5_behindOf_6 (by decide) ?_
  refine lv_isub hx hb dX5_behindOf_7 ?_
  refine xI (S := Unit) (va_runSN (As := [.int (nI j), .int 0, .int ((nI n) - 1)]) (rest := []) ⟨hx, hb, hml, hown, hts⟩ (c_X7_isWithin l G (nI j) 0 ((nI n) - 1)) ⟨va_cnB 3 hts gX5_behindOf_X7_isWithin_n29 rfl rfl rfl (hK.2.1 _ nst_X5_29) hini_RX7 (by decide +kernel) ⟨Nat.le_of_ble_eq_true rfl, Nat.le_of_ble_eq_true rfl⟩, hst_X7_isWithin, trivial⟩ (pS [.int (nI j), .int 0, .int ((nI n) - 1)] hK (hP.sub (ws' := []) [] rfl) (hD.sub (ws' := []) [] (by decide) rfl)) rfl rfl hl.1 rfl (lv_room (Nat.le_of_ble_eq_true rfl)) dX5_behindOf_8 ⟨Nat.zero_le _, Nat.zero_le _⟩) hP hD hS [] [0, 1, 2, 3] (wr := [(h0, .inr (5, [.ref h1, .ref h2, .ref h3, .int (nI n)])), (h1, .inl (G.2 0, 24, .inl ta)), (h2, .inl (G.2 0, 24, .inl tb)), (h3, .inl (G.2 0, 24, .inl td))]) rfl rfl (by decide) (by decide) [0, 1, 2, 3] (w2 := fun (_ : Unit) => [(h0, .inr (5, [.ref h1, .ref h2, .ref h3, .int (nI n)])), (h1, .inl (G.2 0, 24, .inl ta)), (h2, .inl (G.2 0, 24, .inl tb)), (h3, .inl (G.2 0, 24, .inl td))]) (fun _ => rfl) (by decide) (fun r_1 u_2 H locs hw_3 hP hD hS => ?_)
  (try dsimp only at hw_3); subst hw_3
  have hP : va_P G.1 vwCl [(h0, .inr (5, [.ref h1, .ref h2, .ref h3, .int (nI n)])), (h1, .inl (G.2 0, 24, .inl ta)), (h2, .inl (G.2 0, 24, .inl tb)), (h3, .inl (G.2 0, 24, .inl td))] H := hP
  have hD : va_D A [(h0, .inr (5, [.ref h1, .ref h2, .ref h3, .int (nI n)])), (h1, .inl (G.2 0, 24, .inl ta)), (h2, .inl (G.2 0, 24, .inl tb)), (h3, .inl (G.2 0, 24, .inl td))] := hD
  refine lv_if_eq (tgt := 23) hx hb dX5_behindOf_11 (by decide) (fun c_4 => ?_) (fun c_4 => ?_)
  · -- yes: bI (decide (0 ≤ (nI j).toInt ∧ (nI j).toInt ≤ ((nI n) - 1).t eq 0
    have c_4 : ¬ (0 ≤ (nI j).toInt ∧ (nI j).toInt ≤ ((nI n) - 1).toInt) := bD0 c_4
    simp (disch := omega) only [sub1_toInt, nI_toInt] at c_4
    exfalso; omega
  · -- no: bI (decide (0 ≤ (nI j).toInt ∧ (nI j).toInt ≤ ((nI n) - 1).t ne 0
    have c_4 : 0 ≤ (nI j).toInt ∧ (nI j).toInt ≤ ((nI n) - 1).toInt := bD1 c_4
    simp (disch := omega) only [sub1_toInt, nI_toInt] at c_4
    refine lv_aload_n hx hb dX5_behindOf_14 rfl (lv_at hl 0 rfl) ?_
    refine va_get (D := G.1) (ci := 5) (v := .ref h2) (C := RX5) (T := TX5) (N := 4) hx hb hts hin_X5 hown hK.1 hP 0 rfl rfl 1 (by decide) hfl_15 (fun _ h9 => h9) rfl dX5_behindOf_15 ?_
    refine lv_iload_n hx hb dX5_behindOf_18 rfl (lv_at hl 1 rfl) ?_
    refine aIld hx hb hK.1 hP 2 0 rfl rfl (k := j) rfl (by omega) (by decide) dX5_behindOf_19 ?_
    refine lv_goto (tgt := 24) hx hb dX5_behindOf_20 (by decide) ?_
    exact rtI C hr hAe (u := ()) hP hD hS dX5_behindOf_24 rfl

set_option maxHeartbeats 4000000 in
set_option maxRecDepth 100000 in
theorem c_X5_distanceOf (l : Launch) (G : gT) (h0 : Nat) (h1 : Nat) (h2 : Nat) (h3 : Nat) (ta : Nat → Int32) (tb : Nat → Int32) (td : Nat → Int32) (n : Nat) (j : Nat) (hn : n ≤ 24) (hj : j < n) : Met l yX5_distanceOf wsX5_distanceOf ({ frames := 1, cells := 0, slots := 0, locals := 22 }) (cPre G [.ref h0, .int (nI j)] [(h0, .inr (5, [.ref h1, .ref h2, .ref h3, .int (nI n)])), (h1, .inl (G.2 0, 24, .inl ta)), (h2, .inl (G.2 0, 24, .inl tb)), (h3, .inl (G.2 0, 24, .inl td))]) (va_Qi (fun (rv : Int32) (_u : Unit) => rv = td j) (cW G [(h0, .inr (5, [.ref h1, .ref h2, .ref h3, .int (nI n)])), (h1, .inl (G.2 0, 24, .inl ta)), (h2, .inl (G.2 0, 24, .inl tb)), (h3, .inl (G.2 0, 24, .inl td))] (fun (_u : Unit) => [(h0, .inr (5, [.ref h1, .ref h2, .ref h3, .int (nI n)])), (h1, .inl (G.2 0, 24, .inl ta)), (h2, .inl (G.2 0, 24, .inl tb)), (h3, .inl (G.2 0, 24, .inl td))])) (pB [(h0, .inr (5, [.ref h1, .ref h2, .ref h3, .int (nI n)])), (h1, .inl (G.2 0, 24, .inl ta)), (h2, .inl (G.2 0, 24, .inl tb)), (h3, .inl (G.2 0, 24, .inl td))])) 0 0 (pB [(h0, .inr (5, [.ref h1, .ref h2, .ref h3, .int (nI n)])), (h1, .inl (G.2 0, 24, .inl ta)), (h2, .inl (G.2 0, 24, .inl tb)), (h3, .inl (G.2 0, 24, .inl td))]) := by
  refine ofCX (G := G) (cc := cX5_distanceOf) (maxL := 2) (ret := (some .int)) (by decide) rfl (Nat.le_of_ble_eq_true rfl) ?_
  intro p e s m below meth c ls C hr hin hD hP hl
  obtain ⟨hx, hb, hml, hown, hts, hlocks, hK⟩ := id C
  have hown : s.vm.findClass RX5 = some m.cls := hown
  have hfl_21 := hts (.fieldLink RX5 21 "AfterDesk$Ties" "size" "I") (by decide +kernel)
  have hin_X5 : ∀ w ∈ wsX50, w ∈ wsX5_distanceOf := by decide +kernel
  have hini_RX7 := hts (.initialized RX7) (by decide +kernel)
  have hst_X7_isWithin := hts (.static yX7_isWithin) (by decide +kernel)
  have hfl_18 := hts (.fieldLink RX5 18 "AfterDesk$Ties" "distances" "[I") (by decide +kernel)
  generalize hAe : pB [(h0, .inr (5, [.ref h1, .ref h2, .ref h3, .int (nI n)])), (h1, .inl (G.2 0, 24, .inl ta)), (h2, .inl (G.2 0, 24, .inl tb)), (h3, .inl (G.2 0, 24, .inl td))] = A at hD ⊢
  have hS : va_S A s.heap s.heap [] := va_S.rf
  have hP : va_P G.1 vwCl [(h0, .inr (5, [.ref h1, .ref h2, .ref h3, .int (nI n)])), (h1, .inl (G.2 0, 24, .inl ta)), (h2, .inl (G.2 0, 24, .inl tb)), (h3, .inl (G.2 0, 24, .inl td))] s.heap := hP
  have hD : va_D A [(h0, .inr (5, [.ref h1, .ref h2, .ref h3, .int (nI n)])), (h1, .inl (G.2 0, 24, .inl ta)), (h2, .inl (G.2 0, 24, .inl tb)), (h3, .inl (G.2 0, 24, .inl td))] := hD
  have hl : lv_has ls 2 [(0, .ref h0), (1, .int (nI j))] := hl
  refine lv_iload_n hx hb dX5_distanceOf_0 rfl (lv_at hl 1 rfl) ?_
  refine lv_iconst (v := 0) hx hb dX5_distanceOf_1 (by decide) ?_
  refine lv_aload_n hx hb dX5_distanceOf_2 rfl (lv_at hl 0 rfl) ?_
  refine va_get (D := G.1) (ci := 5) (v := .int (nI n)) (C := RX5) (T := TX5) (N := 4) hx hb hts hin_X5 hown hK.1 hP 0 rfl rfl 3 (by decide) hfl_21 (fun _ h9 => h9) rfl dX5_distanceOf_3 ?_
  refine lv_iconst (v := 1) hx hb dX5_distanceOf_6 (by decide) ?_
  refine lv_isub hx hb dX5_distanceOf_7 ?_
  refine xI (S := Unit) (va_runSN (As := [.int (nI j), .int 0, .int ((nI n) - 1)]) (rest := []) ⟨hx, hb, hml, hown, hts⟩ (c_X7_isWithin l G (nI j) 0 ((nI n) - 1)) ⟨va_cnB 3 hts gX5_distanceOf_X7_isWithin_n29 rfl rfl rfl (hK.2.1 _ nst_X5_29) hini_RX7 (by decide +kernel) ⟨Nat.le_of_ble_eq_true rfl, Nat.le_of_ble_eq_true rfl⟩, hst_X7_isWithin, trivial⟩ (pS [.int (nI j), .int 0, .int ((nI n) - 1)] hK (hP.sub (ws' := []) [] rfl) (hD.sub (ws' := []) [] (by decide) rfl)) rfl rfl hl.1 rfl (lv_room (Nat.le_of_ble_eq_true rfl)) dX5_distanceOf_8 ⟨Nat.zero_le _, Nat.zero_le _⟩) hP hD hS [] [0, 1, 2, 3] (wr := [(h0, .inr (5, [.ref h1, .ref h2, .ref h3, .int (nI n)])), (h1, .inl (G.2 0, 24, .inl ta)), (h2, .inl (G.2 0, 24, .inl tb)), (h3, .inl (G.2 0, 24, .inl td))]) rfl rfl (by decide) (by decide) [0, 1, 2, 3] (w2 := fun (_ : Unit) => [(h0, .inr (5, [.ref h1, .ref h2, .ref h3, .int (nI n)])), (h1, .inl (G.2 0, 24, .inl ta)), (h2, .inl (G.2 0, 24, .inl tb)), (h3, .inl (G.2 0, 24, .inl td))]) (fun _ => rfl) (by decide) (fun r_1 u_2 H locs hw_3 hP hD hS => ?_)
  (try dsimp only at hw_3); subst hw_3
  have hP : va_P G.1 vwCl [(h0, .inr (5, [.ref h1, .ref h2, .ref h3, .int (nI n)])), (h1, .inl (G.2 0, 24, .inl ta)), (h2, .inl (G.2 0, 24, .inl tb)), (h3, .inl (G.2 0, 24, .inl td))] H := hP
  have hD : va_D A [(h0, .inr (5, [.ref h1, .ref h2, .ref h3, .int (nI n)])), (h1, .inl (G.2 0, 24, .inl ta)), (h2, .inl (G.2 0, 24, .inl tb)), (h3, .inl (G.2 0, 24, .inl td))] := hD
  refine lv_if_eq (tgt := 23) hx hb dX5_distanceOf_11 (by decide) (fun c_4 => ?_) (fun c_4 => ?_)
  · -- yes: bI (decide (0 ≤ (nI j).toInt ∧ (nI j).toInt ≤ ((nI n) - 1).t eq 0
    have c_4 : ¬ (0 ≤ (nI j).toInt ∧ (nI j).toInt ≤ ((nI n) - 1).toInt) := bD0 c_4
    simp (disch := omega) only [sub1_toInt, nI_toInt] at c_4
    exfalso; omega
  · -- no: bI (decide (0 ≤ (nI j).toInt ∧ (nI j).toInt ≤ ((nI n) - 1).t ne 0
    have c_4 : 0 ≤ (nI j).toInt ∧ (nI j).toInt ≤ ((nI n) - 1).toInt := bD1 c_4
    simp (disch := omega) only [sub1_toInt, nI_toInt] at c_4
    refine lv_aload_n hx hb dX5_distanceOf_14 rfl (lv_at hl 0 rfl) ?_
    refine va_get (D := G.1) (ci := 5) (v := .ref h3) (C := RX5) (T := TX5) (N := 4) hx hb hts hin_X5 hown hK.1 hP 0 rfl rfl 2 (by decide) hfl_18 (fun _ h9 => h9) rfl dX5_distanceOf_15 ?_
    refine lv_iload_n hx hb dX5_distanceOf_18 rfl (lv_at hl 1 rfl) ?_
    refine aIld hx hb hK.1 hP 3 0 rfl rfl (k := j) rfl (by omega) (by decide) dX5_distanceOf_19 ?_
    refine lv_goto (tgt := 24) hx hb dX5_distanceOf_20 (by decide) ?_
    exact rtI C hr hAe (u := ()) hP hD hS dX5_distanceOf_24 rfl

set_option maxHeartbeats 4000000 in
set_option maxRecDepth 100000 in
theorem c_X6_size (l : Launch) (G : gT) (h0 : Nat) (h1 : Nat) (h2 : Nat) (h3 : Nat) (h4 : Nat) (tk : Nat → Int32) (tc : Nat → Int32) (tr : Nat → Int32) (tm : Nat → Int32) (n : Nat) (th : Int32) (te : Int32) : Met l yX6_size wsX6_size ({ frames := 0, cells := 0, slots := 0, locals := 0 }) (cPre G [.ref h0] [(h0, .inr (6, [.ref h1, .ref h2, .ref h3, .ref h4, .int (nI n), .int th, .int te])), (h1, .inl (G.2 0, 12, .inl tk)), (h2, .inl (G.2 0, 12, .inl tc)), (h3, .inl (G.2 0, 12, .inl tr)), (h4, .inl (G.2 0, 12, .inl tm))]) (va_Qi (fun (rv : Int32) (_u : Unit) => rv = nI n) (cW G [(h0, .inr (6, [.ref h1, .ref h2, .ref h3, .ref h4, .int (nI n), .int th, .int te])), (h1, .inl (G.2 0, 12, .inl tk)), (h2, .inl (G.2 0, 12, .inl tc)), (h3, .inl (G.2 0, 12, .inl tr)), (h4, .inl (G.2 0, 12, .inl tm))] (fun (_u : Unit) => [(h0, .inr (6, [.ref h1, .ref h2, .ref h3, .ref h4, .int (nI n), .int th, .int te])), (h1, .inl (G.2 0, 12, .inl tk)), (h2, .inl (G.2 0, 12, .inl tc)), (h3, .inl (G.2 0, 12, .inl tr)), (h4, .inl (G.2 0, 12, .inl tm))])) (pB [(h0, .inr (6, [.ref h1, .ref h2, .ref h3, .ref h4, .int (nI n), .int th, .int te])), (h1, .inl (G.2 0, 12, .inl tk)), (h2, .inl (G.2 0, 12, .inl tc)), (h3, .inl (G.2 0, 12, .inl tr)), (h4, .inl (G.2 0, 12, .inl tm))])) 0 0 (pB [(h0, .inr (6, [.ref h1, .ref h2, .ref h3, .ref h4, .int (nI n), .int th, .int te])), (h1, .inl (G.2 0, 12, .inl tk)), (h2, .inl (G.2 0, 12, .inl tc)), (h3, .inl (G.2 0, 12, .inl tr)), (h4, .inl (G.2 0, 12, .inl tm))]) := by
  refine ofCX (G := G) (cc := cX6_size) (maxL := 1) (ret := (some .int)) (by decide) rfl (Nat.le_of_ble_eq_true rfl) ?_
  intro p e s m below meth c ls C hr hin hD hP hl
  obtain ⟨hx, hb, hml, hown, hts, hlocks, hK⟩ := id C
  have hown : s.vm.findClass RX6 = some m.cls := hown
  have hfl_24 := hts (.fieldLink RX6 24 "AfterDesk$Traces" "size" "I") (by decide +kernel)
  have hin_X6 : ∀ w ∈ wsX60, w ∈ wsX6_size := by decide +kernel
  generalize hAe : pB [(h0, .inr (6, [.ref h1, .ref h2, .ref h3, .ref h4, .int (nI n), .int th, .int te])), (h1, .inl (G.2 0, 12, .inl tk)), (h2, .inl (G.2 0, 12, .inl tc)), (h3, .inl (G.2 0, 12, .inl tr)), (h4, .inl (G.2 0, 12, .inl tm))] = A at hD ⊢
  have hS : va_S A s.heap s.heap [] := va_S.rf
  have hP : va_P G.1 vwCl [(h0, .inr (6, [.ref h1, .ref h2, .ref h3, .ref h4, .int (nI n), .int th, .int te])), (h1, .inl (G.2 0, 12, .inl tk)), (h2, .inl (G.2 0, 12, .inl tc)), (h3, .inl (G.2 0, 12, .inl tr)), (h4, .inl (G.2 0, 12, .inl tm))] s.heap := hP
  have hD : va_D A [(h0, .inr (6, [.ref h1, .ref h2, .ref h3, .ref h4, .int (nI n), .int th, .int te])), (h1, .inl (G.2 0, 12, .inl tk)), (h2, .inl (G.2 0, 12, .inl tc)), (h3, .inl (G.2 0, 12, .inl tr)), (h4, .inl (G.2 0, 12, .inl tm))] := hD
  have hl : lv_has ls 1 [(0, .ref h0)] := hl
  refine lv_aload_n hx hb dX6_size_0 rfl (lv_at hl 0 rfl) ?_
  refine va_get (D := G.1) (ci := 6) (v := .int (nI n)) (C := RX6) (T := TX6) (N := 7) hx hb hts hin_X6 hown hK.1 hP 0 rfl rfl 4 (by decide) hfl_24 (fun _ h9 => h9) rfl dX6_size_1 ?_
  exact rtI C hr hAe (u := ()) hP hD hS dX6_size_4 rfl

set_option maxHeartbeats 4000000 in
set_option maxRecDepth 100000 in
theorem c_X6_isFull (l : Launch) (G : gT) (h0 : Nat) (h1 : Nat) (h2 : Nat) (h3 : Nat) (h4 : Nat) (tk : Nat → Int32) (tc : Nat → Int32) (tr : Nat → Int32) (tm : Nat → Int32) (n : Nat) (th : Int32) (te : Int32) (hn : n ≤ 12) : Met l yX6_isFull wsX6_isFull ({ frames := 0, cells := 0, slots := 0, locals := 0 }) (cPre G [.ref h0] [(h0, .inr (6, [.ref h1, .ref h2, .ref h3, .ref h4, .int (nI n), .int th, .int te])), (h1, .inl (G.2 0, 12, .inl tk)), (h2, .inl (G.2 0, 12, .inl tc)), (h3, .inl (G.2 0, 12, .inl tr)), (h4, .inl (G.2 0, 12, .inl tm))]) (va_Qi (fun (rv : Int32) (_u : Unit) => rv = bI (decide (12 ≤ n))) (cW G [(h0, .inr (6, [.ref h1, .ref h2, .ref h3, .ref h4, .int (nI n), .int th, .int te])), (h1, .inl (G.2 0, 12, .inl tk)), (h2, .inl (G.2 0, 12, .inl tc)), (h3, .inl (G.2 0, 12, .inl tr)), (h4, .inl (G.2 0, 12, .inl tm))] (fun (_u : Unit) => [(h0, .inr (6, [.ref h1, .ref h2, .ref h3, .ref h4, .int (nI n), .int th, .int te])), (h1, .inl (G.2 0, 12, .inl tk)), (h2, .inl (G.2 0, 12, .inl tc)), (h3, .inl (G.2 0, 12, .inl tr)), (h4, .inl (G.2 0, 12, .inl tm))])) (pB [(h0, .inr (6, [.ref h1, .ref h2, .ref h3, .ref h4, .int (nI n), .int th, .int te])), (h1, .inl (G.2 0, 12, .inl tk)), (h2, .inl (G.2 0, 12, .inl tc)), (h3, .inl (G.2 0, 12, .inl tr)), (h4, .inl (G.2 0, 12, .inl tm))])) 0 0 (pB [(h0, .inr (6, [.ref h1, .ref h2, .ref h3, .ref h4, .int (nI n), .int th, .int te])), (h1, .inl (G.2 0, 12, .inl tk)), (h2, .inl (G.2 0, 12, .inl tc)), (h3, .inl (G.2 0, 12, .inl tr)), (h4, .inl (G.2 0, 12, .inl tm))]) := by
  refine ofCX (G := G) (cc := cX6_isFull) (maxL := 1) (ret := (some .boolean)) (by decide) rfl (Nat.le_of_ble_eq_true rfl) ?_
  intro p e s m below meth c ls C hr hin hD hP hl
  obtain ⟨hx, hb, hml, hown, hts, hlocks, hK⟩ := id C
  have hown : s.vm.findClass RX6 = some m.cls := hown
  have hfl_24 := hts (.fieldLink RX6 24 "AfterDesk$Traces" "size" "I") (by decide +kernel)
  have hin_X6 : ∀ w ∈ wsX60, w ∈ wsX6_isFull := by decide +kernel
  generalize hAe : pB [(h0, .inr (6, [.ref h1, .ref h2, .ref h3, .ref h4, .int (nI n), .int th, .int te])), (h1, .inl (G.2 0, 12, .inl tk)), (h2, .inl (G.2 0, 12, .inl tc)), (h3, .inl (G.2 0, 12, .inl tr)), (h4, .inl (G.2 0, 12, .inl tm))] = A at hD ⊢
  have hS : va_S A s.heap s.heap [] := va_S.rf
  have hP : va_P G.1 vwCl [(h0, .inr (6, [.ref h1, .ref h2, .ref h3, .ref h4, .int (nI n), .int th, .int te])), (h1, .inl (G.2 0, 12, .inl tk)), (h2, .inl (G.2 0, 12, .inl tc)), (h3, .inl (G.2 0, 12, .inl tr)), (h4, .inl (G.2 0, 12, .inl tm))] s.heap := hP
  have hD : va_D A [(h0, .inr (6, [.ref h1, .ref h2, .ref h3, .ref h4, .int (nI n), .int th, .int te])), (h1, .inl (G.2 0, 12, .inl tk)), (h2, .inl (G.2 0, 12, .inl tc)), (h3, .inl (G.2 0, 12, .inl tr)), (h4, .inl (G.2 0, 12, .inl tm))] := hD
  have hl : lv_has ls 1 [(0, .ref h0)] := hl
  refine lv_aload_n hx hb dX6_isFull_0 rfl (lv_at hl 0 rfl) ?_
  refine va_get (D := G.1) (ci := 6) (v := .int (nI n)) (C := RX6) (T := TX6) (N := 7) hx hb hts hin_X6 hown hK.1 hP 0 rfl rfl 4 (by decide) hfl_24 (fun _ h9 => h9) rfl dX6_isFull_1 ?_
  refine lv_bipush (v := 12) hx hb dX6_isFull_4 (by decide) ?_
  refine lv_icmp_lt (tgt := 13) hx hb dX6_isFull_6 (by decide) (fun c_1 => ?_) (fun c_1 => ?_)
  · -- yes: nI n lt 12
    have c_1 : n < 12 := (nI_ltI (a := n) (b := 12) (by omega) (by omega)).mp c_1
    refine lv_iconst (v := 0) hx hb dX6_isFull_13 (by decide) ?_
    exact rtZ C hr rfl hAe (u := ()) hP hD hS dX6_isFull_14 (bI_f (by omega))
  · -- no: nI n ge 12
    have c_1 : ¬ n < 12 := fun z => c_1 ((nI_ltI (a := n) (b := 12) (by omega) (by omega)).mpr z)
    refine lv_iconst (v := 1) hx hb dX6_isFull_9 (by decide) ?_
    refine lv_goto (tgt := 14) hx hb dX6_isFull_10 (by decide) ?_
    exact rtZ C hr rfl hAe (u := ()) hP hD hS dX6_isFull_14 (bI_t (by omega))

set_option maxHeartbeats 4000000 in
set_option maxRecDepth 100000 in
theorem c_X6_has (l : Launch) (G : gT) (h0 : Nat) (h1 : Nat) (h2 : Nat) (h3 : Nat) (h4 : Nat) (tk : Nat → Int32) (tc : Nat → Int32) (tr : Nat → Int32) (tm : Nat → Int32) (n : Nat) (th : Int32) (te : Int32) (x : Int32) (hn : n ≤ 12) : Met l yX6_has wsX6_has ({ frames := 1, cells := 0, slots := 0, locals := 22 }) (cPre G [.ref h0, .int x] [(h0, .inr (6, [.ref h1, .ref h2, .ref h3, .ref h4, .int (nI n), .int th, .int te])), (h1, .inl (G.2 0, 12, .inl tk)), (h2, .inl (G.2 0, 12, .inl tc)), (h3, .inl (G.2 0, 12, .inl tr)), (h4, .inl (G.2 0, 12, .inl tm))]) (va_Qi (fun (rv : Int32) (_u : Unit) => rv = bI (decide (0 ≤ x.toInt ∧ x.toInt < (n : Int)))) (cW G [(h0, .inr (6, [.ref h1, .ref h2, .ref h3, .ref h4, .int (nI n), .int th, .int te])), (h1, .inl (G.2 0, 12, .inl tk)), (h2, .inl (G.2 0, 12, .inl tc)), (h3, .inl (G.2 0, 12, .inl tr)), (h4, .inl (G.2 0, 12, .inl tm))] (fun (_u : Unit) => [(h0, .inr (6, [.ref h1, .ref h2, .ref h3, .ref h4, .int (nI n), .int th, .int te])), (h1, .inl (G.2 0, 12, .inl tk)), (h2, .inl (G.2 0, 12, .inl tc)), (h3, .inl (G.2 0, 12, .inl tr)), (h4, .inl (G.2 0, 12, .inl tm))])) (pB [(h0, .inr (6, [.ref h1, .ref h2, .ref h3, .ref h4, .int (nI n), .int th, .int te])), (h1, .inl (G.2 0, 12, .inl tk)), (h2, .inl (G.2 0, 12, .inl tc)), (h3, .inl (G.2 0, 12, .inl tr)), (h4, .inl (G.2 0, 12, .inl tm))])) 0 0 (pB [(h0, .inr (6, [.ref h1, .ref h2, .ref h3, .ref h4, .int (nI n), .int th, .int te])), (h1, .inl (G.2 0, 12, .inl tk)), (h2, .inl (G.2 0, 12, .inl tc)), (h3, .inl (G.2 0, 12, .inl tr)), (h4, .inl (G.2 0, 12, .inl tm))]) := by
  refine ofCX (G := G) (cc := cX6_has) (maxL := 2) (ret := (some .boolean)) (by decide) rfl (Nat.le_of_ble_eq_true rfl) ?_
  intro p e s m below meth c ls C hr hin hD hP hl
  obtain ⟨hx, hb, hml, hown, hts, hlocks, hK⟩ := id C
  have hown : s.vm.findClass RX6 = some m.cls := hown
  have hfl_24 := hts (.fieldLink RX6 24 "AfterDesk$Traces" "size" "I") (by decide +kernel)
  have hin_X6 : ∀ w ∈ wsX60, w ∈ wsX6_has := by decide +kernel
  have hini_RX7 := hts (.initialized RX7) (by decide +kernel)
  have hst_X7_isWithin := hts (.static yX7_isWithin) (by decide +kernel)
  generalize hAe : pB [(h0, .inr (6, [.ref h1, .ref h2, .ref h3, .ref h4, .int (nI n), .int th, .int te])), (h1, .inl (G.2 0, 12, .inl tk)), (h2, .inl (G.2 0, 12, .inl tc)), (h3, .inl (G.2 0, 12, .inl tr)), (h4, .inl (G.2 0, 12, .inl tm))] = A at hD ⊢
  have hS : va_S A s.heap s.heap [] := va_S.rf
  have hP : va_P G.1 vwCl [(h0, .inr (6, [.ref h1, .ref h2, .ref h3, .ref h4, .int (nI n), .int th, .int te])), (h1, .inl (G.2 0, 12, .inl tk)), (h2, .inl (G.2 0, 12, .inl tc)), (h3, .inl (G.2 0, 12, .inl tr)), (h4, .inl (G.2 0, 12, .inl tm))] s.heap := hP
  have hD : va_D A [(h0, .inr (6, [.ref h1, .ref h2, .ref h3, .ref h4, .int (nI n), .int th, .int te])), (h1, .inl (G.2 0, 12, .inl tk)), (h2, .inl (G.2 0, 12, .inl tc)), (h3, .inl (G.2 0, 12, .inl tr)), (h4, .inl (G.2 0, 12, .inl tm))] := hD
  have hl : lv_has ls 2 [(0, .ref h0), (1, .int x)] := hl
  refine lv_iload_n hx hb dX6_has_0 rfl (lv_at hl 1 rfl) ?_
  refine lv_iconst (v := 0) hx hb dX6_has_1 (by decide) ?_
  refine lv_aload_n hx hb dX6_has_2 rfl (lv_at hl 0 rfl) ?_
  refine va_get (D := G.1) (ci := 6) (v := .int (nI n)) (C := RX6) (T := TX6) (N := 7) hx hb hts hin_X6 hown hK.1 hP 0 rfl rfl 4 (by decide) hfl_24 (fun _ h9 => h9) rfl dX6_has_3 ?_
  refine lv_iconst (v := 1) hx hb dX6_has_6 (by decide) ?_
  refine lv_isub hx hb dX6_has_7 ?_
  refine xI (S := Unit) (va_runSN (As := [.int x, .int 0, .int ((nI n) - 1)]) (rest := []) ⟨hx, hb, hml, hown, hts⟩ (c_X7_isWithin l G x 0 ((nI n) - 1)) ⟨va_cnB 3 hts gX6_has_X7_isWithin_n34 rfl rfl rfl (hK.2.1 _ nst_X6_34) hini_RX7 (by decide +kernel) ⟨Nat.le_of_ble_eq_true rfl, Nat.le_of_ble_eq_true rfl⟩, hst_X7_isWithin, trivial⟩ (pS [.int x, .int 0, .int ((nI n) - 1)] hK (hP.sub (ws' := []) [] rfl) (hD.sub (ws' := []) [] (by decide) rfl)) rfl rfl hl.1 rfl (lv_room (Nat.le_of_ble_eq_true rfl)) dX6_has_8 ⟨Nat.zero_le _, Nat.zero_le _⟩) hP hD hS [] [0, 1, 2, 3, 4] (wr := [(h0, .inr (6, [.ref h1, .ref h2, .ref h3, .ref h4, .int (nI n), .int th, .int te])), (h1, .inl (G.2 0, 12, .inl tk)), (h2, .inl (G.2 0, 12, .inl tc)), (h3, .inl (G.2 0, 12, .inl tr)), (h4, .inl (G.2 0, 12, .inl tm))]) rfl rfl (by decide) (by decide) [0, 1, 2, 3, 4] (w2 := fun (_ : Unit) => [(h0, .inr (6, [.ref h1, .ref h2, .ref h3, .ref h4, .int (nI n), .int th, .int te])), (h1, .inl (G.2 0, 12, .inl tk)), (h2, .inl (G.2 0, 12, .inl tc)), (h3, .inl (G.2 0, 12, .inl tr)), (h4, .inl (G.2 0, 12, .inl tm))]) (fun _ => rfl) (by decide) (fun r_1 u_2 H locs hw_3 hP hD hS => ?_)
  (try dsimp only at hw_3); subst hw_3
  have hP : va_P G.1 vwCl [(h0, .inr (6, [.ref h1, .ref h2, .ref h3, .ref h4, .int (nI n), .int th, .int te])), (h1, .inl (G.2 0, 12, .inl tk)), (h2, .inl (G.2 0, 12, .inl tc)), (h3, .inl (G.2 0, 12, .inl tr)), (h4, .inl (G.2 0, 12, .inl tm))] H := hP
  have hD : va_D A [(h0, .inr (6, [.ref h1, .ref h2, .ref h3, .ref h4, .int (nI n), .int th, .int te])), (h1, .inl (G.2 0, 12, .inl tk)), (h2, .inl (G.2 0, 12, .inl tc)), (h3, .inl (G.2 0, 12, .inl tr)), (h4, .inl (G.2 0, 12, .inl tm))] := hD
  exact rtZ C hr (nar_bI _) hAe (u := ()) hP hD hS dX6_has_11 (by rw [sub1_toInt (by omega)]; exact bI_iff ⟨fun z => ⟨z.1, by omega⟩, fun z => ⟨z.1, by omega⟩⟩)

set_option maxHeartbeats 4000000 in
set_option maxRecDepth 100000 in
theorem c_X6_kindOf (l : Launch) (G : gT) (h0 : Nat) (h1 : Nat) (h2 : Nat) (h3 : Nat) (h4 : Nat) (tk : Nat → Int32) (tc : Nat → Int32) (tr : Nat → Int32) (tm : Nat → Int32) (n : Nat) (th : Int32) (te : Int32) (i : Nat) (hn : n ≤ 12) (hi : i < n) : Met l yX6_kindOf wsX6_kindOf ({ frames := 2, cells := 0, slots := 0, locals := 43 }) (cPre G [.ref h0, .int (nI i)] [(h0, .inr (6, [.ref h1, .ref h2, .ref h3, .ref h4, .int (nI n), .int th, .int te])), (h1, .inl (G.2 0, 12, .inl tk)), (h2, .inl (G.2 0, 12, .inl tc)), (h3, .inl (G.2 0, 12, .inl tr)), (h4, .inl (G.2 0, 12, .inl tm))]) (va_Qi (fun (rv : Int32) (_u : Unit) => rv = tk i) (cW G [(h0, .inr (6, [.ref h1, .ref h2, .ref h3, .ref h4, .int (nI n), .int th, .int te])), (h1, .inl (G.2 0, 12, .inl tk)), (h2, .inl (G.2 0, 12, .inl tc)), (h3, .inl (G.2 0, 12, .inl tr)), (h4, .inl (G.2 0, 12, .inl tm))] (fun (_u : Unit) => [(h0, .inr (6, [.ref h1, .ref h2, .ref h3, .ref h4, .int (nI n), .int th, .int te])), (h1, .inl (G.2 0, 12, .inl tk)), (h2, .inl (G.2 0, 12, .inl tc)), (h3, .inl (G.2 0, 12, .inl tr)), (h4, .inl (G.2 0, 12, .inl tm))])) (pB [(h0, .inr (6, [.ref h1, .ref h2, .ref h3, .ref h4, .int (nI n), .int th, .int te])), (h1, .inl (G.2 0, 12, .inl tk)), (h2, .inl (G.2 0, 12, .inl tc)), (h3, .inl (G.2 0, 12, .inl tr)), (h4, .inl (G.2 0, 12, .inl tm))])) 0 0 (pB [(h0, .inr (6, [.ref h1, .ref h2, .ref h3, .ref h4, .int (nI n), .int th, .int te])), (h1, .inl (G.2 0, 12, .inl tk)), (h2, .inl (G.2 0, 12, .inl tc)), (h3, .inl (G.2 0, 12, .inl tr)), (h4, .inl (G.2 0, 12, .inl tm))]) := by
  refine ofCX (G := G) (cc := cX6_kindOf) (maxL := 2) (ret := (some .int)) (by decide) rfl (Nat.le_of_ble_eq_true rfl) ?_
  intro p e s m below meth c ls C hr hin hD hP hl
  obtain ⟨hx, hb, hml, hown, hts, hlocks, hK⟩ := id C
  have hown : s.vm.findClass RX6 = some m.cls := hown
  have hfl_9 := hts (.fieldLink RX6 9 "AfterDesk$Traces" "kinds" "[I") (by decide +kernel)
  have hin_X6 : ∀ w ∈ wsX60, w ∈ wsX6_kindOf := by decide +kernel
  generalize hAe : pB [(h0, .inr (6, [.ref h1, .ref h2, .ref h3, .ref h4, .int (nI n), .int th, .int te])), (h1, .inl (G.2 0, 12, .inl tk)), (h2, .inl (G.2 0, 12, .inl tc)), (h3, .inl (G.2 0, 12, .inl tr)), (h4, .inl (G.2 0, 12, .inl tm))] = A at hD ⊢
  have hS : va_S A s.heap s.heap [] := va_S.rf
  have hP : va_P G.1 vwCl [(h0, .inr (6, [.ref h1, .ref h2, .ref h3, .ref h4, .int (nI n), .int th, .int te])), (h1, .inl (G.2 0, 12, .inl tk)), (h2, .inl (G.2 0, 12, .inl tc)), (h3, .inl (G.2 0, 12, .inl tr)), (h4, .inl (G.2 0, 12, .inl tm))] s.heap := hP
  have hD : va_D A [(h0, .inr (6, [.ref h1, .ref h2, .ref h3, .ref h4, .int (nI n), .int th, .int te])), (h1, .inl (G.2 0, 12, .inl tk)), (h2, .inl (G.2 0, 12, .inl tc)), (h3, .inl (G.2 0, 12, .inl tr)), (h4, .inl (G.2 0, 12, .inl tm))] := hD
  have hl : lv_has ls 2 [(0, .ref h0), (1, .int (nI i))] := hl
  refine lv_aload_n hx hb dX6_kindOf_0 rfl (lv_at hl 0 rfl) ?_
  refine lv_iload_n hx hb dX6_kindOf_1 rfl (lv_at hl 1 rfl) ?_
  refine xI (S := Unit) (va_runV (As := [.int (nI i)]) (rest := []) ⟨hx, hb, hml, hown, hts⟩ (c_X6_has l G h0 h1 h2 h3 h4 tk tc tr tm n th te (nI i) (by first | omega | assumption)) (cwV 1 hts gX6_kindOf_X6_has rfl rfl rfl (by decide +kernel) ⟨Nat.le_of_ble_eq_true rfl, Nat.le_of_ble_eq_true rfl⟩) (pV [.int (nI i)] hK (hP.sub (ws' := [(h0, .inr (6, [.ref h1, .ref h2, .ref h3, .ref h4, .int (nI n), .int th, .int te])), (h1, .inl (G.2 0, 12, .inl tk)), (h2, .inl (G.2 0, 12, .inl tc)), (h3, .inl (G.2 0, 12, .inl tr)), (h4, .inl (G.2 0, 12, .inl tm))]) [0, 1, 2, 3, 4] rfl) (hD.sub (ws' := [(h0, .inr (6, [.ref h1, .ref h2, .ref h3, .ref h4, .int (nI n), .int th, .int te])), (h1, .inl (G.2 0, 12, .inl tk)), (h2, .inl (G.2 0, 12, .inl tc)), (h3, .inl (G.2 0, 12, .inl tr)), (h4, .inl (G.2 0, 12, .inl tm))]) [0, 1, 2, 3, 4] (by decide) rfl) (ci := 6) (q0 := 0) rfl rfl) rfl rfl hl.1 rfl (lv_room (Nat.le_of_ble_eq_true rfl)) dX6_kindOf_2 ⟨Nat.zero_le _, Nat.zero_le _⟩) hP hD hS [0, 1, 2, 3, 4] [] (wr := []) rfl rfl (by decide) (by decide) [0, 1, 2, 3, 4] (w2 := fun (_ : Unit) => [(h0, .inr (6, [.ref h1, .ref h2, .ref h3, .ref h4, .int (nI n), .int th, .int te])), (h1, .inl (G.2 0, 12, .inl tk)), (h2, .inl (G.2 0, 12, .inl tc)), (h3, .inl (G.2 0, 12, .inl tr)), (h4, .inl (G.2 0, 12, .inl tm))]) (fun _ => rfl) (by decide) (fun r_1 u_2 H locs hw_3 hP hD hS => ?_)
  (try dsimp only at hw_3); subst hw_3
  have hP : va_P G.1 vwCl [(h0, .inr (6, [.ref h1, .ref h2, .ref h3, .ref h4, .int (nI n), .int th, .int te])), (h1, .inl (G.2 0, 12, .inl tk)), (h2, .inl (G.2 0, 12, .inl tc)), (h3, .inl (G.2 0, 12, .inl tr)), (h4, .inl (G.2 0, 12, .inl tm))] H := hP
  have hD : va_D A [(h0, .inr (6, [.ref h1, .ref h2, .ref h3, .ref h4, .int (nI n), .int th, .int te])), (h1, .inl (G.2 0, 12, .inl tk)), (h2, .inl (G.2 0, 12, .inl tc)), (h3, .inl (G.2 0, 12, .inl tr)), (h4, .inl (G.2 0, 12, .inl tm))] := hD
  refine lv_if_eq (tgt := 17) hx hb dX6_kindOf_5 (by decide) (fun c_4 => ?_) (fun c_4 => ?_)
  · -- yes: bI (decide (0 ≤ (nI i).toInt ∧ (nI i).toInt < (n : Int))) eq 0
    have c_4 : ¬ (0 ≤ (nI i).toInt ∧ (nI i).toInt < (n : Int)) := bD0 c_4
    simp (disch := omega) only [sub1_toInt, nI_toInt] at c_4
    exfalso; omega
  · -- no: bI (decide (0 ≤ (nI i).toInt ∧ (nI i).toInt < (n : Int))) ne 0
    have c_4 : 0 ≤ (nI i).toInt ∧ (nI i).toInt < (n : Int) := bD1 c_4
    simp (disch := omega) only [sub1_toInt, nI_toInt] at c_4
    refine lv_aload_n hx hb dX6_kindOf_8 rfl (lv_at hl 0 rfl) ?_
    refine va_get (D := G.1) (ci := 6) (v := .ref h1) (C := RX6) (T := TX6) (N := 7) hx hb hts hin_X6 hown hK.1 hP 0 rfl rfl 0 (by decide) hfl_9 (fun _ h9 => h9) rfl dX6_kindOf_9 ?_
    refine lv_iload_n hx hb dX6_kindOf_12 rfl (lv_at hl 1 rfl) ?_
    refine aIld hx hb hK.1 hP 1 0 rfl rfl (k := i) rfl (by omega) (by decide) dX6_kindOf_13 ?_
    refine lv_goto (tgt := 18) hx hb dX6_kindOf_14 (by decide) ?_
    exact rtI C hr hAe (u := ()) hP hD hS dX6_kindOf_18 rfl

set_option maxHeartbeats 4000000 in
set_option maxRecDepth 100000 in
theorem c_X6_clockOf (l : Launch) (G : gT) (h0 : Nat) (h1 : Nat) (h2 : Nat) (h3 : Nat) (h4 : Nat) (tk : Nat → Int32) (tc : Nat → Int32) (tr : Nat → Int32) (tm : Nat → Int32) (n : Nat) (th : Int32) (te : Int32) (i : Nat) (hn : n ≤ 12) (hi : i < n) : Met l yX6_clockOf wsX6_clockOf ({ frames := 2, cells := 0, slots := 0, locals := 43 }) (cPre G [.ref h0, .int (nI i)] [(h0, .inr (6, [.ref h1, .ref h2, .ref h3, .ref h4, .int (nI n), .int th, .int te])), (h1, .inl (G.2 0, 12, .inl tk)), (h2, .inl (G.2 0, 12, .inl tc)), (h3, .inl (G.2 0, 12, .inl tr)), (h4, .inl (G.2 0, 12, .inl tm))]) (va_Qi (fun (rv : Int32) (_u : Unit) => rv = tc i) (cW G [(h0, .inr (6, [.ref h1, .ref h2, .ref h3, .ref h4, .int (nI n), .int th, .int te])), (h1, .inl (G.2 0, 12, .inl tk)), (h2, .inl (G.2 0, 12, .inl tc)), (h3, .inl (G.2 0, 12, .inl tr)), (h4, .inl (G.2 0, 12, .inl tm))] (fun (_u : Unit) => [(h0, .inr (6, [.ref h1, .ref h2, .ref h3, .ref h4, .int (nI n), .int th, .int te])), (h1, .inl (G.2 0, 12, .inl tk)), (h2, .inl (G.2 0, 12, .inl tc)), (h3, .inl (G.2 0, 12, .inl tr)), (h4, .inl (G.2 0, 12, .inl tm))])) (pB [(h0, .inr (6, [.ref h1, .ref h2, .ref h3, .ref h4, .int (nI n), .int th, .int te])), (h1, .inl (G.2 0, 12, .inl tk)), (h2, .inl (G.2 0, 12, .inl tc)), (h3, .inl (G.2 0, 12, .inl tr)), (h4, .inl (G.2 0, 12, .inl tm))])) 0 0 (pB [(h0, .inr (6, [.ref h1, .ref h2, .ref h3, .ref h4, .int (nI n), .int th, .int te])), (h1, .inl (G.2 0, 12, .inl tk)), (h2, .inl (G.2 0, 12, .inl tc)), (h3, .inl (G.2 0, 12, .inl tr)), (h4, .inl (G.2 0, 12, .inl tm))]) := by
  refine ofCX (G := G) (cc := cX6_clockOf) (maxL := 2) (ret := (some .int)) (by decide) rfl (Nat.le_of_ble_eq_true rfl) ?_
  intro p e s m below meth c ls C hr hin hD hP hl
  obtain ⟨hx, hb, hml, hown, hts, hlocks, hK⟩ := id C
  have hown : s.vm.findClass RX6 = some m.cls := hown
  have hfl_15 := hts (.fieldLink RX6 15 "AfterDesk$Traces" "clockNumbers" "[I") (by decide +kernel)
  have hin_X6 : ∀ w ∈ wsX60, w ∈ wsX6_clockOf := by decide +kernel
  generalize hAe : pB [(h0, .inr (6, [.ref h1, .ref h2, .ref h3, .ref h4, .int (nI n), .int th, .int te])), (h1, .inl (G.2 0, 12, .inl tk)), (h2, .inl (G.2 0, 12, .inl tc)), (h3, .inl (G.2 0, 12, .inl tr)), (h4, .inl (G.2 0, 12, .inl tm))] = A at hD ⊢
  have hS : va_S A s.heap s.heap [] := va_S.rf
  have hP : va_P G.1 vwCl [(h0, .inr (6, [.ref h1, .ref h2, .ref h3, .ref h4, .int (nI n), .int th, .int te])), (h1, .inl (G.2 0, 12, .inl tk)), (h2, .inl (G.2 0, 12, .inl tc)), (h3, .inl (G.2 0, 12, .inl tr)), (h4, .inl (G.2 0, 12, .inl tm))] s.heap := hP
  have hD : va_D A [(h0, .inr (6, [.ref h1, .ref h2, .ref h3, .ref h4, .int (nI n), .int th, .int te])), (h1, .inl (G.2 0, 12, .inl tk)), (h2, .inl (G.2 0, 12, .inl tc)), (h3, .inl (G.2 0, 12, .inl tr)), (h4, .inl (G.2 0, 12, .inl tm))] := hD
  have hl : lv_has ls 2 [(0, .ref h0), (1, .int (nI i))] := hl
  refine lv_aload_n hx hb dX6_clockOf_0 rfl (lv_at hl 0 rfl) ?_
  refine lv_iload_n hx hb dX6_clockOf_1 rfl (lv_at hl 1 rfl) ?_
  refine xI (S := Unit) (va_runV (As := [.int (nI i)]) (rest := []) ⟨hx, hb, hml, hown, hts⟩ (c_X6_has l G h0 h1 h2 h3 h4 tk tc tr tm n th te (nI i) (by first | omega | assumption)) (cwV 1 hts gX6_clockOf_X6_has rfl rfl rfl (by decide +kernel) ⟨Nat.le_of_ble_eq_true rfl, Nat.le_of_ble_eq_true rfl⟩) (pV [.int (nI i)] hK (hP.sub (ws' := [(h0, .inr (6, [.ref h1, .ref h2, .ref h3, .ref h4, .int (nI n), .int th, .int te])), (h1, .inl (G.2 0, 12, .inl tk)), (h2, .inl (G.2 0, 12, .inl tc)), (h3, .inl (G.2 0, 12, .inl tr)), (h4, .inl (G.2 0, 12, .inl tm))]) [0, 1, 2, 3, 4] rfl) (hD.sub (ws' := [(h0, .inr (6, [.ref h1, .ref h2, .ref h3, .ref h4, .int (nI n), .int th, .int te])), (h1, .inl (G.2 0, 12, .inl tk)), (h2, .inl (G.2 0, 12, .inl tc)), (h3, .inl (G.2 0, 12, .inl tr)), (h4, .inl (G.2 0, 12, .inl tm))]) [0, 1, 2, 3, 4] (by decide) rfl) (ci := 6) (q0 := 0) rfl rfl) rfl rfl hl.1 rfl (lv_room (Nat.le_of_ble_eq_true rfl)) dX6_clockOf_2 ⟨Nat.zero_le _, Nat.zero_le _⟩) hP hD hS [0, 1, 2, 3, 4] [] (wr := []) rfl rfl (by decide) (by decide) [0, 1, 2, 3, 4] (w2 := fun (_ : Unit) => [(h0, .inr (6, [.ref h1, .ref h2, .ref h3, .ref h4, .int (nI n), .int th, .int te])), (h1, .inl (G.2 0, 12, .inl tk)), (h2, .inl (G.2 0, 12, .inl tc)), (h3, .inl (G.2 0, 12, .inl tr)), (h4, .inl (G.2 0, 12, .inl tm))]) (fun _ => rfl) (by decide) (fun r_1 u_2 H locs hw_3 hP hD hS => ?_)
  (try dsimp only at hw_3); subst hw_3
  have hP : va_P G.1 vwCl [(h0, .inr (6, [.ref h1, .ref h2, .ref h3, .ref h4, .int (nI n), .int th, .int te])), (h1, .inl (G.2 0, 12, .inl tk)), (h2, .inl (G.2 0, 12, .inl tc)), (h3, .inl (G.2 0, 12, .inl tr)), (h4, .inl (G.2 0, 12, .inl tm))] H := hP
  have hD : va_D A [(h0, .inr (6, [.ref h1, .ref h2, .ref h3, .ref h4, .int (nI n), .int th, .int te])), (h1, .inl (G.2 0, 12, .inl tk)), (h2, .inl (G.2 0, 12, .inl tc)), (h3, .inl (G.2 0, 12, .inl tr)), (h4, .inl (G.2 0, 12, .inl tm))] := hD
  refine lv_if_eq (tgt := 17) hx hb dX6_clockOf_5 (by decide) (fun c_4 => ?_) (fun c_4 => ?_)
  · -- yes: bI (decide (0 ≤ (nI i).toInt ∧ (nI i).toInt < (n : Int))) eq 0
    have c_4 : ¬ (0 ≤ (nI i).toInt ∧ (nI i).toInt < (n : Int)) := bD0 c_4
    simp (disch := omega) only [sub1_toInt, nI_toInt] at c_4
    exfalso; omega
  · -- no: bI (decide (0 ≤ (nI i).toInt ∧ (nI i).toInt < (n : Int))) ne 0
    have c_4 : 0 ≤ (nI i).toInt ∧ (nI i).toInt < (n : Int) := bD1 c_4
    simp (disch := omega) only [sub1_toInt, nI_toInt] at c_4
    refine lv_aload_n hx hb dX6_clockOf_8 rfl (lv_at hl 0 rfl) ?_
    refine va_get (D := G.1) (ci := 6) (v := .ref h2) (C := RX6) (T := TX6) (N := 7) hx hb hts hin_X6 hown hK.1 hP 0 rfl rfl 1 (by decide) hfl_15 (fun _ h9 => h9) rfl dX6_clockOf_9 ?_
    refine lv_iload_n hx hb dX6_clockOf_12 rfl (lv_at hl 1 rfl) ?_
    refine aIld hx hb hK.1 hP 2 0 rfl rfl (k := i) rfl (by omega) (by decide) dX6_clockOf_13 ?_
    refine lv_goto (tgt := 18) hx hb dX6_clockOf_14 (by decide) ?_
    exact rtI C hr hAe (u := ()) hP hD hS dX6_clockOf_18 rfl

set_option maxHeartbeats 4000000 in
set_option maxRecDepth 100000 in
theorem c_X6_readingOf (l : Launch) (G : gT) (h0 : Nat) (h1 : Nat) (h2 : Nat) (h3 : Nat) (h4 : Nat) (tk : Nat → Int32) (tc : Nat → Int32) (tr : Nat → Int32) (tm : Nat → Int32) (n : Nat) (th : Int32) (te : Int32) (i : Nat) (hn : n ≤ 12) (hi : i < n) : Met l yX6_readingOf wsX6_readingOf ({ frames := 2, cells := 0, slots := 0, locals := 43 }) (cPre G [.ref h0, .int (nI i)] [(h0, .inr (6, [.ref h1, .ref h2, .ref h3, .ref h4, .int (nI n), .int th, .int te])), (h1, .inl (G.2 0, 12, .inl tk)), (h2, .inl (G.2 0, 12, .inl tc)), (h3, .inl (G.2 0, 12, .inl tr)), (h4, .inl (G.2 0, 12, .inl tm))]) (va_Qi (fun (rv : Int32) (_u : Unit) => rv = tr i) (cW G [(h0, .inr (6, [.ref h1, .ref h2, .ref h3, .ref h4, .int (nI n), .int th, .int te])), (h1, .inl (G.2 0, 12, .inl tk)), (h2, .inl (G.2 0, 12, .inl tc)), (h3, .inl (G.2 0, 12, .inl tr)), (h4, .inl (G.2 0, 12, .inl tm))] (fun (_u : Unit) => [(h0, .inr (6, [.ref h1, .ref h2, .ref h3, .ref h4, .int (nI n), .int th, .int te])), (h1, .inl (G.2 0, 12, .inl tk)), (h2, .inl (G.2 0, 12, .inl tc)), (h3, .inl (G.2 0, 12, .inl tr)), (h4, .inl (G.2 0, 12, .inl tm))])) (pB [(h0, .inr (6, [.ref h1, .ref h2, .ref h3, .ref h4, .int (nI n), .int th, .int te])), (h1, .inl (G.2 0, 12, .inl tk)), (h2, .inl (G.2 0, 12, .inl tc)), (h3, .inl (G.2 0, 12, .inl tr)), (h4, .inl (G.2 0, 12, .inl tm))])) 0 0 (pB [(h0, .inr (6, [.ref h1, .ref h2, .ref h3, .ref h4, .int (nI n), .int th, .int te])), (h1, .inl (G.2 0, 12, .inl tk)), (h2, .inl (G.2 0, 12, .inl tc)), (h3, .inl (G.2 0, 12, .inl tr)), (h4, .inl (G.2 0, 12, .inl tm))]) := by
  refine ofCX (G := G) (cc := cX6_readingOf) (maxL := 2) (ret := (some .int)) (by decide) rfl (Nat.le_of_ble_eq_true rfl) ?_
  intro p e s m below meth c ls C hr hin hD hP hl
  obtain ⟨hx, hb, hml, hown, hts, hlocks, hK⟩ := id C
  have hown : s.vm.findClass RX6 = some m.cls := hown
  have hfl_18 := hts (.fieldLink RX6 18 "AfterDesk$Traces" "readings" "[I") (by decide +kernel)
  have hin_X6 : ∀ w ∈ wsX60, w ∈ wsX6_readingOf := by decide +kernel
  generalize hAe : pB [(h0, .inr (6, [.ref h1, .ref h2, .ref h3, .ref h4, .int (nI n), .int th, .int te])), (h1, .inl (G.2 0, 12, .inl tk)), (h2, .inl (G.2 0, 12, .inl tc)), (h3, .inl (G.2 0, 12, .inl tr)), (h4, .inl (G.2 0, 12, .inl tm))] = A at hD ⊢
  have hS : va_S A s.heap s.heap [] := va_S.rf
  have hP : va_P G.1 vwCl [(h0, .inr (6, [.ref h1, .ref h2, .ref h3, .ref h4, .int (nI n), .int th, .int te])), (h1, .inl (G.2 0, 12, .inl tk)), (h2, .inl (G.2 0, 12, .inl tc)), (h3, .inl (G.2 0, 12, .inl tr)), (h4, .inl (G.2 0, 12, .inl tm))] s.heap := hP
  have hD : va_D A [(h0, .inr (6, [.ref h1, .ref h2, .ref h3, .ref h4, .int (nI n), .int th, .int te])), (h1, .inl (G.2 0, 12, .inl tk)), (h2, .inl (G.2 0, 12, .inl tc)), (h3, .inl (G.2 0, 12, .inl tr)), (h4, .inl (G.2 0, 12, .inl tm))] := hD
  have hl : lv_has ls 2 [(0, .ref h0), (1, .int (nI i))] := hl
  refine lv_aload_n hx hb dX6_readingOf_0 rfl (lv_at hl 0 rfl) ?_
  refine lv_iload_n hx hb dX6_readingOf_1 rfl (lv_at hl 1 rfl) ?_
  refine xI (S := Unit) (va_runV (As := [.int (nI i)]) (rest := []) ⟨hx, hb, hml, hown, hts⟩ (c_X6_has l G h0 h1 h2 h3 h4 tk tc tr tm n th te (nI i) (by first | omega | assumption)) (cwV 1 hts gX6_readingOf_X6_has rfl rfl rfl (by decide +kernel) ⟨Nat.le_of_ble_eq_true rfl, Nat.le_of_ble_eq_true rfl⟩) (pV [.int (nI i)] hK (hP.sub (ws' := [(h0, .inr (6, [.ref h1, .ref h2, .ref h3, .ref h4, .int (nI n), .int th, .int te])), (h1, .inl (G.2 0, 12, .inl tk)), (h2, .inl (G.2 0, 12, .inl tc)), (h3, .inl (G.2 0, 12, .inl tr)), (h4, .inl (G.2 0, 12, .inl tm))]) [0, 1, 2, 3, 4] rfl) (hD.sub (ws' := [(h0, .inr (6, [.ref h1, .ref h2, .ref h3, .ref h4, .int (nI n), .int th, .int te])), (h1, .inl (G.2 0, 12, .inl tk)), (h2, .inl (G.2 0, 12, .inl tc)), (h3, .inl (G.2 0, 12, .inl tr)), (h4, .inl (G.2 0, 12, .inl tm))]) [0, 1, 2, 3, 4] (by decide) rfl) (ci := 6) (q0 := 0) rfl rfl) rfl rfl hl.1 rfl (lv_room (Nat.le_of_ble_eq_true rfl)) dX6_readingOf_2 ⟨Nat.zero_le _, Nat.zero_le _⟩) hP hD hS [0, 1, 2, 3, 4] [] (wr := []) rfl rfl (by decide) (by decide) [0, 1, 2, 3, 4] (w2 := fun (_ : Unit) => [(h0, .inr (6, [.ref h1, .ref h2, .ref h3, .ref h4, .int (nI n), .int th, .int te])), (h1, .inl (G.2 0, 12, .inl tk)), (h2, .inl (G.2 0, 12, .inl tc)), (h3, .inl (G.2 0, 12, .inl tr)), (h4, .inl (G.2 0, 12, .inl tm))]) (fun _ => rfl) (by decide) (fun r_1 u_2 H locs hw_3 hP hD hS => ?_)
  (try dsimp only at hw_3); subst hw_3
  have hP : va_P G.1 vwCl [(h0, .inr (6, [.ref h1, .ref h2, .ref h3, .ref h4, .int (nI n), .int th, .int te])), (h1, .inl (G.2 0, 12, .inl tk)), (h2, .inl (G.2 0, 12, .inl tc)), (h3, .inl (G.2 0, 12, .inl tr)), (h4, .inl (G.2 0, 12, .inl tm))] H := hP
  have hD : va_D A [(h0, .inr (6, [.ref h1, .ref h2, .ref h3, .ref h4, .int (nI n), .int th, .int te])), (h1, .inl (G.2 0, 12, .inl tk)), (h2, .inl (G.2 0, 12, .inl tc)), (h3, .inl (G.2 0, 12, .inl tr)), (h4, .inl (G.2 0, 12, .inl tm))] := hD
  refine lv_if_eq (tgt := 17) hx hb dX6_readingOf_5 (by decide) (fun c_4 => ?_) (fun c_4 => ?_)
  · -- yes: bI (decide (0 ≤ (nI i).toInt ∧ (nI i).toInt < (n : Int))) eq 0
    have c_4 : ¬ (0 ≤ (nI i).toInt ∧ (nI i).toInt < (n : Int)) := bD0 c_4
    simp (disch := omega) only [sub1_toInt, nI_toInt] at c_4
    exfalso; omega
  · -- no: bI (decide (0 ≤ (nI i).toInt ∧ (nI i).toInt < (n : Int))) ne 0
    have c_4 : 0 ≤ (nI i).toInt ∧ (nI i).toInt < (n : Int) := bD1 c_4
    simp (disch := omega) only [sub1_toInt, nI_toInt] at c_4
    refine lv_aload_n hx hb dX6_readingOf_8 rfl (lv_at hl 0 rfl) ?_
    refine va_get (D := G.1) (ci := 6) (v := .ref h3) (C := RX6) (T := TX6) (N := 7) hx hb hts hin_X6 hown hK.1 hP 0 rfl rfl 2 (by decide) hfl_18 (fun _ h9 => h9) rfl dX6_readingOf_9 ?_
    refine lv_iload_n hx hb dX6_readingOf_12 rfl (lv_at hl 1 rfl) ?_
    refine aIld hx hb hK.1 hP 3 0 rfl rfl (k := i) rfl (by omega) (by decide) dX6_readingOf_13 ?_
    refine lv_goto (tgt := 18) hx hb dX6_readingOf_14 (by decide) ?_
    exact rtI C hr hAe (u := ()) hP hD hS dX6_readingOf_18 rfl

set_option maxHeartbeats 4000000 in
set_option maxRecDepth 100000 in
theorem c_X6_markOf (l : Launch) (G : gT) (h0 : Nat) (h1 : Nat) (h2 : Nat) (h3 : Nat) (h4 : Nat) (tk : Nat → Int32) (tc : Nat → Int32) (tr : Nat → Int32) (tm : Nat → Int32) (n : Nat) (th : Int32) (te : Int32) (i : Nat) (hn : n ≤ 12) (hi : i < n) : Met l yX6_markOf wsX6_markOf ({ frames := 2, cells := 0, slots := 0, locals := 43 }) (cPre G [.ref h0, .int (nI i)] [(h0, .inr (6, [.ref h1, .ref h2, .ref h3, .ref h4, .int (nI n), .int th, .int te])), (h1, .inl (G.2 0, 12, .inl tk)), (h2, .inl (G.2 0, 12, .inl tc)), (h3, .inl (G.2 0, 12, .inl tr)), (h4, .inl (G.2 0, 12, .inl tm))]) (va_Qi (fun (rv : Int32) (_u : Unit) => rv = tm i) (cW G [(h0, .inr (6, [.ref h1, .ref h2, .ref h3, .ref h4, .int (nI n), .int th, .int te])), (h1, .inl (G.2 0, 12, .inl tk)), (h2, .inl (G.2 0, 12, .inl tc)), (h3, .inl (G.2 0, 12, .inl tr)), (h4, .inl (G.2 0, 12, .inl tm))] (fun (_u : Unit) => [(h0, .inr (6, [.ref h1, .ref h2, .ref h3, .ref h4, .int (nI n), .int th, .int te])), (h1, .inl (G.2 0, 12, .inl tk)), (h2, .inl (G.2 0, 12, .inl tc)), (h3, .inl (G.2 0, 12, .inl tr)), (h4, .inl (G.2 0, 12, .inl tm))])) (pB [(h0, .inr (6, [.ref h1, .ref h2, .ref h3, .ref h4, .int (nI n), .int th, .int te])), (h1, .inl (G.2 0, 12, .inl tk)), (h2, .inl (G.2 0, 12, .inl tc)), (h3, .inl (G.2 0, 12, .inl tr)), (h4, .inl (G.2 0, 12, .inl tm))])) 0 0 (pB [(h0, .inr (6, [.ref h1, .ref h2, .ref h3, .ref h4, .int (nI n), .int th, .int te])), (h1, .inl (G.2 0, 12, .inl tk)), (h2, .inl (G.2 0, 12, .inl tc)), (h3, .inl (G.2 0, 12, .inl tr)), (h4, .inl (G.2 0, 12, .inl tm))]) := by
  refine ofCX (G := G) (cc := cX6_markOf) (maxL := 2) (ret := (some .int)) (by decide) rfl (Nat.le_of_ble_eq_true rfl) ?_
  intro p e s m below meth c ls C hr hin hD hP hl
  obtain ⟨hx, hb, hml, hown, hts, hlocks, hK⟩ := id C
  have hown : s.vm.findClass RX6 = some m.cls := hown
  have hfl_21 := hts (.fieldLink RX6 21 "AfterDesk$Traces" "marks" "[I") (by decide +kernel)
  have hin_X6 : ∀ w ∈ wsX60, w ∈ wsX6_markOf := by decide +kernel
  generalize hAe : pB [(h0, .inr (6, [.ref h1, .ref h2, .ref h3, .ref h4, .int (nI n), .int th, .int te])), (h1, .inl (G.2 0, 12, .inl tk)), (h2, .inl (G.2 0, 12, .inl tc)), (h3, .inl (G.2 0, 12, .inl tr)), (h4, .inl (G.2 0, 12, .inl tm))] = A at hD ⊢
  have hS : va_S A s.heap s.heap [] := va_S.rf
  have hP : va_P G.1 vwCl [(h0, .inr (6, [.ref h1, .ref h2, .ref h3, .ref h4, .int (nI n), .int th, .int te])), (h1, .inl (G.2 0, 12, .inl tk)), (h2, .inl (G.2 0, 12, .inl tc)), (h3, .inl (G.2 0, 12, .inl tr)), (h4, .inl (G.2 0, 12, .inl tm))] s.heap := hP
  have hD : va_D A [(h0, .inr (6, [.ref h1, .ref h2, .ref h3, .ref h4, .int (nI n), .int th, .int te])), (h1, .inl (G.2 0, 12, .inl tk)), (h2, .inl (G.2 0, 12, .inl tc)), (h3, .inl (G.2 0, 12, .inl tr)), (h4, .inl (G.2 0, 12, .inl tm))] := hD
  have hl : lv_has ls 2 [(0, .ref h0), (1, .int (nI i))] := hl
  refine lv_aload_n hx hb dX6_markOf_0 rfl (lv_at hl 0 rfl) ?_
  refine lv_iload_n hx hb dX6_markOf_1 rfl (lv_at hl 1 rfl) ?_
  refine xI (S := Unit) (va_runV (As := [.int (nI i)]) (rest := []) ⟨hx, hb, hml, hown, hts⟩ (c_X6_has l G h0 h1 h2 h3 h4 tk tc tr tm n th te (nI i) (by first | omega | assumption)) (cwV 1 hts gX6_markOf_X6_has rfl rfl rfl (by decide +kernel) ⟨Nat.le_of_ble_eq_true rfl, Nat.le_of_ble_eq_true rfl⟩) (pV [.int (nI i)] hK (hP.sub (ws' := [(h0, .inr (6, [.ref h1, .ref h2, .ref h3, .ref h4, .int (nI n), .int th, .int te])), (h1, .inl (G.2 0, 12, .inl tk)), (h2, .inl (G.2 0, 12, .inl tc)), (h3, .inl (G.2 0, 12, .inl tr)), (h4, .inl (G.2 0, 12, .inl tm))]) [0, 1, 2, 3, 4] rfl) (hD.sub (ws' := [(h0, .inr (6, [.ref h1, .ref h2, .ref h3, .ref h4, .int (nI n), .int th, .int te])), (h1, .inl (G.2 0, 12, .inl tk)), (h2, .inl (G.2 0, 12, .inl tc)), (h3, .inl (G.2 0, 12, .inl tr)), (h4, .inl (G.2 0, 12, .inl tm))]) [0, 1, 2, 3, 4] (by decide) rfl) (ci := 6) (q0 := 0) rfl rfl) rfl rfl hl.1 rfl (lv_room (Nat.le_of_ble_eq_true rfl)) dX6_markOf_2 ⟨Nat.zero_le _, Nat.zero_le _⟩) hP hD hS [0, 1, 2, 3, 4] [] (wr := []) rfl rfl (by decide) (by decide) [0, 1, 2, 3, 4] (w2 := fun (_ : Unit) => [(h0, .inr (6, [.ref h1, .ref h2, .ref h3, .ref h4, .int (nI n), .int th, .int te])), (h1, .inl (G.2 0, 12, .inl tk)), (h2, .inl (G.2 0, 12, .inl tc)), (h3, .inl (G.2 0, 12, .inl tr)), (h4, .inl (G.2 0, 12, .inl tm))]) (fun _ => rfl) (by decide) (fun r_1 u_2 H locs hw_3 hP hD hS => ?_)
  (try dsimp only at hw_3); subst hw_3
  have hP : va_P G.1 vwCl [(h0, .inr (6, [.ref h1, .ref h2, .ref h3, .ref h4, .int (nI n), .int th, .int te])), (h1, .inl (G.2 0, 12, .inl tk)), (h2, .inl (G.2 0, 12, .inl tc)), (h3, .inl (G.2 0, 12, .inl tr)), (h4, .inl (G.2 0, 12, .inl tm))] H := hP
  have hD : va_D A [(h0, .inr (6, [.ref h1, .ref h2, .ref h3, .ref h4, .int (nI n), .int th, .int te])), (h1, .inl (G.2 0, 12, .inl tk)), (h2, .inl (G.2 0, 12, .inl tc)), (h3, .inl (G.2 0, 12, .inl tr)), (h4, .inl (G.2 0, 12, .inl tm))] := hD
  refine lv_if_eq (tgt := 17) hx hb dX6_markOf_5 (by decide) (fun c_4 => ?_) (fun c_4 => ?_)
  · -- yes: bI (decide (0 ≤ (nI i).toInt ∧ (nI i).toInt < (n : Int))) eq 0
    have c_4 : ¬ (0 ≤ (nI i).toInt ∧ (nI i).toInt < (n : Int)) := bD0 c_4
    simp (disch := omega) only [sub1_toInt, nI_toInt] at c_4
    exfalso; omega
  · -- no: bI (decide (0 ≤ (nI i).toInt ∧ (nI i).toInt < (n : Int))) ne 0
    have c_4 : 0 ≤ (nI i).toInt ∧ (nI i).toInt < (n : Int) := bD1 c_4
    simp (disch := omega) only [sub1_toInt, nI_toInt] at c_4
    refine lv_aload_n hx hb dX6_markOf_8 rfl (lv_at hl 0 rfl) ?_
    refine va_get (D := G.1) (ci := 6) (v := .ref h4) (C := RX6) (T := TX6) (N := 7) hx hb hts hin_X6 hown hK.1 hP 0 rfl rfl 3 (by decide) hfl_21 (fun _ h9 => h9) rfl dX6_markOf_9 ?_
    refine lv_iload_n hx hb dX6_markOf_12 rfl (lv_at hl 1 rfl) ?_
    refine aIld hx hb hK.1 hP 4 0 rfl rfl (k := i) rfl (by omega) (by decide) dX6_markOf_13 ?_
    refine lv_goto (tgt := 18) hx hb dX6_markOf_14 (by decide) ?_
    exact rtI C hr hAe (u := ()) hP hD hS dX6_markOf_18 rfl

set_option maxHeartbeats 4000000 in
set_option maxRecDepth 100000 in
theorem c_X6_marksThere (l : Launch) (G : gT) (h0 : Nat) (h1 : Nat) (h2 : Nat) (h3 : Nat) (h4 : Nat) (tk : Nat → Int32) (tc : Nat → Int32) (tr : Nat → Int32) (tm : Nat → Int32) (n : Nat) (th : Int32) (te : Int32) : Met l yX6_marksThere wsX6_marksThere ({ frames := 0, cells := 0, slots := 0, locals := 0 }) (cPre G [.ref h0] [(h0, .inr (6, [.ref h1, .ref h2, .ref h3, .ref h4, .int (nI n), .int th, .int te])), (h1, .inl (G.2 0, 12, .inl tk)), (h2, .inl (G.2 0, 12, .inl tc)), (h3, .inl (G.2 0, 12, .inl tr)), (h4, .inl (G.2 0, 12, .inl tm))]) (va_Qi (fun (rv : Int32) (_u : Unit) => rv = th) (cW G [(h0, .inr (6, [.ref h1, .ref h2, .ref h3, .ref h4, .int (nI n), .int th, .int te])), (h1, .inl (G.2 0, 12, .inl tk)), (h2, .inl (G.2 0, 12, .inl tc)), (h3, .inl (G.2 0, 12, .inl tr)), (h4, .inl (G.2 0, 12, .inl tm))] (fun (_u : Unit) => [(h0, .inr (6, [.ref h1, .ref h2, .ref h3, .ref h4, .int (nI n), .int th, .int te])), (h1, .inl (G.2 0, 12, .inl tk)), (h2, .inl (G.2 0, 12, .inl tc)), (h3, .inl (G.2 0, 12, .inl tr)), (h4, .inl (G.2 0, 12, .inl tm))])) (pB [(h0, .inr (6, [.ref h1, .ref h2, .ref h3, .ref h4, .int (nI n), .int th, .int te])), (h1, .inl (G.2 0, 12, .inl tk)), (h2, .inl (G.2 0, 12, .inl tc)), (h3, .inl (G.2 0, 12, .inl tr)), (h4, .inl (G.2 0, 12, .inl tm))])) 0 0 (pB [(h0, .inr (6, [.ref h1, .ref h2, .ref h3, .ref h4, .int (nI n), .int th, .int te])), (h1, .inl (G.2 0, 12, .inl tk)), (h2, .inl (G.2 0, 12, .inl tc)), (h3, .inl (G.2 0, 12, .inl tr)), (h4, .inl (G.2 0, 12, .inl tm))]) := by
  refine ofCX (G := G) (cc := cX6_marksThere) (maxL := 1) (ret := (some .int)) (by decide) rfl (Nat.le_of_ble_eq_true rfl) ?_
  intro p e s m below meth c ls C hr hin hD hP hl
  obtain ⟨hx, hb, hml, hown, hts, hlocks, hK⟩ := id C
  have hown : s.vm.findClass RX6 = some m.cls := hown
  have hfl_28 := hts (.fieldLink RX6 28 "AfterDesk$Traces" "there" "I") (by decide +kernel)
  have hin_X6 : ∀ w ∈ wsX60, w ∈ wsX6_marksThere := by decide +kernel
  generalize hAe : pB [(h0, .inr (6, [.ref h1, .ref h2, .ref h3, .ref h4, .int (nI n), .int th, .int te])), (h1, .inl (G.2 0, 12, .inl tk)), (h2, .inl (G.2 0, 12, .inl tc)), (h3, .inl (G.2 0, 12, .inl tr)), (h4, .inl (G.2 0, 12, .inl tm))] = A at hD ⊢
  have hS : va_S A s.heap s.heap [] := va_S.rf
  have hP : va_P G.1 vwCl [(h0, .inr (6, [.ref h1, .ref h2, .ref h3, .ref h4, .int (nI n), .int th, .int te])), (h1, .inl (G.2 0, 12, .inl tk)), (h2, .inl (G.2 0, 12, .inl tc)), (h3, .inl (G.2 0, 12, .inl tr)), (h4, .inl (G.2 0, 12, .inl tm))] s.heap := hP
  have hD : va_D A [(h0, .inr (6, [.ref h1, .ref h2, .ref h3, .ref h4, .int (nI n), .int th, .int te])), (h1, .inl (G.2 0, 12, .inl tk)), (h2, .inl (G.2 0, 12, .inl tc)), (h3, .inl (G.2 0, 12, .inl tr)), (h4, .inl (G.2 0, 12, .inl tm))] := hD
  have hl : lv_has ls 1 [(0, .ref h0)] := hl
  refine lv_aload_n hx hb dX6_marksThere_0 rfl (lv_at hl 0 rfl) ?_
  refine va_get (D := G.1) (ci := 6) (v := .int th) (C := RX6) (T := TX6) (N := 7) hx hb hts hin_X6 hown hK.1 hP 0 rfl rfl 5 (by decide) hfl_28 (fun _ h9 => h9) rfl dX6_marksThere_1 ?_
  exact rtI C hr hAe (u := ()) hP hD hS dX6_marksThere_4 rfl

set_option maxHeartbeats 4000000 in
set_option maxRecDepth 100000 in
theorem c_X6_marksToExplain (l : Launch) (G : gT) (h0 : Nat) (h1 : Nat) (h2 : Nat) (h3 : Nat) (h4 : Nat) (tk : Nat → Int32) (tc : Nat → Int32) (tr : Nat → Int32) (tm : Nat → Int32) (n : Nat) (th : Int32) (te : Int32) : Met l yX6_marksToExplain wsX6_marksToExplain ({ frames := 0, cells := 0, slots := 0, locals := 0 }) (cPre G [.ref h0] [(h0, .inr (6, [.ref h1, .ref h2, .ref h3, .ref h4, .int (nI n), .int th, .int te])), (h1, .inl (G.2 0, 12, .inl tk)), (h2, .inl (G.2 0, 12, .inl tc)), (h3, .inl (G.2 0, 12, .inl tr)), (h4, .inl (G.2 0, 12, .inl tm))]) (va_Qi (fun (rv : Int32) (_u : Unit) => rv = te) (cW G [(h0, .inr (6, [.ref h1, .ref h2, .ref h3, .ref h4, .int (nI n), .int th, .int te])), (h1, .inl (G.2 0, 12, .inl tk)), (h2, .inl (G.2 0, 12, .inl tc)), (h3, .inl (G.2 0, 12, .inl tr)), (h4, .inl (G.2 0, 12, .inl tm))] (fun (_u : Unit) => [(h0, .inr (6, [.ref h1, .ref h2, .ref h3, .ref h4, .int (nI n), .int th, .int te])), (h1, .inl (G.2 0, 12, .inl tk)), (h2, .inl (G.2 0, 12, .inl tc)), (h3, .inl (G.2 0, 12, .inl tr)), (h4, .inl (G.2 0, 12, .inl tm))])) (pB [(h0, .inr (6, [.ref h1, .ref h2, .ref h3, .ref h4, .int (nI n), .int th, .int te])), (h1, .inl (G.2 0, 12, .inl tk)), (h2, .inl (G.2 0, 12, .inl tc)), (h3, .inl (G.2 0, 12, .inl tr)), (h4, .inl (G.2 0, 12, .inl tm))])) 0 0 (pB [(h0, .inr (6, [.ref h1, .ref h2, .ref h3, .ref h4, .int (nI n), .int th, .int te])), (h1, .inl (G.2 0, 12, .inl tk)), (h2, .inl (G.2 0, 12, .inl tc)), (h3, .inl (G.2 0, 12, .inl tr)), (h4, .inl (G.2 0, 12, .inl tm))]) := by
  refine ofCX (G := G) (cc := cX6_marksToExplain) (maxL := 1) (ret := (some .int)) (by decide) rfl (Nat.le_of_ble_eq_true rfl) ?_
  intro p e s m below meth c ls C hr hin hD hP hl
  obtain ⟨hx, hb, hml, hown, hts, hlocks, hK⟩ := id C
  have hown : s.vm.findClass RX6 = some m.cls := hown
  have hfl_31 := hts (.fieldLink RX6 31 "AfterDesk$Traces" "toExplain" "I") (by decide +kernel)
  have hin_X6 : ∀ w ∈ wsX60, w ∈ wsX6_marksToExplain := by decide +kernel
  generalize hAe : pB [(h0, .inr (6, [.ref h1, .ref h2, .ref h3, .ref h4, .int (nI n), .int th, .int te])), (h1, .inl (G.2 0, 12, .inl tk)), (h2, .inl (G.2 0, 12, .inl tc)), (h3, .inl (G.2 0, 12, .inl tr)), (h4, .inl (G.2 0, 12, .inl tm))] = A at hD ⊢
  have hS : va_S A s.heap s.heap [] := va_S.rf
  have hP : va_P G.1 vwCl [(h0, .inr (6, [.ref h1, .ref h2, .ref h3, .ref h4, .int (nI n), .int th, .int te])), (h1, .inl (G.2 0, 12, .inl tk)), (h2, .inl (G.2 0, 12, .inl tc)), (h3, .inl (G.2 0, 12, .inl tr)), (h4, .inl (G.2 0, 12, .inl tm))] s.heap := hP
  have hD : va_D A [(h0, .inr (6, [.ref h1, .ref h2, .ref h3, .ref h4, .int (nI n), .int th, .int te])), (h1, .inl (G.2 0, 12, .inl tk)), (h2, .inl (G.2 0, 12, .inl tc)), (h3, .inl (G.2 0, 12, .inl tr)), (h4, .inl (G.2 0, 12, .inl tm))] := hD
  have hl : lv_has ls 1 [(0, .ref h0)] := hl
  refine lv_aload_n hx hb dX6_marksToExplain_0 rfl (lv_at hl 0 rfl) ?_
  refine va_get (D := G.1) (ci := 6) (v := .int te) (C := RX6) (T := TX6) (N := 7) hx hb hts hin_X6 hown hK.1 hP 0 rfl rfl 6 (by decide) hfl_31 (fun _ h9 => h9) rfl dX6_marksToExplain_1 ?_
  exact rtI C hr hAe (u := ()) hP hD hS dX6_marksToExplain_4 rfl

set_option maxHeartbeats 4000000 in
set_option maxRecDepth 100000 in
theorem lp_X6_noteMarks_12 {p : Program} {l : Launch} {e : Env} {R : Room} {s : State} {m : MethodId} {args : Array Value} {below : List Frame} {meth : Method} {c : Code} {A : Nat → Prop} {H0 : Heap} {Q : State → Prop} {G : gT} (C : CX p s m meth c args cX6_noteMarks 2 RX6 wsX6_noteMarks G) (h0 : Nat) (h1 : Nat) (h2 : Nat) (h3 : Nat) (h4 : Nat) (tk : Nat → Int32) (tc : Nat → Int32) (tr : Nat → Int32) (tm : Nat → Int32) (n : Nat) (hn : n ≤ 12) (hk : ∀ (H : Heap) (locs : List Loc) (ls : Array Slot), va_P G.1 vwCl [(h0, .inr (6, [.ref h1, .ref h2, .ref h3, .ref h4, .int (nI n), .int (thOf tm n), .int (teOf tk tm n)])), (h1, .inl (G.2 0, 12, .inl tk)), (h2, .inl (G.2 0, 12, .inl tc)), (h3, .inl (G.2 0, 12, .inl tr)), (h4, .inl (G.2 0, 12, .inl tm))] H → va_D A [(h0, .inr (6, [.ref h1, .ref h2, .ref h3, .ref h4, .int (nI n), .int (thOf tm n), .int (teOf tk tm n)])), (h1, .inl (G.2 0, 12, .inl tk)), (h2, .inl (G.2 0, 12, .inl tc)), (h3, .inl (G.2 0, 12, .inl tr)), (h4, .inl (G.2 0, 12, .inl tm))] → va_S A H0 H locs → lv_has ls 2 [(0, .ref h0), (1, .int (nI n))] → W p l e R s m args below meth c H locs 0 0 Q (F0 m 70 ls [])) : ∀ (fu k : Nat) (th : Int32) (te : Int32), k ≤ n → n - k < fu → th = thOf tm k → te = teOf tk tm k → ∀ (H : Heap) (locs : List Loc) (ls : Array Slot), va_P G.1 vwCl [(h0, .inr (6, [.ref h1, .ref h2, .ref h3, .ref h4, .int (nI n), .int th, .int te])), (h1, .inl (G.2 0, 12, .inl tk)), (h2, .inl (G.2 0, 12, .inl tc)), (h3, .inl (G.2 0, 12, .inl tr)), (h4, .inl (G.2 0, 12, .inl tm))] H → va_D A [(h0, .inr (6, [.ref h1, .ref h2, .ref h3, .ref h4, .int (nI n), .int th, .int te])), (h1, .inl (G.2 0, 12, .inl tk)), (h2, .inl (G.2 0, 12, .inl tc)), (h3, .inl (G.2 0, 12, .inl tr)), (h4, .inl (G.2 0, 12, .inl tm))] → va_S A H0 H locs → lv_has ls 2 [(0, .ref h0), (1, .int (nI k))] → W p l e R s m args below meth c H locs 0 0 Q (F0 m 12 ls []) := by
  obtain ⟨hx, hb, hml, hown, hts, hlocks, hK⟩ := id C
  have hfl_24 := hts (.fieldLink RX6 24 "AfterDesk$Traces" "size" "I") (by decide +kernel)
  have hin_X6 : ∀ w ∈ wsX60, w ∈ wsX6_noteMarks := by decide +kernel
  have hfl_28 := hts (.fieldLink RX6 28 "AfterDesk$Traces" "there" "I") (by decide +kernel)
  have hfl_21 := hts (.fieldLink RX6 21 "AfterDesk$Traces" "marks" "[I") (by decide +kernel)
  have hfl_9 := hts (.fieldLink RX6 9 "AfterDesk$Traces" "kinds" "[I") (by decide +kernel)
  have hfl_31 := hts (.fieldLink RX6 31 "AfterDesk$Traces" "toExplain" "I") (by decide +kernel)
  intro fu
  induction fu with
  | zero =>
    intro k th te h1 h2
    exact absurd h2 (by omega)
  | succ fu ih =>
    intro k th te hkle hkn e_th e_te  H locs ls hP hD hS hl
    subst e_th
    subst e_te
    refine lv_iload_n hx hb dX6_noteMarks_12 rfl (lv_at hl 1 rfl) ?_
    refine lv_aload_n hx hb dX6_noteMarks_13 rfl (lv_at hl 0 rfl) ?_
    refine va_get (D := G.1) (ci := 6) (v := .int (nI n)) (C := RX6) (T := TX6) (N := 7) hx hb hts hin_X6 hown hK.1 hP 0 rfl rfl 4 (by decide) hfl_24 (fun _ h9 => h9) rfl dX6_noteMarks_14 ?_
    refine lv_icmp_ge (tgt := 70) hx hb dX6_noteMarks_17 (by decide) (fun c_1 => ?_) (fun c_1 => ?_)
    · -- yes: nI k ge nI n
      have c_1 : n ≤ k := (nI_leI (a := n) (b := k) (by omega) (by omega)).mp c_1
      have hkN : k = n := by omega
      subst hkN
      exact hk  _ _ _ hP hD hS (lv_sub hl [0, 1] rfl)
    · -- no: nI k lt nI n
      have c_1 : ¬ n ≤ k := fun z => c_1 ((nI_leI (a := n) (b := k) (by omega) (by omega)).mpr z)
      refine lv_aload_n hx hb dX6_noteMarks_20 rfl (lv_at hl 0 rfl) ?_
      refine lv_dup hx hb dX6_noteMarks_21 rfl ?_
      refine va_get (D := G.1) (ci := 6) (v := .int (thOf tm k)) (C := RX6) (T := TX6) (N := 7) hx hb hts hin_X6 hown hK.1 hP 0 rfl rfl 5 (by decide) hfl_28 (fun _ h9 => h9) rfl dX6_noteMarks_22 ?_
      refine lv_iconst (v := 1) hx hb dX6_noteMarks_25 (by decide) ?_
      refine lv_aload_n hx hb dX6_noteMarks_26 rfl (lv_at hl 0 rfl) ?_
      refine va_get (D := G.1) (ci := 6) (v := .ref h4) (C := RX6) (T := TX6) (N := 7) hx hb hts hin_X6 hown hK.1 hP 0 rfl rfl 3 (by decide) hfl_21 (fun _ h9 => h9) rfl dX6_noteMarks_27 ?_
      refine lv_iload_n hx hb dX6_noteMarks_30 rfl (lv_at hl 1 rfl) ?_
      refine aIld hx hb hK.1 hP 4 0 rfl rfl (k := k) rfl (by omega) (by decide) dX6_noteMarks_31 ?_
      refine lv_ishl hx hb dX6_noteMarks_32 ?_
      refine lv_ior hx hb dX6_noteMarks_33 ?_
      refine va_put (D := G.1) (ci := 6) (v := .int ((thOf tm k) ||| (1 <<< ((tm k) &&& 31)))) (ty := .int) (C := RX6) (T := TX6) (N := 7) hx hb hts hin_X6 tyX6 tyX6_ok nmX6 hown hK.1 hP hD hS 0 rfl rfl 5 (by decide) hfl_28 (fun _ h9 => h9) rfl (by decide +kernel) rfl rfl (Nat.le_of_ble_eq_true rfl) dX6_noteMarks_34 (fun H locs hP hD hS => ?_)
      have hP : va_P G.1 vwCl [(h0, .inr (6, [.ref h1, .ref h2, .ref h3, .ref h4, .int (nI n), .int ((thOf tm k) ||| (1 <<< ((tm k) &&& 31))), .int (teOf tk tm k)])), (h1, .inl (G.2 0, 12, .inl tk)), (h2, .inl (G.2 0, 12, .inl tc)), (h3, .inl (G.2 0, 12, .inl tr)), (h4, .inl (G.2 0, 12, .inl tm))] H := hP
      have hD : va_D A [(h0, .inr (6, [.ref h1, .ref h2, .ref h3, .ref h4, .int (nI n), .int ((thOf tm k) ||| (1 <<< ((tm k) &&& 31))), .int (teOf tk tm k)])), (h1, .inl (G.2 0, 12, .inl tk)), (h2, .inl (G.2 0, 12, .inl tc)), (h3, .inl (G.2 0, 12, .inl tr)), (h4, .inl (G.2 0, 12, .inl tm))] := hD
      refine lv_aload_n hx hb dX6_noteMarks_37 rfl (lv_at hl 0 rfl) ?_
      refine va_get (D := G.1) (ci := 6) (v := .ref h1) (C := RX6) (T := TX6) (N := 7) hx hb hts hin_X6 hown hK.1 hP 0 rfl rfl 0 (by decide) hfl_9 (fun _ h9 => h9) rfl dX6_noteMarks_38 ?_
      refine lv_iload_n hx hb dX6_noteMarks_41 rfl (lv_at hl 1 rfl) ?_
      refine aIld hx hb hK.1 hP 1 0 rfl rfl (k := k) rfl (by omega) (by decide) dX6_noteMarks_42 ?_
      refine lv_iconst (v := 2) hx hb dX6_noteMarks_43 (by decide) ?_
      refine lv_icmp_eq (tgt := 64) hx hb dX6_noteMarks_44 (by decide) (fun c_2 => ?_) (fun c_2 => ?_)
      · -- yes: tk k eq 2
        refine lv_iinc (v := nI (k + 1)) (lv' := [(1, .int (nI (k + 1))), (0, .ref h0)]) hx hb dX6_noteMarks_64 hl (k := 1) rfl (nI_inc _) (by decide) rfl (fun ls hl => ?_)
        refine lv_goto (tgt := 12) hx hb dX6_noteMarks_67 (by decide) ?_
        exact ih (k + 1) ((thOf tm k) ||| (1 <<< ((tm k) &&& 31))) (teOf tk tm k) (by omega) (by omega) rfl (by rw [teOf_s]; first | rw [if_pos (by assumption)] | rw [if_neg (by assumption)])  _ _ _ hP hD hS (lv_sub hl [1, 0] rfl)
      · -- no: tk k ne 2
        refine lv_aload_n hx hb dX6_noteMarks_47 rfl (lv_at hl 0 rfl) ?_
        refine lv_dup hx hb dX6_noteMarks_48 rfl ?_
        refine va_get (D := G.1) (ci := 6) (v := .int (teOf tk tm k)) (C := RX6) (T := TX6) (N := 7) hx hb hts hin_X6 hown hK.1 hP 0 rfl rfl 6 (by decide) hfl_31 (fun _ h9 => h9) rfl dX6_noteMarks_49 ?_
        refine lv_iconst (v := 1) hx hb dX6_noteMarks_52 (by decide) ?_
        refine lv_aload_n hx hb dX6_noteMarks_53 rfl (lv_at hl 0 rfl) ?_
        refine va_get (D := G.1) (ci := 6) (v := .ref h4) (C := RX6) (T := TX6) (N := 7) hx hb hts hin_X6 hown hK.1 hP 0 rfl rfl 3 (by decide) hfl_21 (fun _ h9 => h9) rfl dX6_noteMarks_54 ?_
        refine lv_iload_n hx hb dX6_noteMarks_57 rfl (lv_at hl 1 rfl) ?_
        refine aIld hx hb hK.1 hP 4 0 rfl rfl (k := k) rfl (by omega) (by decide) dX6_noteMarks_58 ?_
        refine lv_ishl hx hb dX6_noteMarks_59 ?_
        refine lv_ior hx hb dX6_noteMarks_60 ?_
        refine va_put (D := G.1) (ci := 6) (v := .int ((teOf tk tm k) ||| (1 <<< ((tm k) &&& 31)))) (ty := .int) (C := RX6) (T := TX6) (N := 7) hx hb hts hin_X6 tyX6 tyX6_ok nmX6 hown hK.1 hP hD hS 0 rfl rfl 6 (by decide) hfl_31 (fun _ h9 => h9) rfl (by decide +kernel) rfl rfl (Nat.le_of_ble_eq_true rfl) dX6_noteMarks_61 (fun H locs hP hD hS => ?_)
        have hP : va_P G.1 vwCl [(h0, .inr (6, [.ref h1, .ref h2, .ref h3, .ref h4, .int (nI n), .int ((thOf tm k) ||| (1 <<< ((tm k) &&& 31))), .int ((teOf tk tm k) ||| (1 <<< ((tm k) &&& 31)))])), (h1, .inl (G.2 0, 12, .inl tk)), (h2, .inl (G.2 0, 12, .inl tc)), (h3, .inl (G.2 0, 12, .inl tr)), (h4, .inl (G.2 0, 12, .inl tm))] H := hP
        have hD : va_D A [(h0, .inr (6, [.ref h1, .ref h2, .ref h3, .ref h4, .int (nI n), .int ((thOf tm k) ||| (1 <<< ((tm k) &&& 31))), .int ((teOf tk tm k) ||| (1 <<< ((tm k) &&& 31)))])), (h1, .inl (G.2 0, 12, .inl tk)), (h2, .inl (G.2 0, 12, .inl tc)), (h3, .inl (G.2 0, 12, .inl tr)), (h4, .inl (G.2 0, 12, .inl tm))] := hD
        refine lv_iinc (v := nI (k + 1)) (lv' := [(1, .int (nI (k + 1))), (0, .ref h0)]) hx hb dX6_noteMarks_64 hl (k := 1) rfl (nI_inc _) (by decide) rfl (fun ls hl => ?_)
        refine lv_goto (tgt := 12) hx hb dX6_noteMarks_67 (by decide) ?_
        exact ih (k + 1) ((thOf tm k) ||| (1 <<< ((tm k) &&& 31))) ((teOf tk tm k) ||| (1 <<< ((tm k) &&& 31))) (by omega) (by omega) rfl (by rw [teOf_s]; first | rw [if_pos (by assumption)] | rw [if_neg (by assumption)])  _ _ _ hP hD hS (lv_sub hl [1, 0] rfl)

set_option maxHeartbeats 4000000 in
set_option maxRecDepth 100000 in
theorem c_X6_noteMarks (l : Launch) (G : gT) (h0 : Nat) (h1 : Nat) (h2 : Nat) (h3 : Nat) (h4 : Nat) (tk : Nat → Int32) (tc : Nat → Int32) (tr : Nat → Int32) (tm : Nat → Int32) (n : Nat) (th : Int32) (te : Int32) (hn : n ≤ 12) : Met l yX6_noteMarks wsX6_noteMarks ({ frames := 0, cells := 0, slots := 0, locals := 0 }) (cPre G [.ref h0] [(h0, .inr (6, [.ref h1, .ref h2, .ref h3, .ref h4, .int (nI n), .int th, .int te])), (h1, .inl (G.2 0, 12, .inl tk)), (h2, .inl (G.2 0, 12, .inl tc)), (h3, .inl (G.2 0, 12, .inl tr)), (h4, .inl (G.2 0, 12, .inl tm))]) (va_Qv (fun (u : Int32 × Int32) => u.1 = thOf tm n ∧ u.2 = teOf tk tm n) (cW G [(h0, .inr (6, [.ref h1, .ref h2, .ref h3, .ref h4, .int (nI n), .int th, .int te])), (h1, .inl (G.2 0, 12, .inl tk)), (h2, .inl (G.2 0, 12, .inl tc)), (h3, .inl (G.2 0, 12, .inl tr)), (h4, .inl (G.2 0, 12, .inl tm))] (fun (u : Int32 × Int32) => [(h0, .inr (6, [.ref h1, .ref h2, .ref h3, .ref h4, .int (nI n), .int u.1, .int u.2])), (h1, .inl (G.2 0, 12, .inl tk)), (h2, .inl (G.2 0, 12, .inl tc)), (h3, .inl (G.2 0, 12, .inl tr)), (h4, .inl (G.2 0, 12, .inl tm))])) (pB [(h0, .inr (6, [.ref h1, .ref h2, .ref h3, .ref h4, .int (nI n), .int th, .int te])), (h1, .inl (G.2 0, 12, .inl tk)), (h2, .inl (G.2 0, 12, .inl tc)), (h3, .inl (G.2 0, 12, .inl tr)), (h4, .inl (G.2 0, 12, .inl tm))])) 0 0 (pB [(h0, .inr (6, [.ref h1, .ref h2, .ref h3, .ref h4, .int (nI n), .int th, .int te])), (h1, .inl (G.2 0, 12, .inl tk)), (h2, .inl (G.2 0, 12, .inl tc)), (h3, .inl (G.2 0, 12, .inl tr)), (h4, .inl (G.2 0, 12, .inl tm))]) := by
  refine ofCX (G := G) (cc := cX6_noteMarks) (maxL := 2) (ret := none) (by decide) rfl (Nat.le_of_ble_eq_true rfl) ?_
  intro p e s m below meth c ls C hr hin hD hP hl
  obtain ⟨hx, hb, hml, hown, hts, hlocks, hK⟩ := id C
  have hown : s.vm.findClass RX6 = some m.cls := hown
  have hfl_28 := hts (.fieldLink RX6 28 "AfterDesk$Traces" "there" "I") (by decide +kernel)
  have hin_X6 : ∀ w ∈ wsX60, w ∈ wsX6_noteMarks := by decide +kernel
  have hfl_31 := hts (.fieldLink RX6 31 "AfterDesk$Traces" "toExplain" "I") (by decide +kernel)
  generalize hAe : pB [(h0, .inr (6, [.ref h1, .ref h2, .ref h3, .ref h4, .int (nI n), .int th, .int te])), (h1, .inl (G.2 0, 12, .inl tk)), (h2, .inl (G.2 0, 12, .inl tc)), (h3, .inl (G.2 0, 12, .inl tr)), (h4, .inl (G.2 0, 12, .inl tm))] = A at hD ⊢
  have hS : va_S A s.heap s.heap [] := va_S.rf
  have hP : va_P G.1 vwCl [(h0, .inr (6, [.ref h1, .ref h2, .ref h3, .ref h4, .int (nI n), .int th, .int te])), (h1, .inl (G.2 0, 12, .inl tk)), (h2, .inl (G.2 0, 12, .inl tc)), (h3, .inl (G.2 0, 12, .inl tr)), (h4, .inl (G.2 0, 12, .inl tm))] s.heap := hP
  have hD : va_D A [(h0, .inr (6, [.ref h1, .ref h2, .ref h3, .ref h4, .int (nI n), .int th, .int te])), (h1, .inl (G.2 0, 12, .inl tk)), (h2, .inl (G.2 0, 12, .inl tc)), (h3, .inl (G.2 0, 12, .inl tr)), (h4, .inl (G.2 0, 12, .inl tm))] := hD
  have hl : lv_has ls 2 [(0, .ref h0)] := hl
  refine lv_aload_n hx hb dX6_noteMarks_0 rfl (lv_at hl 0 rfl) ?_
  refine lv_iconst (v := 0) hx hb dX6_noteMarks_1 (by decide) ?_
  refine va_put (D := G.1) (ci := 6) (v := .int 0) (ty := .int) (C := RX6) (T := TX6) (N := 7) hx hb hts hin_X6 tyX6 tyX6_ok nmX6 hown hK.1 hP hD hS 0 rfl rfl 5 (by decide) hfl_28 (fun _ h9 => h9) rfl (by decide +kernel) rfl rfl (Nat.le_of_ble_eq_true rfl) dX6_noteMarks_2 (fun H locs hP hD hS => ?_)
  have hP : va_P G.1 vwCl [(h0, .inr (6, [.ref h1, .ref h2, .ref h3, .ref h4, .int (nI n), .int 0, .int te])), (h1, .inl (G.2 0, 12, .inl tk)), (h2, .inl (G.2 0, 12, .inl tc)), (h3, .inl (G.2 0, 12, .inl tr)), (h4, .inl (G.2 0, 12, .inl tm))] H := hP
  have hD : va_D A [(h0, .inr (6, [.ref h1, .ref h2, .ref h3, .ref h4, .int (nI n), .int 0, .int te])), (h1, .inl (G.2 0, 12, .inl tk)), (h2, .inl (G.2 0, 12, .inl tc)), (h3, .inl (G.2 0, 12, .inl tr)), (h4, .inl (G.2 0, 12, .inl tm))] := hD
  refine lv_aload_n hx hb dX6_noteMarks_5 rfl (lv_at hl 0 rfl) ?_
  refine lv_iconst (v := 0) hx hb dX6_noteMarks_6 (by decide) ?_
  refine va_put (D := G.1) (ci := 6) (v := .int 0) (ty := .int) (C := RX6) (T := TX6) (N := 7) hx hb hts hin_X6 tyX6 tyX6_ok nmX6 hown hK.1 hP hD hS 0 rfl rfl 6 (by decide) hfl_31 (fun _ h9 => h9) rfl (by decide +kernel) rfl rfl (Nat.le_of_ble_eq_true rfl) dX6_noteMarks_7 (fun H locs hP hD hS => ?_)
  have hP : va_P G.1 vwCl [(h0, .inr (6, [.ref h1, .ref h2, .ref h3, .ref h4, .int (nI n), .int 0, .int 0])), (h1, .inl (G.2 0, 12, .inl tk)), (h2, .inl (G.2 0, 12, .inl tc)), (h3, .inl (G.2 0, 12, .inl tr)), (h4, .inl (G.2 0, 12, .inl tm))] H := hP
  have hD : va_D A [(h0, .inr (6, [.ref h1, .ref h2, .ref h3, .ref h4, .int (nI n), .int 0, .int 0])), (h1, .inl (G.2 0, 12, .inl tk)), (h2, .inl (G.2 0, 12, .inl tc)), (h3, .inl (G.2 0, 12, .inl tr)), (h4, .inl (G.2 0, 12, .inl tm))] := hD
  refine lv_iconst (v := 0) hx hb dX6_noteMarks_10 (by decide) ?_
  refine lv_istore_n (lv' := [(1, .int 0), (0, .ref h0)]) hx hb dX6_noteMarks_11 rfl hl (by decide) rfl (fun ls hl => ?_)
  refine lp_X6_noteMarks_12 C h0 h1 h2 h3 h4 tk tc tr tm n (by first | omega | assumption) (fun  H locs ls hP hD hS hl => ?_) (n + 1) 0 0 0 (by omega) (by omega) rfl rfl  _ _ _ hP hD hS (lv_sub hl [1, 0] rfl)
  have hP : va_P G.1 vwCl [(h0, .inr (6, [.ref h1, .ref h2, .ref h3, .ref h4, .int (nI n), .int (thOf tm n), .int (teOf tk tm n)])), (h1, .inl (G.2 0, 12, .inl tk)), (h2, .inl (G.2 0, 12, .inl tc)), (h3, .inl (G.2 0, 12, .inl tr)), (h4, .inl (G.2 0, 12, .inl tm))] H := hP
  have hD : va_D A [(h0, .inr (6, [.ref h1, .ref h2, .ref h3, .ref h4, .int (nI n), .int (thOf tm n), .int (teOf tk tm n)])), (h1, .inl (G.2 0, 12, .inl tk)), (h2, .inl (G.2 0, 12, .inl tc)), (h3, .inl (G.2 0, 12, .inl tr)), (h4, .inl (G.2 0, 12, .inl tm))] := hD
  exact rtV C hr hAe (u := ((thOf tm n), (teOf tk tm n))) hP hD hS dX6_noteMarks_70 (by exact ⟨rfl, rfl⟩)

set_option maxHeartbeats 4000000 in
set_option maxRecDepth 100000 in
theorem c_X6_append (l : Launch) (G : gT) (h0 : Nat) (h1 : Nat) (h2 : Nat) (h3 : Nat) (h4 : Nat) (tk : Nat → Int32) (tc : Nat → Int32) (tr : Nat → Int32) (tm : Nat → Int32) (n : Nat) (th : Int32) (te : Int32) (a : Int32) (b : Int32) (x3 : Int32) (d : Int32) (hn : n < 12) : Met l yX6_append wsX6_append ({ frames := 1, cells := 0, slots := 0, locals := 21 }) (cPre G [.ref h0, .int a, .int b, .int x3, .int d] [(h0, .inr (6, [.ref h1, .ref h2, .ref h3, .ref h4, .int (nI n), .int th, .int te])), (h1, .inl (G.2 0, 12, .inl tk)), (h2, .inl (G.2 0, 12, .inl tc)), (h3, .inl (G.2 0, 12, .inl tr)), (h4, .inl (G.2 0, 12, .inl tm))]) (va_Qi (fun (rv : Int32) (u : (Nat → Int32) × (Nat → Int32) × (Nat → Int32) × (Nat → Int32) × Int32 × Int32) => rv = nI n ∧ u.1 = upd tk n a ∧ u.2.1 = upd tc n b ∧ u.2.2.1 = upd tr n x3 ∧ u.2.2.2.1 = upd tm n d ∧ u.2.2.2.2.1 = thOf (upd tm n d) (n + 1) ∧ u.2.2.2.2.2 = teOf (upd tk n a) (upd tm n d) (n + 1)) (cW G [(h0, .inr (6, [.ref h1, .ref h2, .ref h3, .ref h4, .int (nI n), .int th, .int te])), (h1, .inl (G.2 0, 12, .inl tk)), (h2, .inl (G.2 0, 12, .inl tc)), (h3, .inl (G.2 0, 12, .inl tr)), (h4, .inl (G.2 0, 12, .inl tm))] (fun (u : (Nat → Int32) × (Nat → Int32) × (Nat → Int32) × (Nat → Int32) × Int32 × Int32) => [(h0, .inr (6, [.ref h1, .ref h2, .ref h3, .ref h4, .int (nI (n + 1)), .int u.2.2.2.2.1, .int u.2.2.2.2.2])), (h1, .inl (G.2 0, 12, .inl u.1)), (h2, .inl (G.2 0, 12, .inl u.2.1)), (h3, .inl (G.2 0, 12, .inl u.2.2.1)), (h4, .inl (G.2 0, 12, .inl u.2.2.2.1))])) (pB [(h0, .inr (6, [.ref h1, .ref h2, .ref h3, .ref h4, .int (nI n), .int th, .int te])), (h1, .inl (G.2 0, 12, .inl tk)), (h2, .inl (G.2 0, 12, .inl tc)), (h3, .inl (G.2 0, 12, .inl tr)), (h4, .inl (G.2 0, 12, .inl tm))])) 0 0 (pB [(h0, .inr (6, [.ref h1, .ref h2, .ref h3, .ref h4, .int (nI n), .int th, .int te])), (h1, .inl (G.2 0, 12, .inl tk)), (h2, .inl (G.2 0, 12, .inl tc)), (h3, .inl (G.2 0, 12, .inl tr)), (h4, .inl (G.2 0, 12, .inl tm))]) := by
  refine ofCX (G := G) (cc := cX6_append) (maxL := 6) (ret := (some .int)) (by decide) rfl (Nat.le_of_ble_eq_true rfl) ?_
  intro p e s m below meth c ls C hr hin hD hP hl
  obtain ⟨hx, hb, hml, hown, hts, hlocks, hK⟩ := id C
  have hown : s.vm.findClass RX6 = some m.cls := hown
  have hfl_24 := hts (.fieldLink RX6 24 "AfterDesk$Traces" "size" "I") (by decide +kernel)
  have hin_X6 : ∀ w ∈ wsX60, w ∈ wsX6_append := by decide +kernel
  have hfl_9 := hts (.fieldLink RX6 9 "AfterDesk$Traces" "kinds" "[I") (by decide +kernel)
  have hfl_15 := hts (.fieldLink RX6 15 "AfterDesk$Traces" "clockNumbers" "[I") (by decide +kernel)
  have hfl_18 := hts (.fieldLink RX6 18 "AfterDesk$Traces" "readings" "[I") (by decide +kernel)
  have hfl_21 := hts (.fieldLink RX6 21 "AfterDesk$Traces" "marks" "[I") (by decide +kernel)
  generalize hAe : pB [(h0, .inr (6, [.ref h1, .ref h2, .ref h3, .ref h4, .int (nI n), .int th, .int te])), (h1, .inl (G.2 0, 12, .inl tk)), (h2, .inl (G.2 0, 12, .inl tc)), (h3, .inl (G.2 0, 12, .inl tr)), (h4, .inl (G.2 0, 12, .inl tm))] = A at hD ⊢
  have hS : va_S A s.heap s.heap [] := va_S.rf
  have hP : va_P G.1 vwCl [(h0, .inr (6, [.ref h1, .ref h2, .ref h3, .ref h4, .int (nI n), .int th, .int te])), (h1, .inl (G.2 0, 12, .inl tk)), (h2, .inl (G.2 0, 12, .inl tc)), (h3, .inl (G.2 0, 12, .inl tr)), (h4, .inl (G.2 0, 12, .inl tm))] s.heap := hP
  have hD : va_D A [(h0, .inr (6, [.ref h1, .ref h2, .ref h3, .ref h4, .int (nI n), .int th, .int te])), (h1, .inl (G.2 0, 12, .inl tk)), (h2, .inl (G.2 0, 12, .inl tc)), (h3, .inl (G.2 0, 12, .inl tr)), (h4, .inl (G.2 0, 12, .inl tm))] := hD
  have hl : lv_has ls 6 [(0, .ref h0), (1, .int a), (2, .int b), (3, .int x3), (4, .int d)] := hl
  refine lv_aload_n hx hb dX6_append_0 rfl (lv_at hl 0 rfl) ?_
  refine va_get (D := G.1) (ci := 6) (v := .int (nI n)) (C := RX6) (T := TX6) (N := 7) hx hb hts hin_X6 hown hK.1 hP 0 rfl rfl 4 (by decide) hfl_24 (fun _ h9 => h9) rfl dX6_append_1 ?_
  refine lv_istore (lv' := [(5, .int (nI n)), (0, .ref h0), (1, .int a), (2, .int b), (3, .int x3), (4, .int d)]) hx hb dX6_append_4 hl (by decide) rfl (fun ls hl => ?_)
  refine lv_aload_n hx hb dX6_append_6 rfl (lv_at hl 1 rfl) ?_
  refine xI (S := Unit) (va_runV (As := []) (rest := []) ⟨hx, hb, hml, hown, hts⟩ (c_X6_isFull l G h0 h1 h2 h3 h4 tk tc tr tm n th te (by first | omega | assumption)) (cwV 0 hts gX6_append_X6_isFull rfl rfl rfl (by decide +kernel) ⟨Nat.le_of_ble_eq_true rfl, Nat.le_of_ble_eq_true rfl⟩) (pV [] hK (hP.sub (ws' := [(h0, .inr (6, [.ref h1, .ref h2, .ref h3, .ref h4, .int (nI n), .int th, .int te])), (h1, .inl (G.2 0, 12, .inl tk)), (h2, .inl (G.2 0, 12, .inl tc)), (h3, .inl (G.2 0, 12, .inl tr)), (h4, .inl (G.2 0, 12, .inl tm))]) [0, 1, 2, 3, 4] rfl) (hD.sub (ws' := [(h0, .inr (6, [.ref h1, .ref h2, .ref h3, .ref h4, .int (nI n), .int th, .int te])), (h1, .inl (G.2 0, 12, .inl tk)), (h2, .inl (G.2 0, 12, .inl tc)), (h3, .inl (G.2 0, 12, .inl tr)), (h4, .inl (G.2 0, 12, .inl tm))]) [0, 1, 2, 3, 4] (by decide) rfl) (ci := 6) (q0 := 0) rfl rfl) rfl rfl hl.1 rfl (lv_room (Nat.le_of_ble_eq_true rfl)) dX6_append_7 ⟨Nat.zero_le _, Nat.zero_le _⟩) hP hD hS [0, 1, 2, 3, 4] [] (wr := []) rfl rfl (by decide) (by decide) [0, 1, 2, 3, 4] (w2 := fun (_ : Unit) => [(h0, .inr (6, [.ref h1, .ref h2, .ref h3, .ref h4, .int (nI n), .int th, .int te])), (h1, .inl (G.2 0, 12, .inl tk)), (h2, .inl (G.2 0, 12, .inl tc)), (h3, .inl (G.2 0, 12, .inl tr)), (h4, .inl (G.2 0, 12, .inl tm))]) (fun _ => rfl) (by decide) (fun r_1 u_2 H locs hw_3 hP hD hS => ?_)
  (try dsimp only at hw_3); subst hw_3
  have hP : va_P G.1 vwCl [(h0, .inr (6, [.ref h1, .ref h2, .ref h3, .ref h4, .int (nI n), .int th, .int te])), (h1, .inl (G.2 0, 12, .inl tk)), (h2, .inl (G.2 0, 12, .inl tc)), (h3, .inl (G.2 0, 12, .inl tr)), (h4, .inl (G.2 0, 12, .inl tm))] H := hP
  have hD : va_D A [(h0, .inr (6, [.ref h1, .ref h2, .ref h3, .ref h4, .int (nI n), .int th, .int te])), (h1, .inl (G.2 0, 12, .inl tk)), (h2, .inl (G.2 0, 12, .inl tc)), (h3, .inl (G.2 0, 12, .inl tr)), (h4, .inl (G.2 0, 12, .inl tm))] := hD
  refine lv_if_ne (tgt := 60) hx hb dX6_append_10 (by decide) (fun c_4 => ?_) (fun c_4 => ?_)
  · -- yes: bI (decide (12 ≤ n)) ne 0
    have c_4 : 12 ≤ n := bD1 c_4
    exfalso; omega
  · -- no: bI (decide (12 ≤ n)) eq 0
    have c_4 : ¬ (12 ≤ n) := bD0 c_4
    refine lv_aload_n hx hb dX6_append_13 rfl (lv_at hl 1 rfl) ?_
    refine va_get (D := G.1) (ci := 6) (v := .ref h1) (C := RX6) (T := TX6) (N := 7) hx hb hts hin_X6 hown hK.1 hP 0 rfl rfl 0 (by decide) hfl_9 (fun _ h9 => h9) rfl dX6_append_14 ?_
    refine lv_iload hx hb dX6_append_17 (lv_at hl 0 rfl) ?_
    refine lv_iload_n hx hb dX6_append_19 rfl (lv_at hl 2 rfl) ?_
    refine aIst hx hb hK.1 hP hD hS 1 0 rfl rfl (k := n) rfl (by omega) (by decide) dX6_append_20 (fun H locs hP hD hS => ?_)
    have hP : va_P G.1 vwCl [(h0, .inr (6, [.ref h1, .ref h2, .ref h3, .ref h4, .int (nI n), .int th, .int te])), (h1, .inl (G.2 0, 12, .inl (upd tk n a))), (h2, .inl (G.2 0, 12, .inl tc)), (h3, .inl (G.2 0, 12, .inl tr)), (h4, .inl (G.2 0, 12, .inl tm))] H := hP
    have hD : va_D A [(h0, .inr (6, [.ref h1, .ref h2, .ref h3, .ref h4, .int (nI n), .int th, .int te])), (h1, .inl (G.2 0, 12, .inl (upd tk n a))), (h2, .inl (G.2 0, 12, .inl tc)), (h3, .inl (G.2 0, 12, .inl tr)), (h4, .inl (G.2 0, 12, .inl tm))] := hD
    refine lv_aload_n hx hb dX6_append_21 rfl (lv_at hl 1 rfl) ?_
    refine va_get (D := G.1) (ci := 6) (v := .ref h2) (C := RX6) (T := TX6) (N := 7) hx hb hts hin_X6 hown hK.1 hP 0 rfl rfl 1 (by decide) hfl_15 (fun _ h9 => h9) rfl dX6_append_22 ?_
    refine lv_iload hx hb dX6_append_25 (lv_at hl 0 rfl) ?_
    refine lv_iload_n hx hb dX6_append_27 rfl (lv_at hl 3 rfl) ?_
    refine aIst hx hb hK.1 hP hD hS 2 0 rfl rfl (k := n) rfl (by omega) (by decide) dX6_append_28 (fun H locs hP hD hS => ?_)
    have hP : va_P G.1 vwCl [(h0, .inr (6, [.ref h1, .ref h2, .ref h3, .ref h4, .int (nI n), .int th, .int te])), (h1, .inl (G.2 0, 12, .inl (upd tk n a))), (h2, .inl (G.2 0, 12, .inl (upd tc n b))), (h3, .inl (G.2 0, 12, .inl tr)), (h4, .inl (G.2 0, 12, .inl tm))] H := hP
    have hD : va_D A [(h0, .inr (6, [.ref h1, .ref h2, .ref h3, .ref h4, .int (nI n), .int th, .int te])), (h1, .inl (G.2 0, 12, .inl (upd tk n a))), (h2, .inl (G.2 0, 12, .inl (upd tc n b))), (h3, .inl (G.2 0, 12, .inl tr)), (h4, .inl (G.2 0, 12, .inl tm))] := hD
    refine lv_aload_n hx hb dX6_append_29 rfl (lv_at hl 1 rfl) ?_
    refine va_get (D := G.1) (ci := 6) (v := .ref h3) (C := RX6) (T := TX6) (N := 7) hx hb hts hin_X6 hown hK.1 hP 0 rfl rfl 2 (by decide) hfl_18 (fun _ h9 => h9) rfl dX6_append_30 ?_
    refine lv_iload hx hb dX6_append_33 (lv_at hl 0 rfl) ?_
    refine lv_iload_n hx hb dX6_append_35 rfl (lv_at hl 4 rfl) ?_
    refine aIst hx hb hK.1 hP hD hS 3 0 rfl rfl (k := n) rfl (by omega) (by decide) dX6_append_36 (fun H locs hP hD hS => ?_)
    have hP : va_P G.1 vwCl [(h0, .inr (6, [.ref h1, .ref h2, .ref h3, .ref h4, .int (nI n), .int th, .int te])), (h1, .inl (G.2 0, 12, .inl (upd tk n a))), (h2, .inl (G.2 0, 12, .inl (upd tc n b))), (h3, .inl (G.2 0, 12, .inl (upd tr n x3))), (h4, .inl (G.2 0, 12, .inl tm))] H := hP
    have hD : va_D A [(h0, .inr (6, [.ref h1, .ref h2, .ref h3, .ref h4, .int (nI n), .int th, .int te])), (h1, .inl (G.2 0, 12, .inl (upd tk n a))), (h2, .inl (G.2 0, 12, .inl (upd tc n b))), (h3, .inl (G.2 0, 12, .inl (upd tr n x3))), (h4, .inl (G.2 0, 12, .inl tm))] := hD
    refine lv_aload_n hx hb dX6_append_37 rfl (lv_at hl 1 rfl) ?_
    refine va_get (D := G.1) (ci := 6) (v := .ref h4) (C := RX6) (T := TX6) (N := 7) hx hb hts hin_X6 hown hK.1 hP 0 rfl rfl 3 (by decide) hfl_21 (fun _ h9 => h9) rfl dX6_append_38 ?_
    refine lv_iload hx hb dX6_append_41 (lv_at hl 0 rfl) ?_
    refine lv_iload hx hb dX6_append_43 (lv_at hl 5 rfl) ?_
    refine aIst hx hb hK.1 hP hD hS 4 0 rfl rfl (k := n) rfl (by omega) (by decide) dX6_append_45 (fun H locs hP hD hS => ?_)
    have hP : va_P G.1 vwCl [(h0, .inr (6, [.ref h1, .ref h2, .ref h3, .ref h4, .int (nI n), .int th, .int te])), (h1, .inl (G.2 0, 12, .inl (upd tk n a))), (h2, .inl (G.2 0, 12, .inl (upd tc n b))), (h3, .inl (G.2 0, 12, .inl (upd tr n x3))), (h4, .inl (G.2 0, 12, .inl (upd tm n d)))] H := hP
    have hD : va_D A [(h0, .inr (6, [.ref h1, .ref h2, .ref h3, .ref h4, .int (nI n), .int th, .int te])), (h1, .inl (G.2 0, 12, .inl (upd tk n a))), (h2, .inl (G.2 0, 12, .inl (upd tc n b))), (h3, .inl (G.2 0, 12, .inl (upd tr n x3))), (h4, .inl (G.2 0, 12, .inl (upd tm n d)))] := hD
    refine lv_aload_n hx hb dX6_append_46 rfl (lv_at hl 1 rfl) ?_
    refine lv_dup hx hb dX6_append_47 rfl ?_
    refine va_get (D := G.1) (ci := 6) (v := .int (nI n)) (C := RX6) (T := TX6) (N := 7) hx hb hts hin_X6 hown hK.1 hP 0 rfl rfl 4 (by decide) hfl_24 (fun _ h9 => h9) rfl dX6_append_48 ?_
    refine lv_iconst (v := 1) hx hb dX6_append_51 (by decide) ?_
    refine lv_iadd hx hb dX6_append_52 ?_
    refine nmI (nI_add n 1) ?_
    refine va_put (D := G.1) (ci := 6) (v := .int (nI (n + 1))) (ty := .int) (C := RX6) (T := TX6) (N := 7) hx hb hts hin_X6 tyX6 tyX6_ok nmX6 hown hK.1 hP hD hS 0 rfl rfl 4 (by decide) hfl_24 (fun _ h9 => h9) rfl (by decide +kernel) rfl rfl (Nat.le_of_ble_eq_true rfl) dX6_append_53 (fun H locs hP hD hS => ?_)
    have hP : va_P G.1 vwCl [(h0, .inr (6, [.ref h1, .ref h2, .ref h3, .ref h4, .int (nI (n + 1)), .int th, .int te])), (h1, .inl (G.2 0, 12, .inl (upd tk n a))), (h2, .inl (G.2 0, 12, .inl (upd tc n b))), (h3, .inl (G.2 0, 12, .inl (upd tr n x3))), (h4, .inl (G.2 0, 12, .inl (upd tm n d)))] H := hP
    have hD : va_D A [(h0, .inr (6, [.ref h1, .ref h2, .ref h3, .ref h4, .int (nI (n + 1)), .int th, .int te])), (h1, .inl (G.2 0, 12, .inl (upd tk n a))), (h2, .inl (G.2 0, 12, .inl (upd tc n b))), (h3, .inl (G.2 0, 12, .inl (upd tr n x3))), (h4, .inl (G.2 0, 12, .inl (upd tm n d)))] := hD
    refine lv_aload_n hx hb dX6_append_56 rfl (lv_at hl 1 rfl) ?_
    refine xV (S := Int32 × Int32) (va_runV (As := []) (rest := []) ⟨hx, hb, hml, hown, hts⟩ (c_X6_noteMarks l G h0 h1 h2 h3 h4 (upd tk n a) (upd tc n b) (upd tr n x3) (upd tm n d) (n + 1) th te (by first | omega | assumption)) (cwV 0 hts gX6_append_X6_noteMarks rfl rfl rfl (by decide +kernel) ⟨Nat.le_of_ble_eq_true rfl, Nat.le_of_ble_eq_true rfl⟩) (pV [] hK (hP.sub (ws' := [(h0, .inr (6, [.ref h1, .ref h2, .ref h3, .ref h4, .int (nI (n + 1)), .int th, .int te])), (h1, .inl (G.2 0, 12, .inl (upd tk n a))), (h2, .inl (G.2 0, 12, .inl (upd tc n b))), (h3, .inl (G.2 0, 12, .inl (upd tr n x3))), (h4, .inl (G.2 0, 12, .inl (upd tm n d)))]) [0, 1, 2, 3, 4] rfl) (hD.sub (ws' := [(h0, .inr (6, [.ref h1, .ref h2, .ref h3, .ref h4, .int (nI (n + 1)), .int th, .int te])), (h1, .inl (G.2 0, 12, .inl (upd tk n a))), (h2, .inl (G.2 0, 12, .inl (upd tc n b))), (h3, .inl (G.2 0, 12, .inl (upd tr n x3))), (h4, .inl (G.2 0, 12, .inl (upd tm n d)))]) [0, 1, 2, 3, 4] (by decide) rfl) (ci := 6) (q0 := 0) rfl rfl) rfl rfl hl.1 rfl (lv_room (Nat.le_of_ble_eq_true rfl)) dX6_append_57 ⟨Nat.zero_le _, Nat.zero_le _⟩) hP hD hS [0, 1, 2, 3, 4] [] (wr := []) rfl rfl (by decide) (by decide) [0, 1, 2, 3, 4] (w2 := fun (u_8 : Int32 × Int32) => [(h0, .inr (6, [.ref h1, .ref h2, .ref h3, .ref h4, .int (nI (n + 1)), .int u_8.1, .int u_8.2])), (h1, .inl (G.2 0, 12, .inl (upd tk n a))), (h2, .inl (G.2 0, 12, .inl (upd tc n b))), (h3, .inl (G.2 0, 12, .inl (upd tr n x3))), (h4, .inl (G.2 0, 12, .inl (upd tm n d)))]) (fun _ => rfl) (by decide) (fun u_8 H locs hw_9 hP hD hS => ?_)
    obtain ⟨thv_5, tev_6⟩ := u_8
    (try dsimp only at hw_9); obtain ⟨rfl, rfl⟩ := hw_9
    have hP : va_P G.1 vwCl [(h0, .inr (6, [.ref h1, .ref h2, .ref h3, .ref h4, .int (nI (n + 1)), .int (thOf (upd tm n d) (n + 1)), .int (teOf (upd tk n a) (upd tm n d) (n + 1))])), (h1, .inl (G.2 0, 12, .inl (upd tk n a))), (h2, .inl (G.2 0, 12, .inl (upd tc n b))), (h3, .inl (G.2 0, 12, .inl (upd tr n x3))), (h4, .inl (G.2 0, 12, .inl (upd tm n d)))] H := hP
    have hD : va_D A [(h0, .inr (6, [.ref h1, .ref h2, .ref h3, .ref h4, .int (nI (n + 1)), .int (thOf (upd tm n d) (n + 1)), .int (teOf (upd tk n a) (upd tm n d) (n + 1))])), (h1, .inl (G.2 0, 12, .inl (upd tk n a))), (h2, .inl (G.2 0, 12, .inl (upd tc n b))), (h3, .inl (G.2 0, 12, .inl (upd tr n x3))), (h4, .inl (G.2 0, 12, .inl (upd tm n d)))] := hD
    refine lv_iload hx hb dX6_append_60 (lv_at hl 0 rfl) ?_
    exact rtI C hr hAe (u := ((upd tk n a), (upd tc n b), (upd tr n x3), (upd tm n d), (thOf (upd tm n d) (n + 1)), (teOf (upd tk n a) (upd tm n d) (n + 1)))) hP hD hS dX6_append_62 (by exact ⟨rfl, rfl, rfl, rfl, rfl, rfl, rfl⟩)

set_option maxHeartbeats 4000000 in
set_option maxRecDepth 100000 in
theorem c_X6_removeLast (l : Launch) (G : gT) (h0 : Nat) (h1 : Nat) (h2 : Nat) (h3 : Nat) (h4 : Nat) (tk : Nat → Int32) (tc : Nat → Int32) (tr : Nat → Int32) (tm : Nat → Int32) (n : Nat) (th : Int32) (te : Int32) (hn : n ≤ 12) (h0n : 0 < n) : Met l yX6_removeLast wsX6_removeLast ({ frames := 1, cells := 0, slots := 0, locals := 21 }) (cPre G [.ref h0] [(h0, .inr (6, [.ref h1, .ref h2, .ref h3, .ref h4, .int (nI n), .int th, .int te])), (h1, .inl (G.2 0, 12, .inl tk)), (h2, .inl (G.2 0, 12, .inl tc)), (h3, .inl (G.2 0, 12, .inl tr)), (h4, .inl (G.2 0, 12, .inl tm))]) (va_Qi (fun (rv : Int32) (u : Int32 × Int32) => rv = nI (n - 1) ∧ u.1 = thOf tm (n - 1) ∧ u.2 = teOf tk tm (n - 1)) (cW G [(h0, .inr (6, [.ref h1, .ref h2, .ref h3, .ref h4, .int (nI n), .int th, .int te])), (h1, .inl (G.2 0, 12, .inl tk)), (h2, .inl (G.2 0, 12, .inl tc)), (h3, .inl (G.2 0, 12, .inl tr)), (h4, .inl (G.2 0, 12, .inl tm))] (fun (u : Int32 × Int32) => [(h0, .inr (6, [.ref h1, .ref h2, .ref h3, .ref h4, .int (nI (n - 1)), .int u.1, .int u.2])), (h1, .inl (G.2 0, 12, .inl tk)), (h2, .inl (G.2 0, 12, .inl tc)), (h3, .inl (G.2 0, 12, .inl tr)), (h4, .inl (G.2 0, 12, .inl tm))])) (pB [(h0, .inr (6, [.ref h1, .ref h2, .ref h3, .ref h4, .int (nI n), .int th, .int te])), (h1, .inl (G.2 0, 12, .inl tk)), (h2, .inl (G.2 0, 12, .inl tc)), (h3, .inl (G.2 0, 12, .inl tr)), (h4, .inl (G.2 0, 12, .inl tm))])) 0 0 (pB [(h0, .inr (6, [.ref h1, .ref h2, .ref h3, .ref h4, .int (nI n), .int th, .int te])), (h1, .inl (G.2 0, 12, .inl tk)), (h2, .inl (G.2 0, 12, .inl tc)), (h3, .inl (G.2 0, 12, .inl tr)), (h4, .inl (G.2 0, 12, .inl tm))]) := by
  refine ofCX (G := G) (cc := cX6_removeLast) (maxL := 1) (ret := (some .int)) (by decide) rfl (Nat.le_of_ble_eq_true rfl) ?_
  intro p e s m below meth c ls C hr hin hD hP hl
  obtain ⟨hx, hb, hml, hown, hts, hlocks, hK⟩ := id C
  have hown : s.vm.findClass RX6 = some m.cls := hown
  have hfl_24 := hts (.fieldLink RX6 24 "AfterDesk$Traces" "size" "I") (by decide +kernel)
  have hin_X6 : ∀ w ∈ wsX60, w ∈ wsX6_removeLast := by decide +kernel
  generalize hAe : pB [(h0, .inr (6, [.ref h1, .ref h2, .ref h3, .ref h4, .int (nI n), .int th, .int te])), (h1, .inl (G.2 0, 12, .inl tk)), (h2, .inl (G.2 0, 12, .inl tc)), (h3, .inl (G.2 0, 12, .inl tr)), (h4, .inl (G.2 0, 12, .inl tm))] = A at hD ⊢
  have hS : va_S A s.heap s.heap [] := va_S.rf
  have hP : va_P G.1 vwCl [(h0, .inr (6, [.ref h1, .ref h2, .ref h3, .ref h4, .int (nI n), .int th, .int te])), (h1, .inl (G.2 0, 12, .inl tk)), (h2, .inl (G.2 0, 12, .inl tc)), (h3, .inl (G.2 0, 12, .inl tr)), (h4, .inl (G.2 0, 12, .inl tm))] s.heap := hP
  have hD : va_D A [(h0, .inr (6, [.ref h1, .ref h2, .ref h3, .ref h4, .int (nI n), .int th, .int te])), (h1, .inl (G.2 0, 12, .inl tk)), (h2, .inl (G.2 0, 12, .inl tc)), (h3, .inl (G.2 0, 12, .inl tr)), (h4, .inl (G.2 0, 12, .inl tm))] := hD
  have hl : lv_has ls 1 [(0, .ref h0)] := hl
  refine lv_aload_n hx hb dX6_removeLast_0 rfl (lv_at hl 0 rfl) ?_
  refine va_get (D := G.1) (ci := 6) (v := .int (nI n)) (C := RX6) (T := TX6) (N := 7) hx hb hts hin_X6 hown hK.1 hP 0 rfl rfl 4 (by decide) hfl_24 (fun _ h9 => h9) rfl dX6_removeLast_1 ?_
  refine lv_if_le (tgt := 21) hx hb dX6_removeLast_4 (by decide) (fun c_1 => ?_) (fun c_1 => ?_)
  · -- yes: nI n le 0
    have c_1 : n ≤ 0 := (nI_leI (a := n) (b := 0) (by omega) (by omega)).mp c_1
    exfalso; omega
  · -- no: nI n gt 0
    have c_1 : ¬ n ≤ 0 := fun z => c_1 ((nI_leI (a := n) (b := 0) (by omega) (by omega)).mpr z)
    refine lv_aload_n hx hb dX6_removeLast_7 rfl (lv_at hl 0 rfl) ?_
    refine lv_dup hx hb dX6_removeLast_8 rfl ?_
    refine va_get (D := G.1) (ci := 6) (v := .int (nI n)) (C := RX6) (T := TX6) (N := 7) hx hb hts hin_X6 hown hK.1 hP 0 rfl rfl 4 (by decide) hfl_24 (fun _ h9 => h9) rfl dX6_removeLast_9 ?_
    refine lv_iconst (v := 1) hx hb dX6_removeLast_12 (by decide) ?_
    refine lv_isub hx hb dX6_removeLast_13 ?_
    refine nmI (pk_sub (a := n) (b := 1) (by omega)) ?_
    refine va_put (D := G.1) (ci := 6) (v := .int (nI (n - 1))) (ty := .int) (C := RX6) (T := TX6) (N := 7) hx hb hts hin_X6 tyX6 tyX6_ok nmX6 hown hK.1 hP hD hS 0 rfl rfl 4 (by decide) hfl_24 (fun _ h9 => h9) rfl (by decide +kernel) rfl rfl (Nat.le_of_ble_eq_true rfl) dX6_removeLast_14 (fun H locs hP hD hS => ?_)
    have hP : va_P G.1 vwCl [(h0, .inr (6, [.ref h1, .ref h2, .ref h3, .ref h4, .int (nI (n - 1)), .int th, .int te])), (h1, .inl (G.2 0, 12, .inl tk)), (h2, .inl (G.2 0, 12, .inl tc)), (h3, .inl (G.2 0, 12, .inl tr)), (h4, .inl (G.2 0, 12, .inl tm))] H := hP
    have hD : va_D A [(h0, .inr (6, [.ref h1, .ref h2, .ref h3, .ref h4, .int (nI (n - 1)), .int th, .int te])), (h1, .inl (G.2 0, 12, .inl tk)), (h2, .inl (G.2 0, 12, .inl tc)), (h3, .inl (G.2 0, 12, .inl tr)), (h4, .inl (G.2 0, 12, .inl tm))] := hD
    refine lv_aload_n hx hb dX6_removeLast_17 rfl (lv_at hl 0 rfl) ?_
    refine xV (S := Int32 × Int32) (va_runV (As := []) (rest := []) ⟨hx, hb, hml, hown, hts⟩ (c_X6_noteMarks l G h0 h1 h2 h3 h4 tk tc tr tm (n - 1) th te (by first | omega | assumption)) (cwV 0 hts gX6_removeLast_X6_noteMarks rfl rfl rfl (by decide +kernel) ⟨Nat.le_of_ble_eq_true rfl, Nat.le_of_ble_eq_true rfl⟩) (pV [] hK (hP.sub (ws' := [(h0, .inr (6, [.ref h1, .ref h2, .ref h3, .ref h4, .int (nI (n - 1)), .int th, .int te])), (h1, .inl (G.2 0, 12, .inl tk)), (h2, .inl (G.2 0, 12, .inl tc)), (h3, .inl (G.2 0, 12, .inl tr)), (h4, .inl (G.2 0, 12, .inl tm))]) [0, 1, 2, 3, 4] rfl) (hD.sub (ws' := [(h0, .inr (6, [.ref h1, .ref h2, .ref h3, .ref h4, .int (nI (n - 1)), .int th, .int te])), (h1, .inl (G.2 0, 12, .inl tk)), (h2, .inl (G.2 0, 12, .inl tc)), (h3, .inl (G.2 0, 12, .inl tr)), (h4, .inl (G.2 0, 12, .inl tm))]) [0, 1, 2, 3, 4] (by decide) rfl) (ci := 6) (q0 := 0) rfl rfl) rfl rfl hl.1 rfl (lv_room (Nat.le_of_ble_eq_true rfl)) dX6_removeLast_18 ⟨Nat.zero_le _, Nat.zero_le _⟩) hP hD hS [0, 1, 2, 3, 4] [] (wr := []) rfl rfl (by decide) (by decide) [0, 1, 2, 3, 4] (w2 := fun (u_5 : Int32 × Int32) => [(h0, .inr (6, [.ref h1, .ref h2, .ref h3, .ref h4, .int (nI (n - 1)), .int u_5.1, .int u_5.2])), (h1, .inl (G.2 0, 12, .inl tk)), (h2, .inl (G.2 0, 12, .inl tc)), (h3, .inl (G.2 0, 12, .inl tr)), (h4, .inl (G.2 0, 12, .inl tm))]) (fun _ => rfl) (by decide) (fun u_5 H locs hw_6 hP hD hS => ?_)
    obtain ⟨thv_2, tev_3⟩ := u_5
    (try dsimp only at hw_6); obtain ⟨rfl, rfl⟩ := hw_6
    have hP : va_P G.1 vwCl [(h0, .inr (6, [.ref h1, .ref h2, .ref h3, .ref h4, .int (nI (n - 1)), .int (thOf tm (n - 1)), .int (teOf tk tm (n - 1))])), (h1, .inl (G.2 0, 12, .inl tk)), (h2, .inl (G.2 0, 12, .inl tc)), (h3, .inl (G.2 0, 12, .inl tr)), (h4, .inl (G.2 0, 12, .inl tm))] H := hP
    have hD : va_D A [(h0, .inr (6, [.ref h1, .ref h2, .ref h3, .ref h4, .int (nI (n - 1)), .int (thOf tm (n - 1)), .int (teOf tk tm (n - 1))])), (h1, .inl (G.2 0, 12, .inl tk)), (h2, .inl (G.2 0, 12, .inl tc)), (h3, .inl (G.2 0, 12, .inl tr)), (h4, .inl (G.2 0, 12, .inl tm))] := hD
    refine lv_aload_n hx hb dX6_removeLast_21 rfl (lv_at hl 0 rfl) ?_
    refine va_get (D := G.1) (ci := 6) (v := .int (nI (n - 1))) (C := RX6) (T := TX6) (N := 7) hx hb hts hin_X6 hown hK.1 hP 0 rfl rfl 4 (by decide) hfl_24 (fun _ h9 => h9) rfl dX6_removeLast_22 ?_
    exact rtI C hr hAe (u := ((thOf tm (n - 1)), (teOf tk tm (n - 1)))) hP hD hS dX6_removeLast_25 (by exact ⟨rfl, rfl, rfl⟩)

set_option maxHeartbeats 4000000 in
set_option maxRecDepth 100000 in
theorem lp_X6_howManyNotOf_4 {p : Program} {l : Launch} {e : Env} {R : Room} {s : State} {m : MethodId} {args : Array Value} {below : List Frame} {meth : Method} {c : Code} {A : Nat → Prop} {H0 : Heap} {Q : State → Prop} {G : gT} (C : CX p s m meth c args cX6_howManyNotOf 4 RX6 wsX6_howManyNotOf G) (h0 : Nat) (h1 : Nat) (h2 : Nat) (h3 : Nat) (h4 : Nat) (tk : Nat → Int32) (tc : Nat → Int32) (tr : Nat → Int32) (tm : Nat → Int32) (n : Nat) (th : Int32) (te : Int32) (row : Int32) (hn : n ≤ 12) (hk : ∀ (H : Heap) (locs : List Loc) (ls : Array Slot), va_P G.1 vwCl [(h0, .inr (6, [.ref h1, .ref h2, .ref h3, .ref h4, .int (nI n), .int th, .int te])), (h1, .inl (G.2 0, 12, .inl tk)), (h2, .inl (G.2 0, 12, .inl tc)), (h3, .inl (G.2 0, 12, .inl tr)), (h4, .inl (G.2 0, 12, .inl tm))] H → va_D A [(h0, .inr (6, [.ref h1, .ref h2, .ref h3, .ref h4, .int (nI n), .int th, .int te])), (h1, .inl (G.2 0, 12, .inl tk)), (h2, .inl (G.2 0, 12, .inl tc)), (h3, .inl (G.2 0, 12, .inl tr)), (h4, .inl (G.2 0, 12, .inl tm))] → va_S A H0 H locs → lv_has ls 4 [(0, .ref h0), (1, .int row), (2, .int (nI (hmn tm row n))), (3, .int (nI n))] → W p l e R s m args below meth c H locs 0 0 Q (F0 m 34 ls [])) : ∀ (fu k : Nat) (ot : Nat), k ≤ n → n - k < fu → ot = hmn tm row k → ∀ (H : Heap) (locs : List Loc) (ls : Array Slot), va_P G.1 vwCl [(h0, .inr (6, [.ref h1, .ref h2, .ref h3, .ref h4, .int (nI n), .int th, .int te])), (h1, .inl (G.2 0, 12, .inl tk)), (h2, .inl (G.2 0, 12, .inl tc)), (h3, .inl (G.2 0, 12, .inl tr)), (h4, .inl (G.2 0, 12, .inl tm))] H → va_D A [(h0, .inr (6, [.ref h1, .ref h2, .ref h3, .ref h4, .int (nI n), .int th, .int te])), (h1, .inl (G.2 0, 12, .inl tk)), (h2, .inl (G.2 0, 12, .inl tc)), (h3, .inl (G.2 0, 12, .inl tr)), (h4, .inl (G.2 0, 12, .inl tm))] → va_S A H0 H locs → lv_has ls 4 [(0, .ref h0), (1, .int row), (2, .int (nI ot)), (3, .int (nI k))] → W p l e R s m args below meth c H locs 0 0 Q (F0 m 4 ls []) := by
  obtain ⟨hx, hb, hml, hown, hts, hlocks, hK⟩ := id C
  have hfl_24 := hts (.fieldLink RX6 24 "AfterDesk$Traces" "size" "I") (by decide +kernel)
  have hin_X6 : ∀ w ∈ wsX60, w ∈ wsX6_howManyNotOf := by decide +kernel
  have hfl_21 := hts (.fieldLink RX6 21 "AfterDesk$Traces" "marks" "[I") (by decide +kernel)
  intro fu
  induction fu with
  | zero =>
    intro k ot h1 h2
    exact absurd h2 (by omega)
  | succ fu ih =>
    intro k ot hkle hkn e_ot  H locs ls hP hD hS hl
    subst e_ot
    refine lv_iload_n hx hb dX6_howManyNotOf_4 rfl (lv_at hl 3 rfl) ?_
    refine lv_aload_n hx hb dX6_howManyNotOf_5 rfl (lv_at hl 0 rfl) ?_
    refine va_get (D := G.1) (ci := 6) (v := .int (nI n)) (C := RX6) (T := TX6) (N := 7) hx hb hts hin_X6 hown hK.1 hP 0 rfl rfl 4 (by decide) hfl_24 (fun _ h9 => h9) rfl dX6_howManyNotOf_6 ?_
    refine lv_icmp_ge (tgt := 34) hx hb dX6_howManyNotOf_9 (by decide) (fun c_1 => ?_) (fun c_1 => ?_)
    · -- yes: nI k ge nI n
      have c_1 : n ≤ k := (nI_leI (a := n) (b := k) (by omega) (by omega)).mp c_1
      have hkN : k = n := by omega
      subst hkN
      exact hk  _ _ _ hP hD hS (lv_sub hl [0, 1, 2, 3] rfl)
    · -- no: nI k lt nI n
      have c_1 : ¬ n ≤ k := fun z => c_1 ((nI_leI (a := n) (b := k) (by omega) (by omega)).mpr z)
      refine lv_iload_n hx hb dX6_howManyNotOf_12 rfl (lv_at hl 1 rfl) ?_
      refine lv_aload_n hx hb dX6_howManyNotOf_13 rfl (lv_at hl 0 rfl) ?_
      refine va_get (D := G.1) (ci := 6) (v := .ref h4) (C := RX6) (T := TX6) (N := 7) hx hb hts hin_X6 hown hK.1 hP 0 rfl rfl 3 (by decide) hfl_21 (fun _ h9 => h9) rfl dX6_howManyNotOf_14 ?_
      refine lv_iload_n hx hb dX6_howManyNotOf_17 rfl (lv_at hl 3 rfl) ?_
      refine aIld hx hb hK.1 hP 4 0 rfl rfl (k := k) rfl (by omega) (by decide) dX6_howManyNotOf_18 ?_
      refine lv_ishr hx hb dX6_howManyNotOf_19 ?_
      refine lv_iconst (v := 1) hx hb dX6_howManyNotOf_20 (by decide) ?_
      refine lv_iand hx hb dX6_howManyNotOf_21 ?_
      refine lv_if_ne (tgt := 28) hx hb dX6_howManyNotOf_22 (by decide) (fun c_2 => ?_) (fun c_2 => ?_)
      · -- yes: (row >>> ((tm k) &&& 31)) &&& 1 ne 0
        refine lv_iinc (v := nI (k + 1)) (lv' := [(3, .int (nI (k + 1))), (0, .ref h0), (1, .int row), (2, .int (nI (hmn tm row k)))]) hx hb dX6_howManyNotOf_28 hl (k := 3) rfl (nI_inc _) (by decide) rfl (fun ls hl => ?_)
        refine lv_goto (tgt := 4) hx hb dX6_howManyNotOf_31 (by decide) ?_
        exact ih (k + 1) (hmn tm row k) (by omega) (by omega) (by rw [hmn_s]; first | rw [if_pos (by assumption)] | rw [if_neg (by assumption)])  _ _ _ hP hD hS (lv_sub hl [1, 2, 3, 0] rfl)
      · -- no: (row >>> ((tm k) &&& 31)) &&& 1 eq 0
        refine lv_iinc (v := nI ((hmn tm row k) + 1)) (lv' := [(2, .int (nI ((hmn tm row k) + 1))), (0, .ref h0), (1, .int row), (3, .int (nI k))]) hx hb dX6_howManyNotOf_25 hl (k := 2) rfl (nI_inc _) (by decide) rfl (fun ls hl => ?_)
        refine lv_iinc (v := nI (k + 1)) (lv' := [(3, .int (nI (k + 1))), (2, .int (nI ((hmn tm row k) + 1))), (0, .ref h0), (1, .int row)]) hx hb dX6_howManyNotOf_28 hl (k := 3) rfl (nI_inc _) (by decide) rfl (fun ls hl => ?_)
        refine lv_goto (tgt := 4) hx hb dX6_howManyNotOf_31 (by decide) ?_
        exact ih (k + 1) ((hmn tm row k) + 1) (by omega) (by omega) (by rw [hmn_s]; first | rw [if_pos (by assumption)] | rw [if_neg (by assumption)])  _ _ _ hP hD hS (lv_sub hl [2, 3, 1, 0] rfl)

set_option maxHeartbeats 4000000 in
set_option maxRecDepth 100000 in
theorem c_X6_howManyNotOf (l : Launch) (G : gT) (h0 : Nat) (h1 : Nat) (h2 : Nat) (h3 : Nat) (h4 : Nat) (tk : Nat → Int32) (tc : Nat → Int32) (tr : Nat → Int32) (tm : Nat → Int32) (n : Nat) (th : Int32) (te : Int32) (row : Int32) (hn : n ≤ 12) : Met l yX6_howManyNotOf wsX6_howManyNotOf ({ frames := 0, cells := 0, slots := 0, locals := 0 }) (cPre G [.ref h0, .int row] [(h0, .inr (6, [.ref h1, .ref h2, .ref h3, .ref h4, .int (nI n), .int th, .int te])), (h1, .inl (G.2 0, 12, .inl tk)), (h2, .inl (G.2 0, 12, .inl tc)), (h3, .inl (G.2 0, 12, .inl tr)), (h4, .inl (G.2 0, 12, .inl tm))]) (va_Qi (fun (rv : Int32) (_u : Unit) => rv = nI (hmn tm row n)) (cW G [(h0, .inr (6, [.ref h1, .ref h2, .ref h3, .ref h4, .int (nI n), .int th, .int te])), (h1, .inl (G.2 0, 12, .inl tk)), (h2, .inl (G.2 0, 12, .inl tc)), (h3, .inl (G.2 0, 12, .inl tr)), (h4, .inl (G.2 0, 12, .inl tm))] (fun (_u : Unit) => [(h0, .inr (6, [.ref h1, .ref h2, .ref h3, .ref h4, .int (nI n), .int th, .int te])), (h1, .inl (G.2 0, 12, .inl tk)), (h2, .inl (G.2 0, 12, .inl tc)), (h3, .inl (G.2 0, 12, .inl tr)), (h4, .inl (G.2 0, 12, .inl tm))])) (pB [(h0, .inr (6, [.ref h1, .ref h2, .ref h3, .ref h4, .int (nI n), .int th, .int te])), (h1, .inl (G.2 0, 12, .inl tk)), (h2, .inl (G.2 0, 12, .inl tc)), (h3, .inl (G.2 0, 12, .inl tr)), (h4, .inl (G.2 0, 12, .inl tm))])) 0 0 (pB [(h0, .inr (6, [.ref h1, .ref h2, .ref h3, .ref h4, .int (nI n), .int th, .int te])), (h1, .inl (G.2 0, 12, .inl tk)), (h2, .inl (G.2 0, 12, .inl tc)), (h3, .inl (G.2 0, 12, .inl tr)), (h4, .inl (G.2 0, 12, .inl tm))]) := by
  refine ofCX (G := G) (cc := cX6_howManyNotOf) (maxL := 4) (ret := (some .int)) (by decide) rfl (Nat.le_of_ble_eq_true rfl) ?_
  intro p e s m below meth c ls C hr hin hD hP hl
  obtain ⟨hx, hb, hml, hown, hts, hlocks, hK⟩ := id C
  have hown : s.vm.findClass RX6 = some m.cls := hown
  generalize hAe : pB [(h0, .inr (6, [.ref h1, .ref h2, .ref h3, .ref h4, .int (nI n), .int th, .int te])), (h1, .inl (G.2 0, 12, .inl tk)), (h2, .inl (G.2 0, 12, .inl tc)), (h3, .inl (G.2 0, 12, .inl tr)), (h4, .inl (G.2 0, 12, .inl tm))] = A at hD ⊢
  have hS : va_S A s.heap s.heap [] := va_S.rf
  have hP : va_P G.1 vwCl [(h0, .inr (6, [.ref h1, .ref h2, .ref h3, .ref h4, .int (nI n), .int th, .int te])), (h1, .inl (G.2 0, 12, .inl tk)), (h2, .inl (G.2 0, 12, .inl tc)), (h3, .inl (G.2 0, 12, .inl tr)), (h4, .inl (G.2 0, 12, .inl tm))] s.heap := hP
  have hD : va_D A [(h0, .inr (6, [.ref h1, .ref h2, .ref h3, .ref h4, .int (nI n), .int th, .int te])), (h1, .inl (G.2 0, 12, .inl tk)), (h2, .inl (G.2 0, 12, .inl tc)), (h3, .inl (G.2 0, 12, .inl tr)), (h4, .inl (G.2 0, 12, .inl tm))] := hD
  have hl : lv_has ls 4 [(0, .ref h0), (1, .int row)] := hl
  refine lv_iconst (v := 0) hx hb dX6_howManyNotOf_0 (by decide) ?_
  refine lv_istore_n (lv' := [(2, .int 0), (0, .ref h0), (1, .int row)]) hx hb dX6_howManyNotOf_1 rfl hl (by decide) rfl (fun ls hl => ?_)
  refine lv_iconst (v := 0) hx hb dX6_howManyNotOf_2 (by decide) ?_
  refine lv_istore_n (lv' := [(3, .int 0), (2, .int 0), (0, .ref h0), (1, .int row)]) hx hb dX6_howManyNotOf_3 rfl hl (by decide) rfl (fun ls hl => ?_)
  refine lp_X6_howManyNotOf_4 C h0 h1 h2 h3 h4 tk tc tr tm n th te row (by first | omega | assumption) (fun  H locs ls hP hD hS hl => ?_) (n + 1) 0 0 (by omega) (by omega) rfl  _ _ _ hP hD hS (lv_sub hl [2, 3, 1, 0] rfl)
  have hP : va_P G.1 vwCl [(h0, .inr (6, [.ref h1, .ref h2, .ref h3, .ref h4, .int (nI n), .int th, .int te])), (h1, .inl (G.2 0, 12, .inl tk)), (h2, .inl (G.2 0, 12, .inl tc)), (h3, .inl (G.2 0, 12, .inl tr)), (h4, .inl (G.2 0, 12, .inl tm))] H := hP
  have hD : va_D A [(h0, .inr (6, [.ref h1, .ref h2, .ref h3, .ref h4, .int (nI n), .int th, .int te])), (h1, .inl (G.2 0, 12, .inl tk)), (h2, .inl (G.2 0, 12, .inl tc)), (h3, .inl (G.2 0, 12, .inl tr)), (h4, .inl (G.2 0, 12, .inl tm))] := hD
  refine lv_iload_n hx hb dX6_howManyNotOf_34 rfl (lv_at hl 2 rfl) ?_
  exact rtI C hr hAe (u := ()) hP hD hS dX6_howManyNotOf_35 rfl

set_option maxHeartbeats 4000000 in
set_option maxRecDepth 100000 in
theorem c_X2_learn (l : Launch) (G : gT) (h0 : Nat) (h1 : Nat) (h2 : Nat) (h3 : Nat) (h4 : Nat) (df : Nat → Int32) (da : Nat → Int32) (dm : Nat → Int32) (dw : Nat → Int32) (kn : Int32) (g1 : Int32) (g2 : Int32) (g3 : Int32) (g4 : Int32) (i : Nat) (a : Int32) (b : Int32) (x3 : Int32) (d : Int32) (hi : i < 10) : Met l yX2_learn wsX2_learn ({ frames := 1, cells := 0, slots := 0, locals := 22 }) (cPre G [.ref h0, .int (nI i), .int a, .int b, .int x3, .int d] [(h0, .inr (2, [.ref h1, .ref h2, .ref h3, .ref h4, .int kn, .int g1, .int g2, .int g3, .int g4])), (h1, .inl (G.2 0, 10, .inl df)), (h2, .inl (G.2 0, 10, .inl da)), (h3, .inl (G.2 0, 10, .inl dm)), (h4, .inl (G.2 0, 10, .inl dw))]) (va_Qv (fun (u : (Nat → Int32) × (Nat → Int32) × (Nat → Int32) × (Nat → Int32) × Int32) => u.1 = upd df i a ∧ u.2.1 = upd da i b ∧ u.2.2.1 = upd dm i x3 ∧ u.2.2.2.1 = upd dw i d ∧ u.2.2.2.2 = kn ||| (1 <<< (nI i &&& 31))) (cW G [(h0, .inr (2, [.ref h1, .ref h2, .ref h3, .ref h4, .int kn, .int g1, .int g2, .int g3, .int g4])), (h1, .inl (G.2 0, 10, .inl df)), (h2, .inl (G.2 0, 10, .inl da)), (h3, .inl (G.2 0, 10, .inl dm)), (h4, .inl (G.2 0, 10, .inl dw))] (fun (u : (Nat → Int32) × (Nat → Int32) × (Nat → Int32) × (Nat → Int32) × Int32) => [(h0, .inr (2, [.ref h1, .ref h2, .ref h3, .ref h4, .int u.2.2.2.2, .int g1, .int g2, .int g3, .int g4])), (h1, .inl (G.2 0, 10, .inl u.1)), (h2, .inl (G.2 0, 10, .inl u.2.1)), (h3, .inl (G.2 0, 10, .inl u.2.2.1)), (h4, .inl (G.2 0, 10, .inl u.2.2.2.1))])) (pB [(h0, .inr (2, [.ref h1, .ref h2, .ref h3, .ref h4, .int kn, .int g1, .int g2, .int g3, .int g4])), (h1, .inl (G.2 0, 10, .inl df)), (h2, .inl (G.2 0, 10, .inl da)), (h3, .inl (G.2 0, 10, .inl dm)), (h4, .inl (G.2 0, 10, .inl dw))])) 0 0 (pB [(h0, .inr (2, [.ref h1, .ref h2, .ref h3, .ref h4, .int kn, .int g1, .int g2, .int g3, .int g4])), (h1, .inl (G.2 0, 10, .inl df)), (h2, .inl (G.2 0, 10, .inl da)), (h3, .inl (G.2 0, 10, .inl dm)), (h4, .inl (G.2 0, 10, .inl dw))]) := by
  refine ofCX (G := G) (cc := cX2_learn) (maxL := 6) (ret := none) (by decide) rfl (Nat.le_of_ble_eq_true rfl) ?_
  intro p e s m below meth c ls C hr hin hD hP hl
  obtain ⟨hx, hb, hml, hown, hts, hlocks, hK⟩ := id C
  have hown : s.vm.findClass RX2 = some m.cls := hown
  have hini_RX7 := hts (.initialized RX7) (by decide +kernel)
  have hst_X7_isWithin := hts (.static yX7_isWithin) (by decide +kernel)
  have hfl_9 := hts (.fieldLink RX2 9 "AfterDesk$Deeds" "fees" "[I") (by decide +kernel)
  have hin_X2 : ∀ w ∈ wsX20, w ∈ wsX2_learn := by decide +kernel
  have hfl_15 := hts (.fieldLink RX2 15 "AfterDesk$Deeds" "alwaysRows" "[I") (by decide +kernel)
  have hfl_18 := hts (.fieldLink RX2 18 "AfterDesk$Deeds" "mostlyRows" "[I") (by decide +kernel)
  have hfl_21 := hts (.fieldLink RX2 21 "AfterDesk$Deeds" "wipesRows" "[I") (by decide +kernel)
  have hfl_24 := hts (.fieldLink RX2 24 "AfterDesk$Deeds" "known" "I") (by decide +kernel)
  generalize hAe : pB [(h0, .inr (2, [.ref h1, .ref h2, .ref h3, .ref h4, .int kn, .int g1, .int g2, .int g3, .int g4])), (h1, .inl (G.2 0, 10, .inl df)), (h2, .inl (G.2 0, 10, .inl da)), (h3, .inl (G.2 0, 10, .inl dm)), (h4, .inl (G.2 0, 10, .inl dw))] = A at hD ⊢
  have hS : va_S A s.heap s.heap [] := va_S.rf
  have hP : va_P G.1 vwCl [(h0, .inr (2, [.ref h1, .ref h2, .ref h3, .ref h4, .int kn, .int g1, .int g2, .int g3, .int g4])), (h1, .inl (G.2 0, 10, .inl df)), (h2, .inl (G.2 0, 10, .inl da)), (h3, .inl (G.2 0, 10, .inl dm)), (h4, .inl (G.2 0, 10, .inl dw))] s.heap := hP
  have hD : va_D A [(h0, .inr (2, [.ref h1, .ref h2, .ref h3, .ref h4, .int kn, .int g1, .int g2, .int g3, .int g4])), (h1, .inl (G.2 0, 10, .inl df)), (h2, .inl (G.2 0, 10, .inl da)), (h3, .inl (G.2 0, 10, .inl dm)), (h4, .inl (G.2 0, 10, .inl dw))] := hD
  have hl : lv_has ls 6 [(0, .ref h0), (1, .int (nI i)), (2, .int a), (3, .int b), (4, .int x3), (5, .int d)] := hl
  refine lv_iload_n hx hb dX2_learn_0 rfl (lv_at hl 1 rfl) ?_
  refine lv_iconst (v := 0) hx hb dX2_learn_1 (by decide) ?_
  refine lv_bipush (v := 9) hx hb dX2_learn_2 (by decide) ?_
  refine xI (S := Unit) (va_runSN (As := [.int (nI i), .int 0, .int 9]) (rest := []) ⟨hx, hb, hml, hown, hts⟩ (c_X7_isWithin l G (nI i) 0 9) ⟨va_cnB 3 hts gX2_learn_X7_isWithin_n40 rfl rfl rfl (hK.2.1 _ nst_X2_40) hini_RX7 (by decide +kernel) ⟨Nat.le_of_ble_eq_true rfl, Nat.le_of_ble_eq_true rfl⟩, hst_X7_isWithin, trivial⟩ (pS [.int (nI i), .int 0, .int 9] hK (hP.sub (ws' := []) [] rfl) (hD.sub (ws' := []) [] (by decide) rfl)) rfl rfl hl.1 rfl (lv_room (Nat.le_of_ble_eq_true rfl)) dX2_learn_4 ⟨Nat.zero_le _, Nat.zero_le _⟩) hP hD hS [] [0, 1, 2, 3, 4] (wr := [(h0, .inr (2, [.ref h1, .ref h2, .ref h3, .ref h4, .int kn, .int g1, .int g2, .int g3, .int g4])), (h1, .inl (G.2 0, 10, .inl df)), (h2, .inl (G.2 0, 10, .inl da)), (h3, .inl (G.2 0, 10, .inl dm)), (h4, .inl (G.2 0, 10, .inl dw))]) rfl rfl (by decide) (by decide) [0, 1, 2, 3, 4] (w2 := fun (_ : Unit) => [(h0, .inr (2, [.ref h1, .ref h2, .ref h3, .ref h4, .int kn, .int g1, .int g2, .int g3, .int g4])), (h1, .inl (G.2 0, 10, .inl df)), (h2, .inl (G.2 0, 10, .inl da)), (h3, .inl (G.2 0, 10, .inl dm)), (h4, .inl (G.2 0, 10, .inl dw))]) (fun _ => rfl) (by decide) (fun r_1 u_2 H locs hw_3 hP hD hS => ?_)
  (try dsimp only at hw_3); subst hw_3
  have hP : va_P G.1 vwCl [(h0, .inr (2, [.ref h1, .ref h2, .ref h3, .ref h4, .int kn, .int g1, .int g2, .int g3, .int g4])), (h1, .inl (G.2 0, 10, .inl df)), (h2, .inl (G.2 0, 10, .inl da)), (h3, .inl (G.2 0, 10, .inl dm)), (h4, .inl (G.2 0, 10, .inl dw))] H := hP
  have hD : va_D A [(h0, .inr (2, [.ref h1, .ref h2, .ref h3, .ref h4, .int kn, .int g1, .int g2, .int g3, .int g4])), (h1, .inl (G.2 0, 10, .inl df)), (h2, .inl (G.2 0, 10, .inl da)), (h3, .inl (G.2 0, 10, .inl dm)), (h4, .inl (G.2 0, 10, .inl dw))] := hD
  refine lv_if_eq (tgt := 52) hx hb dX2_learn_7 (by decide) (fun c_4 => ?_) (fun c_4 => ?_)
  · -- yes: bI (decide (0 ≤ (nI i).toInt ∧ (nI i).toInt ≤ 9)) eq 0
    have c_4 : ¬ (0 ≤ (nI i).toInt ∧ (nI i).toInt ≤ 9) := bD0 c_4
    simp (disch := omega) only [sub1_toInt, nI_toInt] at c_4
    exfalso; omega
  · -- no: bI (decide (0 ≤ (nI i).toInt ∧ (nI i).toInt ≤ 9)) ne 0
    have c_4 : 0 ≤ (nI i).toInt ∧ (nI i).toInt ≤ 9 := bD1 c_4
    simp (disch := omega) only [sub1_toInt, nI_toInt] at c_4
    refine lv_aload_n hx hb dX2_learn_10 rfl (lv_at hl 0 rfl) ?_
    refine va_get (D := G.1) (ci := 2) (v := .ref h1) (C := RX2) (T := TX2) (N := 9) hx hb hts hin_X2 hown hK.1 hP 0 rfl rfl 0 (by decide) hfl_9 (fun _ h9 => h9) rfl dX2_learn_11 ?_
    refine lv_iload_n hx hb dX2_learn_14 rfl (lv_at hl 1 rfl) ?_
    refine lv_iload_n hx hb dX2_learn_15 rfl (lv_at hl 2 rfl) ?_
    refine aIst hx hb hK.1 hP hD hS 1 0 rfl rfl (k := i) rfl (by omega) (by decide) dX2_learn_16 (fun H locs hP hD hS => ?_)
    have hP : va_P G.1 vwCl [(h0, .inr (2, [.ref h1, .ref h2, .ref h3, .ref h4, .int kn, .int g1, .int g2, .int g3, .int g4])), (h1, .inl (G.2 0, 10, .inl (upd df i a))), (h2, .inl (G.2 0, 10, .inl da)), (h3, .inl (G.2 0, 10, .inl dm)), (h4, .inl (G.2 0, 10, .inl dw))] H := hP
    have hD : va_D A [(h0, .inr (2, [.ref h1, .ref h2, .ref h3, .ref h4, .int kn, .int g1, .int g2, .int g3, .int g4])), (h1, .inl (G.2 0, 10, .inl (upd df i a))), (h2, .inl (G.2 0, 10, .inl da)), (h3, .inl (G.2 0, 10, .inl dm)), (h4, .inl (G.2 0, 10, .inl dw))] := hD
    refine lv_aload_n hx hb dX2_learn_17 rfl (lv_at hl 0 rfl) ?_
    refine va_get (D := G.1) (ci := 2) (v := .ref h2) (C := RX2) (T := TX2) (N := 9) hx hb hts hin_X2 hown hK.1 hP 0 rfl rfl 1 (by decide) hfl_15 (fun _ h9 => h9) rfl dX2_learn_18 ?_
    refine lv_iload_n hx hb dX2_learn_21 rfl (lv_at hl 1 rfl) ?_
    refine lv_iload_n hx hb dX2_learn_22 rfl (lv_at hl 3 rfl) ?_
    refine aIst hx hb hK.1 hP hD hS 2 0 rfl rfl (k := i) rfl (by omega) (by decide) dX2_learn_23 (fun H locs hP hD hS => ?_)
    have hP : va_P G.1 vwCl [(h0, .inr (2, [.ref h1, .ref h2, .ref h3, .ref h4, .int kn, .int g1, .int g2, .int g3, .int g4])), (h1, .inl (G.2 0, 10, .inl (upd df i a))), (h2, .inl (G.2 0, 10, .inl (upd da i b))), (h3, .inl (G.2 0, 10, .inl dm)), (h4, .inl (G.2 0, 10, .inl dw))] H := hP
    have hD : va_D A [(h0, .inr (2, [.ref h1, .ref h2, .ref h3, .ref h4, .int kn, .int g1, .int g2, .int g3, .int g4])), (h1, .inl (G.2 0, 10, .inl (upd df i a))), (h2, .inl (G.2 0, 10, .inl (upd da i b))), (h3, .inl (G.2 0, 10, .inl dm)), (h4, .inl (G.2 0, 10, .inl dw))] := hD
    refine lv_aload_n hx hb dX2_learn_24 rfl (lv_at hl 0 rfl) ?_
    refine va_get (D := G.1) (ci := 2) (v := .ref h3) (C := RX2) (T := TX2) (N := 9) hx hb hts hin_X2 hown hK.1 hP 0 rfl rfl 2 (by decide) hfl_18 (fun _ h9 => h9) rfl dX2_learn_25 ?_
    refine lv_iload_n hx hb dX2_learn_28 rfl (lv_at hl 1 rfl) ?_
    refine lv_iload hx hb dX2_learn_29 (lv_at hl 4 rfl) ?_
    refine aIst hx hb hK.1 hP hD hS 3 0 rfl rfl (k := i) rfl (by omega) (by decide) dX2_learn_31 (fun H locs hP hD hS => ?_)
    have hP : va_P G.1 vwCl [(h0, .inr (2, [.ref h1, .ref h2, .ref h3, .ref h4, .int kn, .int g1, .int g2, .int g3, .int g4])), (h1, .inl (G.2 0, 10, .inl (upd df i a))), (h2, .inl (G.2 0, 10, .inl (upd da i b))), (h3, .inl (G.2 0, 10, .inl (upd dm i x3))), (h4, .inl (G.2 0, 10, .inl dw))] H := hP
    have hD : va_D A [(h0, .inr (2, [.ref h1, .ref h2, .ref h3, .ref h4, .int kn, .int g1, .int g2, .int g3, .int g4])), (h1, .inl (G.2 0, 10, .inl (upd df i a))), (h2, .inl (G.2 0, 10, .inl (upd da i b))), (h3, .inl (G.2 0, 10, .inl (upd dm i x3))), (h4, .inl (G.2 0, 10, .inl dw))] := hD
    refine lv_aload_n hx hb dX2_learn_32 rfl (lv_at hl 0 rfl) ?_
    refine va_get (D := G.1) (ci := 2) (v := .ref h4) (C := RX2) (T := TX2) (N := 9) hx hb hts hin_X2 hown hK.1 hP 0 rfl rfl 3 (by decide) hfl_21 (fun _ h9 => h9) rfl dX2_learn_33 ?_
    refine lv_iload_n hx hb dX2_learn_36 rfl (lv_at hl 1 rfl) ?_
    refine lv_iload hx hb dX2_learn_37 (lv_at hl 5 rfl) ?_
    refine aIst hx hb hK.1 hP hD hS 4 0 rfl rfl (k := i) rfl (by omega) (by decide) dX2_learn_39 (fun H locs hP hD hS => ?_)
    have hP : va_P G.1 vwCl [(h0, .inr (2, [.ref h1, .ref h2, .ref h3, .ref h4, .int kn, .int g1, .int g2, .int g3, .int g4])), (h1, .inl (G.2 0, 10, .inl (upd df i a))), (h2, .inl (G.2 0, 10, .inl (upd da i b))), (h3, .inl (G.2 0, 10, .inl (upd dm i x3))), (h4, .inl (G.2 0, 10, .inl (upd dw i d)))] H := hP
    have hD : va_D A [(h0, .inr (2, [.ref h1, .ref h2, .ref h3, .ref h4, .int kn, .int g1, .int g2, .int g3, .int g4])), (h1, .inl (G.2 0, 10, .inl (upd df i a))), (h2, .inl (G.2 0, 10, .inl (upd da i b))), (h3, .inl (G.2 0, 10, .inl (upd dm i x3))), (h4, .inl (G.2 0, 10, .inl (upd dw i d)))] := hD
    refine lv_aload_n hx hb dX2_learn_40 rfl (lv_at hl 0 rfl) ?_
    refine lv_dup hx hb dX2_learn_41 rfl ?_
    refine va_get (D := G.1) (ci := 2) (v := .int kn) (C := RX2) (T := TX2) (N := 9) hx hb hts hin_X2 hown hK.1 hP 0 rfl rfl 4 (by decide) hfl_24 (fun _ h9 => h9) rfl dX2_learn_42 ?_
    refine lv_iconst (v := 1) hx hb dX2_learn_45 (by decide) ?_
    refine lv_iload_n hx hb dX2_learn_46 rfl (lv_at hl 1 rfl) ?_
    refine lv_ishl hx hb dX2_learn_47 ?_
    refine lv_ior hx hb dX2_learn_48 ?_
    refine va_put (D := G.1) (ci := 2) (v := .int (kn ||| (1 <<< ((nI i) &&& 31)))) (ty := .int) (C := RX2) (T := TX2) (N := 9) hx hb hts hin_X2 tyX2 tyX2_ok nmX2 hown hK.1 hP hD hS 0 rfl rfl 4 (by decide) hfl_24 (fun _ h9 => h9) rfl (by decide +kernel) rfl rfl (Nat.le_of_ble_eq_true rfl) dX2_learn_49 (fun H locs hP hD hS => ?_)
    have hP : va_P G.1 vwCl [(h0, .inr (2, [.ref h1, .ref h2, .ref h3, .ref h4, .int (kn ||| (1 <<< ((nI i) &&& 31))), .int g1, .int g2, .int g3, .int g4])), (h1, .inl (G.2 0, 10, .inl (upd df i a))), (h2, .inl (G.2 0, 10, .inl (upd da i b))), (h3, .inl (G.2 0, 10, .inl (upd dm i x3))), (h4, .inl (G.2 0, 10, .inl (upd dw i d)))] H := hP
    have hD : va_D A [(h0, .inr (2, [.ref h1, .ref h2, .ref h3, .ref h4, .int (kn ||| (1 <<< ((nI i) &&& 31))), .int g1, .int g2, .int g3, .int g4])), (h1, .inl (G.2 0, 10, .inl (upd df i a))), (h2, .inl (G.2 0, 10, .inl (upd da i b))), (h3, .inl (G.2 0, 10, .inl (upd dm i x3))), (h4, .inl (G.2 0, 10, .inl (upd dw i d)))] := hD
    exact rtV C hr hAe (u := ((upd df i a), (upd da i b), (upd dm i x3), (upd dw i d), (kn ||| (1 <<< ((nI i) &&& 31))))) hP hD hS dX2_learn_52 (by exact ⟨rfl, rfl, rfl, rfl, rfl⟩)

set_option maxHeartbeats 4000000 in
set_option maxRecDepth 100000 in
theorem c_X2_unlearn (l : Launch) (G : gT) (h0 : Nat) (h1 : Nat) (h2 : Nat) (h3 : Nat) (h4 : Nat) (df : Nat → Int32) (da : Nat → Int32) (dm : Nat → Int32) (dw : Nat → Int32) (kn : Int32) (g1 : Int32) (g2 : Int32) (g3 : Int32) (g4 : Int32) (i : Nat) (hi : i < 10) : Met l yX2_unlearn wsX2_unlearn ({ frames := 1, cells := 0, slots := 0, locals := 22 }) (cPre G [.ref h0, .int (nI i)] [(h0, .inr (2, [.ref h1, .ref h2, .ref h3, .ref h4, .int kn, .int g1, .int g2, .int g3, .int g4])), (h1, .inl (G.2 0, 10, .inl df)), (h2, .inl (G.2 0, 10, .inl da)), (h3, .inl (G.2 0, 10, .inl dm)), (h4, .inl (G.2 0, 10, .inl dw))]) (va_Qv (fun (u : Int32) => u = kn &&& ((1 <<< (nI i &&& 31)) ^^^ (-1))) (cW G [(h0, .inr (2, [.ref h1, .ref h2, .ref h3, .ref h4, .int kn, .int g1, .int g2, .int g3, .int g4])), (h1, .inl (G.2 0, 10, .inl df)), (h2, .inl (G.2 0, 10, .inl da)), (h3, .inl (G.2 0, 10, .inl dm)), (h4, .inl (G.2 0, 10, .inl dw))] (fun (u : Int32) => [(h0, .inr (2, [.ref h1, .ref h2, .ref h3, .ref h4, .int u, .int g1, .int g2, .int g3, .int g4])), (h1, .inl (G.2 0, 10, .inl df)), (h2, .inl (G.2 0, 10, .inl da)), (h3, .inl (G.2 0, 10, .inl dm)), (h4, .inl (G.2 0, 10, .inl dw))])) (pB [(h0, .inr (2, [.ref h1, .ref h2, .ref h3, .ref h4, .int kn, .int g1, .int g2, .int g3, .int g4])), (h1, .inl (G.2 0, 10, .inl df)), (h2, .inl (G.2 0, 10, .inl da)), (h3, .inl (G.2 0, 10, .inl dm)), (h4, .inl (G.2 0, 10, .inl dw))])) 0 0 (pB [(h0, .inr (2, [.ref h1, .ref h2, .ref h3, .ref h4, .int kn, .int g1, .int g2, .int g3, .int g4])), (h1, .inl (G.2 0, 10, .inl df)), (h2, .inl (G.2 0, 10, .inl da)), (h3, .inl (G.2 0, 10, .inl dm)), (h4, .inl (G.2 0, 10, .inl dw))]) := by
  refine ofCX (G := G) (cc := cX2_unlearn) (maxL := 2) (ret := none) (by decide) rfl (Nat.le_of_ble_eq_true rfl) ?_
  intro p e s m below meth c ls C hr hin hD hP hl
  obtain ⟨hx, hb, hml, hown, hts, hlocks, hK⟩ := id C
  have hown : s.vm.findClass RX2 = some m.cls := hown
  have hini_RX7 := hts (.initialized RX7) (by decide +kernel)
  have hst_X7_isWithin := hts (.static yX7_isWithin) (by decide +kernel)
  have hfl_24 := hts (.fieldLink RX2 24 "AfterDesk$Deeds" "known" "I") (by decide +kernel)
  have hin_X2 : ∀ w ∈ wsX20, w ∈ wsX2_unlearn := by decide +kernel
  generalize hAe : pB [(h0, .inr (2, [.ref h1, .ref h2, .ref h3, .ref h4, .int kn, .int g1, .int g2, .int g3, .int g4])), (h1, .inl (G.2 0, 10, .inl df)), (h2, .inl (G.2 0, 10, .inl da)), (h3, .inl (G.2 0, 10, .inl dm)), (h4, .inl (G.2 0, 10, .inl dw))] = A at hD ⊢
  have hS : va_S A s.heap s.heap [] := va_S.rf
  have hP : va_P G.1 vwCl [(h0, .inr (2, [.ref h1, .ref h2, .ref h3, .ref h4, .int kn, .int g1, .int g2, .int g3, .int g4])), (h1, .inl (G.2 0, 10, .inl df)), (h2, .inl (G.2 0, 10, .inl da)), (h3, .inl (G.2 0, 10, .inl dm)), (h4, .inl (G.2 0, 10, .inl dw))] s.heap := hP
  have hD : va_D A [(h0, .inr (2, [.ref h1, .ref h2, .ref h3, .ref h4, .int kn, .int g1, .int g2, .int g3, .int g4])), (h1, .inl (G.2 0, 10, .inl df)), (h2, .inl (G.2 0, 10, .inl da)), (h3, .inl (G.2 0, 10, .inl dm)), (h4, .inl (G.2 0, 10, .inl dw))] := hD
  have hl : lv_has ls 2 [(0, .ref h0), (1, .int (nI i))] := hl
  refine lv_iload_n hx hb dX2_unlearn_0 rfl (lv_at hl 1 rfl) ?_
  refine lv_iconst (v := 0) hx hb dX2_unlearn_1 (by decide) ?_
  refine lv_bipush (v := 9) hx hb dX2_unlearn_2 (by decide) ?_
  refine xI (S := Unit) (va_runSN (As := [.int (nI i), .int 0, .int 9]) (rest := []) ⟨hx, hb, hml, hown, hts⟩ (c_X7_isWithin l G (nI i) 0 9) ⟨va_cnB 3 hts gX2_unlearn_X7_isWithin_n40 rfl rfl rfl (hK.2.1 _ nst_X2_40) hini_RX7 (by decide +kernel) ⟨Nat.le_of_ble_eq_true rfl, Nat.le_of_ble_eq_true rfl⟩, hst_X7_isWithin, trivial⟩ (pS [.int (nI i), .int 0, .int 9] hK (hP.sub (ws' := []) [] rfl) (hD.sub (ws' := []) [] (by decide) rfl)) rfl rfl hl.1 rfl (lv_room (Nat.le_of_ble_eq_true rfl)) dX2_unlearn_4 ⟨Nat.zero_le _, Nat.zero_le _⟩) hP hD hS [] [0, 1, 2, 3, 4] (wr := [(h0, .inr (2, [.ref h1, .ref h2, .ref h3, .ref h4, .int kn, .int g1, .int g2, .int g3, .int g4])), (h1, .inl (G.2 0, 10, .inl df)), (h2, .inl (G.2 0, 10, .inl da)), (h3, .inl (G.2 0, 10, .inl dm)), (h4, .inl (G.2 0, 10, .inl dw))]) rfl rfl (by decide) (by decide) [0, 1, 2, 3, 4] (w2 := fun (_ : Unit) => [(h0, .inr (2, [.ref h1, .ref h2, .ref h3, .ref h4, .int kn, .int g1, .int g2, .int g3, .int g4])), (h1, .inl (G.2 0, 10, .inl df)), (h2, .inl (G.2 0, 10, .inl da)), (h3, .inl (G.2 0, 10, .inl dm)), (h4, .inl (G.2 0, 10, .inl dw))]) (fun _ => rfl) (by decide) (fun r_1 u_2 H locs hw_3 hP hD hS => ?_)
  (try dsimp only at hw_3); subst hw_3
  have hP : va_P G.1 vwCl [(h0, .inr (2, [.ref h1, .ref h2, .ref h3, .ref h4, .int kn, .int g1, .int g2, .int g3, .int g4])), (h1, .inl (G.2 0, 10, .inl df)), (h2, .inl (G.2 0, 10, .inl da)), (h3, .inl (G.2 0, 10, .inl dm)), (h4, .inl (G.2 0, 10, .inl dw))] H := hP
  have hD : va_D A [(h0, .inr (2, [.ref h1, .ref h2, .ref h3, .ref h4, .int kn, .int g1, .int g2, .int g3, .int g4])), (h1, .inl (G.2 0, 10, .inl df)), (h2, .inl (G.2 0, 10, .inl da)), (h3, .inl (G.2 0, 10, .inl dm)), (h4, .inl (G.2 0, 10, .inl dw))] := hD
  refine lv_if_eq (tgt := 24) hx hb dX2_unlearn_7 (by decide) (fun c_4 => ?_) (fun c_4 => ?_)
  · -- yes: bI (decide (0 ≤ (nI i).toInt ∧ (nI i).toInt ≤ 9)) eq 0
    have c_4 : ¬ (0 ≤ (nI i).toInt ∧ (nI i).toInt ≤ 9) := bD0 c_4
    simp (disch := omega) only [sub1_toInt, nI_toInt] at c_4
    exfalso; omega
  · -- no: bI (decide (0 ≤ (nI i).toInt ∧ (nI i).toInt ≤ 9)) ne 0
    have c_4 : 0 ≤ (nI i).toInt ∧ (nI i).toInt ≤ 9 := bD1 c_4
    simp (disch := omega) only [sub1_toInt, nI_toInt] at c_4
    refine lv_aload_n hx hb dX2_unlearn_10 rfl (lv_at hl 0 rfl) ?_
    refine lv_dup hx hb dX2_unlearn_11 rfl ?_
    refine va_get (D := G.1) (ci := 2) (v := .int kn) (C := RX2) (T := TX2) (N := 9) hx hb hts hin_X2 hown hK.1 hP 0 rfl rfl 4 (by decide) hfl_24 (fun _ h9 => h9) rfl dX2_unlearn_12 ?_
    refine lv_iconst (v := 1) hx hb dX2_unlearn_15 (by decide) ?_
    refine lv_iload_n hx hb dX2_unlearn_16 rfl (lv_at hl 1 rfl) ?_
    refine lv_ishl hx hb dX2_unlearn_17 ?_
    refine lv_iconst (v := -1) hx hb dX2_unlearn_18 (by decide) ?_
    refine lv_ixor hx hb dX2_unlearn_19 ?_
    refine lv_iand hx hb dX2_unlearn_20 ?_
    refine va_put (D := G.1) (ci := 2) (v := .int (kn &&& ((1 <<< ((nI i) &&& 31)) ^^^ (-1)))) (ty := .int) (C := RX2) (T := TX2) (N := 9) hx hb hts hin_X2 tyX2 tyX2_ok nmX2 hown hK.1 hP hD hS 0 rfl rfl 4 (by decide) hfl_24 (fun _ h9 => h9) rfl (by decide +kernel) rfl rfl (Nat.le_of_ble_eq_true rfl) dX2_unlearn_21 (fun H locs hP hD hS => ?_)
    have hP : va_P G.1 vwCl [(h0, .inr (2, [.ref h1, .ref h2, .ref h3, .ref h4, .int (kn &&& ((1 <<< ((nI i) &&& 31)) ^^^ (-1))), .int g1, .int g2, .int g3, .int g4])), (h1, .inl (G.2 0, 10, .inl df)), (h2, .inl (G.2 0, 10, .inl da)), (h3, .inl (G.2 0, 10, .inl dm)), (h4, .inl (G.2 0, 10, .inl dw))] H := hP
    have hD : va_D A [(h0, .inr (2, [.ref h1, .ref h2, .ref h3, .ref h4, .int (kn &&& ((1 <<< ((nI i) &&& 31)) ^^^ (-1))), .int g1, .int g2, .int g3, .int g4])), (h1, .inl (G.2 0, 10, .inl df)), (h2, .inl (G.2 0, 10, .inl da)), (h3, .inl (G.2 0, 10, .inl dm)), (h4, .inl (G.2 0, 10, .inl dw))] := hD
    exact rtV C hr hAe (u := (kn &&& ((1 <<< ((nI i) &&& 31)) ^^^ (-1)))) hP hD hS dX2_unlearn_24 rfl

set_option maxHeartbeats 4000000 in
set_option maxRecDepth 100000 in
theorem c_X2_isKnown (l : Launch) (G : gT) (h0 : Nat) (h1 : Nat) (h2 : Nat) (h3 : Nat) (h4 : Nat) (df : Nat → Int32) (da : Nat → Int32) (dm : Nat → Int32) (dw : Nat → Int32) (kn : Int32) (g1 : Int32) (g2 : Int32) (g3 : Int32) (g4 : Int32) (x : Int32) : Met l yX2_isKnown wsX2_isKnown ({ frames := 1, cells := 0, slots := 0, locals := 22 }) (cPre G [.ref h0, .int x] [(h0, .inr (2, [.ref h1, .ref h2, .ref h3, .ref h4, .int kn, .int g1, .int g2, .int g3, .int g4])), (h1, .inl (G.2 0, 10, .inl df)), (h2, .inl (G.2 0, 10, .inl da)), (h3, .inl (G.2 0, 10, .inl dm)), (h4, .inl (G.2 0, 10, .inl dw))]) (va_Qi (fun (rv : Int32) (_u : Unit) => rv = bI (decide ((0 ≤ x.toInt ∧ x.toInt ≤ 9) ∧ ¬ (kn >>> (x &&& 31)) &&& 1 = 0))) (cW G [(h0, .inr (2, [.ref h1, .ref h2, .ref h3, .ref h4, .int kn, .int g1, .int g2, .int g3, .int g4])), (h1, .inl (G.2 0, 10, .inl df)), (h2, .inl (G.2 0, 10, .inl da)), (h3, .inl (G.2 0, 10, .inl dm)), (h4, .inl (G.2 0, 10, .inl dw))] (fun (_u : Unit) => [(h0, .inr (2, [.ref h1, .ref h2, .ref h3, .ref h4, .int kn, .int g1, .int g2, .int g3, .int g4])), (h1, .inl (G.2 0, 10, .inl df)), (h2, .inl (G.2 0, 10, .inl da)), (h3, .inl (G.2 0, 10, .inl dm)), (h4, .inl (G.2 0, 10, .inl dw))])) (pB [(h0, .inr (2, [.ref h1, .ref h2, .ref h3, .ref h4, .int kn, .int g1, .int g2, .int g3, .int g4])), (h1, .inl (G.2 0, 10, .inl df)), (h2, .inl (G.2 0, 10, .inl da)), (h3, .inl (G.2 0, 10, .inl dm)), (h4, .inl (G.2 0, 10, .inl dw))])) 0 0 (pB [(h0, .inr (2, [.ref h1, .ref h2, .ref h3, .ref h4, .int kn, .int g1, .int g2, .int g3, .int g4])), (h1, .inl (G.2 0, 10, .inl df)), (h2, .inl (G.2 0, 10, .inl da)), (h3, .inl (G.2 0, 10, .inl dm)), (h4, .inl (G.2 0, 10, .inl dw))]) := by
  refine ofCX (G := G) (cc := cX2_isKnown) (maxL := 2) (ret := (some .boolean)) (by decide) rfl (Nat.le_of_ble_eq_true rfl) ?_
  intro p e s m below meth c ls C hr hin hD hP hl
  obtain ⟨hx, hb, hml, hown, hts, hlocks, hK⟩ := id C
  have hown : s.vm.findClass RX2 = some m.cls := hown
  have hini_RX7 := hts (.initialized RX7) (by decide +kernel)
  have hst_X7_isWithin := hts (.static yX7_isWithin) (by decide +kernel)
  have hfl_24 := hts (.fieldLink RX2 24 "AfterDesk$Deeds" "known" "I") (by decide +kernel)
  have hin_X2 : ∀ w ∈ wsX20, w ∈ wsX2_isKnown := by decide +kernel
  generalize hAe : pB [(h0, .inr (2, [.ref h1, .ref h2, .ref h3, .ref h4, .int kn, .int g1, .int g2, .int g3, .int g4])), (h1, .inl (G.2 0, 10, .inl df)), (h2, .inl (G.2 0, 10, .inl da)), (h3, .inl (G.2 0, 10, .inl dm)), (h4, .inl (G.2 0, 10, .inl dw))] = A at hD ⊢
  have hS : va_S A s.heap s.heap [] := va_S.rf
  have hP : va_P G.1 vwCl [(h0, .inr (2, [.ref h1, .ref h2, .ref h3, .ref h4, .int kn, .int g1, .int g2, .int g3, .int g4])), (h1, .inl (G.2 0, 10, .inl df)), (h2, .inl (G.2 0, 10, .inl da)), (h3, .inl (G.2 0, 10, .inl dm)), (h4, .inl (G.2 0, 10, .inl dw))] s.heap := hP
  have hD : va_D A [(h0, .inr (2, [.ref h1, .ref h2, .ref h3, .ref h4, .int kn, .int g1, .int g2, .int g3, .int g4])), (h1, .inl (G.2 0, 10, .inl df)), (h2, .inl (G.2 0, 10, .inl da)), (h3, .inl (G.2 0, 10, .inl dm)), (h4, .inl (G.2 0, 10, .inl dw))] := hD
  have hl : lv_has ls 2 [(0, .ref h0), (1, .int x)] := hl
  refine lv_iload_n hx hb dX2_isKnown_0 rfl (lv_at hl 1 rfl) ?_
  refine lv_iconst (v := 0) hx hb dX2_isKnown_1 (by decide) ?_
  refine lv_bipush (v := 9) hx hb dX2_isKnown_2 (by decide) ?_
  refine xI (S := Unit) (va_runSN (As := [.int x, .int 0, .int 9]) (rest := []) ⟨hx, hb, hml, hown, hts⟩ (c_X7_isWithin l G x 0 9) ⟨va_cnB 3 hts gX2_isKnown_X7_isWithin_n40 rfl rfl rfl (hK.2.1 _ nst_X2_40) hini_RX7 (by decide +kernel) ⟨Nat.le_of_ble_eq_true rfl, Nat.le_of_ble_eq_true rfl⟩, hst_X7_isWithin, trivial⟩ (pS [.int x, .int 0, .int 9] hK (hP.sub (ws' := []) [] rfl) (hD.sub (ws' := []) [] (by decide) rfl)) rfl rfl hl.1 rfl (lv_room (Nat.le_of_ble_eq_true rfl)) dX2_isKnown_4 ⟨Nat.zero_le _, Nat.zero_le _⟩) hP hD hS [] [0, 1, 2, 3, 4] (wr := [(h0, .inr (2, [.ref h1, .ref h2, .ref h3, .ref h4, .int kn, .int g1, .int g2, .int g3, .int g4])), (h1, .inl (G.2 0, 10, .inl df)), (h2, .inl (G.2 0, 10, .inl da)), (h3, .inl (G.2 0, 10, .inl dm)), (h4, .inl (G.2 0, 10, .inl dw))]) rfl rfl (by decide) (by decide) [0, 1, 2, 3, 4] (w2 := fun (_ : Unit) => [(h0, .inr (2, [.ref h1, .ref h2, .ref h3, .ref h4, .int kn, .int g1, .int g2, .int g3, .int g4])), (h1, .inl (G.2 0, 10, .inl df)), (h2, .inl (G.2 0, 10, .inl da)), (h3, .inl (G.2 0, 10, .inl dm)), (h4, .inl (G.2 0, 10, .inl dw))]) (fun _ => rfl) (by decide) (fun r_1 u_2 H locs hw_3 hP hD hS => ?_)
  (try dsimp only at hw_3); subst hw_3
  have hP : va_P G.1 vwCl [(h0, .inr (2, [.ref h1, .ref h2, .ref h3, .ref h4, .int kn, .int g1, .int g2, .int g3, .int g4])), (h1, .inl (G.2 0, 10, .inl df)), (h2, .inl (G.2 0, 10, .inl da)), (h3, .inl (G.2 0, 10, .inl dm)), (h4, .inl (G.2 0, 10, .inl dw))] H := hP
  have hD : va_D A [(h0, .inr (2, [.ref h1, .ref h2, .ref h3, .ref h4, .int kn, .int g1, .int g2, .int g3, .int g4])), (h1, .inl (G.2 0, 10, .inl df)), (h2, .inl (G.2 0, 10, .inl da)), (h3, .inl (G.2 0, 10, .inl dm)), (h4, .inl (G.2 0, 10, .inl dw))] := hD
  refine lv_if_eq (tgt := 25) hx hb dX2_isKnown_7 (by decide) (fun c_4 => ?_) (fun c_4 => ?_)
  · -- yes: bI (decide (0 ≤ x.toInt ∧ x.toInt ≤ 9)) eq 0
    have c_4 : ¬ (0 ≤ x.toInt ∧ x.toInt ≤ 9) := bD0 c_4
    refine lv_iconst (v := 0) hx hb dX2_isKnown_25 (by decide) ?_
    exact rtZ C hr rfl hAe (u := ()) hP hD hS dX2_isKnown_26 (by first | exact bI_t ⟨by omega, by assumption⟩ | exact bI_f (fun z => absurd z.1 (by omega)) | exact bI_f (fun z => z.2 (by assumption)))
  · -- no: bI (decide (0 ≤ x.toInt ∧ x.toInt ≤ 9)) ne 0
    have c_4 : 0 ≤ x.toInt ∧ x.toInt ≤ 9 := bD1 c_4
    refine lv_aload_n hx hb dX2_isKnown_10 rfl (lv_at hl 0 rfl) ?_
    refine va_get (D := G.1) (ci := 2) (v := .int kn) (C := RX2) (T := TX2) (N := 9) hx hb hts hin_X2 hown hK.1 hP 0 rfl rfl 4 (by decide) hfl_24 (fun _ h9 => h9) rfl dX2_isKnown_11 ?_
    refine lv_iload_n hx hb dX2_isKnown_14 rfl (lv_at hl 1 rfl) ?_
    refine lv_ishr hx hb dX2_isKnown_15 ?_
    refine lv_iconst (v := 1) hx hb dX2_isKnown_16 (by decide) ?_
    refine lv_iand hx hb dX2_isKnown_17 ?_
    refine lv_if_eq (tgt := 25) hx hb dX2_isKnown_18 (by decide) (fun c_5 => ?_) (fun c_5 => ?_)
    · -- yes: (kn >>> (x &&& 31)) &&& 1 eq 0
      refine lv_iconst (v := 0) hx hb dX2_isKnown_25 (by decide) ?_
      exact rtZ C hr rfl hAe (u := ()) hP hD hS dX2_isKnown_26 (by first | exact bI_t ⟨by omega, by assumption⟩ | exact bI_f (fun z => absurd z.1 (by omega)) | exact bI_f (fun z => z.2 (by assumption)))
    · -- no: (kn >>> (x &&& 31)) &&& 1 ne 0
      refine lv_iconst (v := 1) hx hb dX2_isKnown_21 (by decide) ?_
      refine lv_goto (tgt := 26) hx hb dX2_isKnown_22 (by decide) ?_
      exact rtZ C hr rfl hAe (u := ()) hP hD hS dX2_isKnown_26 (by first | exact bI_t ⟨by omega, by assumption⟩ | exact bI_f (fun z => absurd z.1 (by omega)) | exact bI_f (fun z => z.2 (by assumption)))

set_option maxHeartbeats 4000000 in
set_option maxRecDepth 100000 in
theorem c_X2_areAllKnown (l : Launch) (G : gT) (h0 : Nat) (h1 : Nat) (h2 : Nat) (h3 : Nat) (h4 : Nat) (df : Nat → Int32) (da : Nat → Int32) (dm : Nat → Int32) (dw : Nat → Int32) (kn : Int32) (g1 : Int32) (g2 : Int32) (g3 : Int32) (g4 : Int32) (b : Int32) : Met l yX2_areAllKnown wsX2_areAllKnown ({ frames := 0, cells := 0, slots := 0, locals := 0 }) (cPre G [.ref h0, .int b] [(h0, .inr (2, [.ref h1, .ref h2, .ref h3, .ref h4, .int kn, .int g1, .int g2, .int g3, .int g4])), (h1, .inl (G.2 0, 10, .inl df)), (h2, .inl (G.2 0, 10, .inl da)), (h3, .inl (G.2 0, 10, .inl dm)), (h4, .inl (G.2 0, 10, .inl dw))]) (va_Qi (fun (rv : Int32) (_u : Unit) => rv = bI (decide (b &&& (kn ^^^ (-1)) = 0))) (cW G [(h0, .inr (2, [.ref h1, .ref h2, .ref h3, .ref h4, .int kn, .int g1, .int g2, .int g3, .int g4])), (h1, .inl (G.2 0, 10, .inl df)), (h2, .inl (G.2 0, 10, .inl da)), (h3, .inl (G.2 0, 10, .inl dm)), (h4, .inl (G.2 0, 10, .inl dw))] (fun (_u : Unit) => [(h0, .inr (2, [.ref h1, .ref h2, .ref h3, .ref h4, .int kn, .int g1, .int g2, .int g3, .int g4])), (h1, .inl (G.2 0, 10, .inl df)), (h2, .inl (G.2 0, 10, .inl da)), (h3, .inl (G.2 0, 10, .inl dm)), (h4, .inl (G.2 0, 10, .inl dw))])) (pB [(h0, .inr (2, [.ref h1, .ref h2, .ref h3, .ref h4, .int kn, .int g1, .int g2, .int g3, .int g4])), (h1, .inl (G.2 0, 10, .inl df)), (h2, .inl (G.2 0, 10, .inl da)), (h3, .inl (G.2 0, 10, .inl dm)), (h4, .inl (G.2 0, 10, .inl dw))])) 0 0 (pB [(h0, .inr (2, [.ref h1, .ref h2, .ref h3, .ref h4, .int kn, .int g1, .int g2, .int g3, .int g4])), (h1, .inl (G.2 0, 10, .inl df)), (h2, .inl (G.2 0, 10, .inl da)), (h3, .inl (G.2 0, 10, .inl dm)), (h4, .inl (G.2 0, 10, .inl dw))]) := by
  refine ofCX (G := G) (cc := cX2_areAllKnown) (maxL := 2) (ret := (some .boolean)) (by decide) rfl (Nat.le_of_ble_eq_true rfl) ?_
  intro p e s m below meth c ls C hr hin hD hP hl
  obtain ⟨hx, hb, hml, hown, hts, hlocks, hK⟩ := id C
  have hown : s.vm.findClass RX2 = some m.cls := hown
  have hfl_24 := hts (.fieldLink RX2 24 "AfterDesk$Deeds" "known" "I") (by decide +kernel)
  have hin_X2 : ∀ w ∈ wsX20, w ∈ wsX2_areAllKnown := by decide +kernel
  generalize hAe : pB [(h0, .inr (2, [.ref h1, .ref h2, .ref h3, .ref h4, .int kn, .int g1, .int g2, .int g3, .int g4])), (h1, .inl (G.2 0, 10, .inl df)), (h2, .inl (G.2 0, 10, .inl da)), (h3, .inl (G.2 0, 10, .inl dm)), (h4, .inl (G.2 0, 10, .inl dw))] = A at hD ⊢
  have hS : va_S A s.heap s.heap [] := va_S.rf
  have hP : va_P G.1 vwCl [(h0, .inr (2, [.ref h1, .ref h2, .ref h3, .ref h4, .int kn, .int g1, .int g2, .int g3, .int g4])), (h1, .inl (G.2 0, 10, .inl df)), (h2, .inl (G.2 0, 10, .inl da)), (h3, .inl (G.2 0, 10, .inl dm)), (h4, .inl (G.2 0, 10, .inl dw))] s.heap := hP
  have hD : va_D A [(h0, .inr (2, [.ref h1, .ref h2, .ref h3, .ref h4, .int kn, .int g1, .int g2, .int g3, .int g4])), (h1, .inl (G.2 0, 10, .inl df)), (h2, .inl (G.2 0, 10, .inl da)), (h3, .inl (G.2 0, 10, .inl dm)), (h4, .inl (G.2 0, 10, .inl dw))] := hD
  have hl : lv_has ls 2 [(0, .ref h0), (1, .int b)] := hl
  refine lv_iload_n hx hb dX2_areAllKnown_0 rfl (lv_at hl 1 rfl) ?_
  refine lv_aload_n hx hb dX2_areAllKnown_1 rfl (lv_at hl 0 rfl) ?_
  refine va_get (D := G.1) (ci := 2) (v := .int kn) (C := RX2) (T := TX2) (N := 9) hx hb hts hin_X2 hown hK.1 hP 0 rfl rfl 4 (by decide) hfl_24 (fun _ h9 => h9) rfl dX2_areAllKnown_2 ?_
  refine lv_iconst (v := -1) hx hb dX2_areAllKnown_5 (by decide) ?_
  refine lv_ixor hx hb dX2_areAllKnown_6 ?_
  refine lv_iand hx hb dX2_areAllKnown_7 ?_
  refine lv_if_ne (tgt := 15) hx hb dX2_areAllKnown_8 (by decide) (fun c_1 => ?_) (fun c_1 => ?_)
  · -- yes: b &&& (kn ^^^ (-1)) ne 0
    refine lv_iconst (v := 0) hx hb dX2_areAllKnown_15 (by decide) ?_
    exact rtZ C hr rfl hAe (u := ()) hP hD hS dX2_areAllKnown_16 (by first | exact bI_t (by assumption) | exact bI_f (by assumption))
  · -- no: b &&& (kn ^^^ (-1)) eq 0
    refine lv_iconst (v := 1) hx hb dX2_areAllKnown_11 (by decide) ?_
    refine lv_goto (tgt := 16) hx hb dX2_areAllKnown_12 (by decide) ?_
    exact rtZ C hr rfl hAe (u := ()) hP hD hS dX2_areAllKnown_16 (by first | exact bI_t (by assumption) | exact bI_f (by assumption))

set_option maxHeartbeats 4000000 in
set_option maxRecDepth 100000 in
theorem c_X2_knownSize (l : Launch) (G : gT) (h0 : Nat) (h1 : Nat) (h2 : Nat) (h3 : Nat) (h4 : Nat) (df : Nat → Int32) (da : Nat → Int32) (dm : Nat → Int32) (dw : Nat → Int32) (kn : Int32) (g1 : Int32) (g2 : Int32) (g3 : Int32) (g4 : Int32) : Met l yX2_knownSize wsX2_knownSize ({ frames := 1, cells := 0, slots := 0, locals := 20 }) (cPre G [.ref h0] [(h0, .inr (2, [.ref h1, .ref h2, .ref h3, .ref h4, .int kn, .int g1, .int g2, .int g3, .int g4])), (h1, .inl (G.2 0, 10, .inl df)), (h2, .inl (G.2 0, 10, .inl da)), (h3, .inl (G.2 0, 10, .inl dm)), (h4, .inl (G.2 0, 10, .inl dw))]) (va_Qi (fun (rv : Int32) (_u : Unit) => rv = popc kn) (cW G [(h0, .inr (2, [.ref h1, .ref h2, .ref h3, .ref h4, .int kn, .int g1, .int g2, .int g3, .int g4])), (h1, .inl (G.2 0, 10, .inl df)), (h2, .inl (G.2 0, 10, .inl da)), (h3, .inl (G.2 0, 10, .inl dm)), (h4, .inl (G.2 0, 10, .inl dw))] (fun (_u : Unit) => [(h0, .inr (2, [.ref h1, .ref h2, .ref h3, .ref h4, .int kn, .int g1, .int g2, .int g3, .int g4])), (h1, .inl (G.2 0, 10, .inl df)), (h2, .inl (G.2 0, 10, .inl da)), (h3, .inl (G.2 0, 10, .inl dm)), (h4, .inl (G.2 0, 10, .inl dw))])) (pB [(h0, .inr (2, [.ref h1, .ref h2, .ref h3, .ref h4, .int kn, .int g1, .int g2, .int g3, .int g4])), (h1, .inl (G.2 0, 10, .inl df)), (h2, .inl (G.2 0, 10, .inl da)), (h3, .inl (G.2 0, 10, .inl dm)), (h4, .inl (G.2 0, 10, .inl dw))])) 0 0 (pB [(h0, .inr (2, [.ref h1, .ref h2, .ref h3, .ref h4, .int kn, .int g1, .int g2, .int g3, .int g4])), (h1, .inl (G.2 0, 10, .inl df)), (h2, .inl (G.2 0, 10, .inl da)), (h3, .inl (G.2 0, 10, .inl dm)), (h4, .inl (G.2 0, 10, .inl dw))]) := by
  refine ofCX (G := G) (cc := cX2_knownSize) (maxL := 1) (ret := (some .int)) (by decide) rfl (Nat.le_of_ble_eq_true rfl) ?_
  intro p e s m below meth c ls C hr hin hD hP hl
  obtain ⟨hx, hb, hml, hown, hts, hlocks, hK⟩ := id C
  have hown : s.vm.findClass RX2 = some m.cls := hown
  have hfl_24 := hts (.fieldLink RX2 24 "AfterDesk$Deeds" "known" "I") (by decide +kernel)
  have hin_X2 : ∀ w ∈ wsX20, w ∈ wsX2_knownSize := by decide +kernel
  generalize hAe : pB [(h0, .inr (2, [.ref h1, .ref h2, .ref h3, .ref h4, .int kn, .int g1, .int g2, .int g3, .int g4])), (h1, .inl (G.2 0, 10, .inl df)), (h2, .inl (G.2 0, 10, .inl da)), (h3, .inl (G.2 0, 10, .inl dm)), (h4, .inl (G.2 0, 10, .inl dw))] = A at hD ⊢
  have hS : va_S A s.heap s.heap [] := va_S.rf
  have hP : va_P G.1 vwCl [(h0, .inr (2, [.ref h1, .ref h2, .ref h3, .ref h4, .int kn, .int g1, .int g2, .int g3, .int g4])), (h1, .inl (G.2 0, 10, .inl df)), (h2, .inl (G.2 0, 10, .inl da)), (h3, .inl (G.2 0, 10, .inl dm)), (h4, .inl (G.2 0, 10, .inl dw))] s.heap := hP
  have hD : va_D A [(h0, .inr (2, [.ref h1, .ref h2, .ref h3, .ref h4, .int kn, .int g1, .int g2, .int g3, .int g4])), (h1, .inl (G.2 0, 10, .inl df)), (h2, .inl (G.2 0, 10, .inl da)), (h3, .inl (G.2 0, 10, .inl dm)), (h4, .inl (G.2 0, 10, .inl dw))] := hD
  have hl : lv_has ls 1 [(0, .ref h0)] := hl
  refine lv_aload_n hx hb dX2_knownSize_0 rfl (lv_at hl 0 rfl) ?_
  refine va_get (D := G.1) (ci := 2) (v := .int kn) (C := RX2) (T := TX2) (N := 9) hx hb hts hin_X2 hown hK.1 hP 0 rfl rfl 4 (by decide) hfl_24 (fun _ h9 => h9) rfl dX2_knownSize_1 ?_
  refine xI (S := Unit) (va_runS (As := [.int kn]) (rest := []) ⟨hx, hb, hml, hown, hts⟩ (c_J6_bitCount_0f7a4 l G kn) (va_cwS 1 hts gX2_knownSize_J6_bitCount_0f7a4 rfl rfl rfl (by decide +kernel) ⟨Nat.le_of_ble_eq_true rfl, Nat.le_of_ble_eq_true rfl⟩) (pS [.int kn] hK (hP.sub (ws' := []) [] rfl) (hD.sub (ws' := []) [] (by decide) rfl)) rfl rfl hl.1 rfl (lv_room (Nat.le_of_ble_eq_true rfl)) dX2_knownSize_4 ⟨Nat.zero_le _, Nat.zero_le _⟩) hP hD hS [] [0, 1, 2, 3, 4] (wr := [(h0, .inr (2, [.ref h1, .ref h2, .ref h3, .ref h4, .int kn, .int g1, .int g2, .int g3, .int g4])), (h1, .inl (G.2 0, 10, .inl df)), (h2, .inl (G.2 0, 10, .inl da)), (h3, .inl (G.2 0, 10, .inl dm)), (h4, .inl (G.2 0, 10, .inl dw))]) rfl rfl (by decide) (by decide) [0, 1, 2, 3, 4] (w2 := fun (_ : Unit) => [(h0, .inr (2, [.ref h1, .ref h2, .ref h3, .ref h4, .int kn, .int g1, .int g2, .int g3, .int g4])), (h1, .inl (G.2 0, 10, .inl df)), (h2, .inl (G.2 0, 10, .inl da)), (h3, .inl (G.2 0, 10, .inl dm)), (h4, .inl (G.2 0, 10, .inl dw))]) (fun _ => rfl) (by decide) (fun r_1 u_2 H locs hw_3 hP hD hS => ?_)
  (try dsimp only at hw_3); subst hw_3
  have hP : va_P G.1 vwCl [(h0, .inr (2, [.ref h1, .ref h2, .ref h3, .ref h4, .int kn, .int g1, .int g2, .int g3, .int g4])), (h1, .inl (G.2 0, 10, .inl df)), (h2, .inl (G.2 0, 10, .inl da)), (h3, .inl (G.2 0, 10, .inl dm)), (h4, .inl (G.2 0, 10, .inl dw))] H := hP
  have hD : va_D A [(h0, .inr (2, [.ref h1, .ref h2, .ref h3, .ref h4, .int kn, .int g1, .int g2, .int g3, .int g4])), (h1, .inl (G.2 0, 10, .inl df)), (h2, .inl (G.2 0, 10, .inl da)), (h3, .inl (G.2 0, 10, .inl dm)), (h4, .inl (G.2 0, 10, .inl dw))] := hD
  exact rtI C hr hAe (u := ()) hP hD hS dX2_knownSize_7 rfl

set_option maxHeartbeats 4000000 in
set_option maxRecDepth 100000 in
theorem lp_X2_gather_22 {p : Program} {l : Launch} {e : Env} {R : Room} {s : State} {m : MethodId} {args : Array Value} {below : List Frame} {meth : Method} {c : Code} {A : Nat → Prop} {H0 : Heap} {Q : State → Prop} {G : gT} (C : CX p s m meth c args cX2_gather 3 RX2 wsX2_gather G) (h0 : Nat) (h1 : Nat) (h2 : Nat) (h3 : Nat) (h4 : Nat) (df : Nat → Int32) (da : Nat → Int32) (dm : Nat → Int32) (dw : Nat → Int32) (kn : Int32) (b : Int32) (hk : ∀ (H : Heap) (locs : List Loc) (ls : Array Slot), va_P G.1 vwCl [(h0, .inr (2, [.ref h1, .ref h2, .ref h3, .ref h4, .int kn, .int (feeS df b 10), .int (tog da b 10), .int (tog dm b 10), .int (tog dw b 10)])), (h1, .inl (G.2 0, 10, .inl df)), (h2, .inl (G.2 0, 10, .inl da)), (h3, .inl (G.2 0, 10, .inl dm)), (h4, .inl (G.2 0, 10, .inl dw))] H → va_D A [(h0, .inr (2, [.ref h1, .ref h2, .ref h3, .ref h4, .int kn, .int (feeS df b 10), .int (tog da b 10), .int (tog dm b 10), .int (tog dw b 10)])), (h1, .inl (G.2 0, 10, .inl df)), (h2, .inl (G.2 0, 10, .inl da)), (h3, .inl (G.2 0, 10, .inl dm)), (h4, .inl (G.2 0, 10, .inl dw))] → va_S A H0 H locs → lv_has ls 3 [(0, .ref h0), (1, .int b), (2, .int (nI 10))] → W p l e R s m args below meth c H locs 0 0 Q (F0 m 102 ls [])) : ∀ (fu k : Nat) (g1 : Int32) (g2 : Int32) (g3 : Int32) (g4 : Int32), k ≤ 10 → 10 - k < fu → g1 = feeS df b k → g2 = tog da b k → g3 = tog dm b k → g4 = tog dw b k → ∀ (H : Heap) (locs : List Loc) (ls : Array Slot), va_P G.1 vwCl [(h0, .inr (2, [.ref h1, .ref h2, .ref h3, .ref h4, .int kn, .int g1, .int g2, .int g3, .int g4])), (h1, .inl (G.2 0, 10, .inl df)), (h2, .inl (G.2 0, 10, .inl da)), (h3, .inl (G.2 0, 10, .inl dm)), (h4, .inl (G.2 0, 10, .inl dw))] H → va_D A [(h0, .inr (2, [.ref h1, .ref h2, .ref h3, .ref h4, .int kn, .int g1, .int g2, .int g3, .int g4])), (h1, .inl (G.2 0, 10, .inl df)), (h2, .inl (G.2 0, 10, .inl da)), (h3, .inl (G.2 0, 10, .inl dm)), (h4, .inl (G.2 0, 10, .inl dw))] → va_S A H0 H locs → lv_has ls 3 [(0, .ref h0), (1, .int b), (2, .int (nI k))] → W p l e R s m args below meth c H locs 0 0 Q (F0 m 22 ls []) := by
  obtain ⟨hx, hb, hml, hown, hts, hlocks, hK⟩ := id C
  have hfl_28 := hts (.fieldLink RX2 28 "AfterDesk$Deeds" "fee" "I") (by decide +kernel)
  have hin_X2 : ∀ w ∈ wsX20, w ∈ wsX2_gather := by decide +kernel
  have hfl_9 := hts (.fieldLink RX2 9 "AfterDesk$Deeds" "fees" "[I") (by decide +kernel)
  have hfl_31 := hts (.fieldLink RX2 31 "AfterDesk$Deeds" "always" "I") (by decide +kernel)
  have hfl_15 := hts (.fieldLink RX2 15 "AfterDesk$Deeds" "alwaysRows" "[I") (by decide +kernel)
  have hfl_34 := hts (.fieldLink RX2 34 "AfterDesk$Deeds" "mostly" "I") (by decide +kernel)
  have hfl_18 := hts (.fieldLink RX2 18 "AfterDesk$Deeds" "mostlyRows" "[I") (by decide +kernel)
  have hfl_37 := hts (.fieldLink RX2 37 "AfterDesk$Deeds" "wiped" "I") (by decide +kernel)
  have hfl_21 := hts (.fieldLink RX2 21 "AfterDesk$Deeds" "wipesRows" "[I") (by decide +kernel)
  intro fu
  induction fu with
  | zero =>
    intro k g1 g2 g3 g4 h1 h2
    exact absurd h2 (by omega)
  | succ fu ih =>
    intro k g1 g2 g3 g4 hkle hkn e_g1 e_g2 e_g3 e_g4  H locs ls hP hD hS hl
    subst e_g1
    subst e_g2
    subst e_g3
    subst e_g4
    refine lv_iload_n hx hb dX2_gather_22 rfl (lv_at hl 2 rfl) ?_
    refine lv_bipush (v := 10) hx hb dX2_gather_23 (by decide) ?_
    refine lv_icmp_ge (tgt := 102) hx hb dX2_gather_25 (by decide) (fun c_1 => ?_) (fun c_1 => ?_)
    · -- yes: nI k ge 10
      have c_1 : 10 ≤ k := (nI_leI (a := 10) (b := k) (by omega) (by omega)).mp c_1
      have hkN : k = 10 := by omega
      subst hkN
      exact hk  _ _ _ hP hD hS (lv_sub hl [0, 1, 2] rfl)
    · -- no: nI k lt 10
      have c_1 : ¬ 10 ≤ k := fun z => c_1 ((nI_leI (a := 10) (b := k) (by omega) (by omega)).mpr z)
      refine lv_iload_n hx hb dX2_gather_28 rfl (lv_at hl 1 rfl) ?_
      refine lv_iload_n hx hb dX2_gather_29 rfl (lv_at hl 2 rfl) ?_
      refine lv_ishr hx hb dX2_gather_30 ?_
      refine lv_iconst (v := 1) hx hb dX2_gather_31 (by decide) ?_
      refine lv_iand hx hb dX2_gather_32 ?_
      refine lv_if_eq (tgt := 96) hx hb dX2_gather_33 (by decide) (fun c_2 => ?_) (fun c_2 => ?_)
      · -- yes: (b >>> ((nI k) &&& 31)) &&& 1 eq 0
        refine lv_iinc (v := nI (k + 1)) (lv' := [(2, .int (nI (k + 1))), (0, .ref h0), (1, .int b)]) hx hb dX2_gather_96 hl (k := 2) rfl (nI_inc _) (by decide) rfl (fun ls hl => ?_)
        refine lv_goto (tgt := 22) hx hb dX2_gather_99 (by decide) ?_
        exact ih (k + 1) (feeS df b k) (tog da b k) (tog dm b k) (tog dw b k) (by omega) (by omega) (by rw [feeS_s]; first | rw [if_pos (by assumption)] | rw [if_neg (by assumption)]) (by rw [tog_s]; first | rw [if_pos (by assumption)] | rw [if_neg (by assumption)]) (by rw [tog_s]; first | rw [if_pos (by assumption)] | rw [if_neg (by assumption)]) (by rw [tog_s]; first | rw [if_pos (by assumption)] | rw [if_neg (by assumption)])  _ _ _ hP hD hS (lv_sub hl [1, 2, 0] rfl)
      · -- no: (b >>> ((nI k) &&& 31)) &&& 1 ne 0
        refine lv_aload_n hx hb dX2_gather_36 rfl (lv_at hl 0 rfl) ?_
        refine lv_dup hx hb dX2_gather_37 rfl ?_
        refine va_get (D := G.1) (ci := 2) (v := .int (feeS df b k)) (C := RX2) (T := TX2) (N := 9) hx hb hts hin_X2 hown hK.1 hP 0 rfl rfl 5 (by decide) hfl_28 (fun _ h9 => h9) rfl dX2_gather_38 ?_
        refine lv_aload_n hx hb dX2_gather_41 rfl (lv_at hl 0 rfl) ?_
        refine va_get (D := G.1) (ci := 2) (v := .ref h1) (C := RX2) (T := TX2) (N := 9) hx hb hts hin_X2 hown hK.1 hP 0 rfl rfl 0 (by decide) hfl_9 (fun _ h9 => h9) rfl dX2_gather_42 ?_
        refine lv_iload_n hx hb dX2_gather_45 rfl (lv_at hl 2 rfl) ?_
        refine aIld hx hb hK.1 hP 1 0 rfl rfl (k := k) rfl (by omega) (by decide) dX2_gather_46 ?_
        refine lv_iadd hx hb dX2_gather_47 ?_
        refine va_put (D := G.1) (ci := 2) (v := .int ((feeS df b k) + (df k))) (ty := .int) (C := RX2) (T := TX2) (N := 9) hx hb hts hin_X2 tyX2 tyX2_ok nmX2 hown hK.1 hP hD hS 0 rfl rfl 5 (by decide) hfl_28 (fun _ h9 => h9) rfl (by decide +kernel) rfl rfl (Nat.le_of_ble_eq_true rfl) dX2_gather_48 (fun H locs hP hD hS => ?_)
        have hP : va_P G.1 vwCl [(h0, .inr (2, [.ref h1, .ref h2, .ref h3, .ref h4, .int kn, .int ((feeS df b k) + (df k)), .int (tog da b k), .int (tog dm b k), .int (tog dw b k)])), (h1, .inl (G.2 0, 10, .inl df)), (h2, .inl (G.2 0, 10, .inl da)), (h3, .inl (G.2 0, 10, .inl dm)), (h4, .inl (G.2 0, 10, .inl dw))] H := hP
        have hD : va_D A [(h0, .inr (2, [.ref h1, .ref h2, .ref h3, .ref h4, .int kn, .int ((feeS df b k) + (df k)), .int (tog da b k), .int (tog dm b k), .int (tog dw b k)])), (h1, .inl (G.2 0, 10, .inl df)), (h2, .inl (G.2 0, 10, .inl da)), (h3, .inl (G.2 0, 10, .inl dm)), (h4, .inl (G.2 0, 10, .inl dw))] := hD
        refine lv_aload_n hx hb dX2_gather_51 rfl (lv_at hl 0 rfl) ?_
        refine lv_dup hx hb dX2_gather_52 rfl ?_
        refine va_get (D := G.1) (ci := 2) (v := .int (tog da b k)) (C := RX2) (T := TX2) (N := 9) hx hb hts hin_X2 hown hK.1 hP 0 rfl rfl 6 (by decide) hfl_31 (fun _ h9 => h9) rfl dX2_gather_53 ?_
        refine lv_aload_n hx hb dX2_gather_56 rfl (lv_at hl 0 rfl) ?_
        refine va_get (D := G.1) (ci := 2) (v := .ref h2) (C := RX2) (T := TX2) (N := 9) hx hb hts hin_X2 hown hK.1 hP 0 rfl rfl 1 (by decide) hfl_15 (fun _ h9 => h9) rfl dX2_gather_57 ?_
        refine lv_iload_n hx hb dX2_gather_60 rfl (lv_at hl 2 rfl) ?_
        refine aIld hx hb hK.1 hP 2 0 rfl rfl (k := k) rfl (by omega) (by decide) dX2_gather_61 ?_
        refine lv_ior hx hb dX2_gather_62 ?_
        refine va_put (D := G.1) (ci := 2) (v := .int ((tog da b k) ||| (da k))) (ty := .int) (C := RX2) (T := TX2) (N := 9) hx hb hts hin_X2 tyX2 tyX2_ok nmX2 hown hK.1 hP hD hS 0 rfl rfl 6 (by decide) hfl_31 (fun _ h9 => h9) rfl (by decide +kernel) rfl rfl (Nat.le_of_ble_eq_true rfl) dX2_gather_63 (fun H locs hP hD hS => ?_)
        have hP : va_P G.1 vwCl [(h0, .inr (2, [.ref h1, .ref h2, .ref h3, .ref h4, .int kn, .int ((feeS df b k) + (df k)), .int ((tog da b k) ||| (da k)), .int (tog dm b k), .int (tog dw b k)])), (h1, .inl (G.2 0, 10, .inl df)), (h2, .inl (G.2 0, 10, .inl da)), (h3, .inl (G.2 0, 10, .inl dm)), (h4, .inl (G.2 0, 10, .inl dw))] H := hP
        have hD : va_D A [(h0, .inr (2, [.ref h1, .ref h2, .ref h3, .ref h4, .int kn, .int ((feeS df b k) + (df k)), .int ((tog da b k) ||| (da k)), .int (tog dm b k), .int (tog dw b k)])), (h1, .inl (G.2 0, 10, .inl df)), (h2, .inl (G.2 0, 10, .inl da)), (h3, .inl (G.2 0, 10, .inl dm)), (h4, .inl (G.2 0, 10, .inl dw))] := hD
        refine lv_aload_n hx hb dX2_gather_66 rfl (lv_at hl 0 rfl) ?_
        refine lv_dup hx hb dX2_gather_67 rfl ?_
        refine va_get (D := G.1) (ci := 2) (v := .int (tog dm b k)) (C := RX2) (T := TX2) (N := 9) hx hb hts hin_X2 hown hK.1 hP 0 rfl rfl 7 (by decide) hfl_34 (fun _ h9 => h9) rfl dX2_gather_68 ?_
        refine lv_aload_n hx hb dX2_gather_71 rfl (lv_at hl 0 rfl) ?_
        refine va_get (D := G.1) (ci := 2) (v := .ref h3) (C := RX2) (T := TX2) (N := 9) hx hb hts hin_X2 hown hK.1 hP 0 rfl rfl 2 (by decide) hfl_18 (fun _ h9 => h9) rfl dX2_gather_72 ?_
        refine lv_iload_n hx hb dX2_gather_75 rfl (lv_at hl 2 rfl) ?_
        refine aIld hx hb hK.1 hP 3 0 rfl rfl (k := k) rfl (by omega) (by decide) dX2_gather_76 ?_
        refine lv_ior hx hb dX2_gather_77 ?_
        refine va_put (D := G.1) (ci := 2) (v := .int ((tog dm b k) ||| (dm k))) (ty := .int) (C := RX2) (T := TX2) (N := 9) hx hb hts hin_X2 tyX2 tyX2_ok nmX2 hown hK.1 hP hD hS 0 rfl rfl 7 (by decide) hfl_34 (fun _ h9 => h9) rfl (by decide +kernel) rfl rfl (Nat.le_of_ble_eq_true rfl) dX2_gather_78 (fun H locs hP hD hS => ?_)
        have hP : va_P G.1 vwCl [(h0, .inr (2, [.ref h1, .ref h2, .ref h3, .ref h4, .int kn, .int ((feeS df b k) + (df k)), .int ((tog da b k) ||| (da k)), .int ((tog dm b k) ||| (dm k)), .int (tog dw b k)])), (h1, .inl (G.2 0, 10, .inl df)), (h2, .inl (G.2 0, 10, .inl da)), (h3, .inl (G.2 0, 10, .inl dm)), (h4, .inl (G.2 0, 10, .inl dw))] H := hP
        have hD : va_D A [(h0, .inr (2, [.ref h1, .ref h2, .ref h3, .ref h4, .int kn, .int ((feeS df b k) + (df k)), .int ((tog da b k) ||| (da k)), .int ((tog dm b k) ||| (dm k)), .int (tog dw b k)])), (h1, .inl (G.2 0, 10, .inl df)), (h2, .inl (G.2 0, 10, .inl da)), (h3, .inl (G.2 0, 10, .inl dm)), (h4, .inl (G.2 0, 10, .inl dw))] := hD
        refine lv_aload_n hx hb dX2_gather_81 rfl (lv_at hl 0 rfl) ?_
        refine lv_dup hx hb dX2_gather_82 rfl ?_
        refine va_get (D := G.1) (ci := 2) (v := .int (tog dw b k)) (C := RX2) (T := TX2) (N := 9) hx hb hts hin_X2 hown hK.1 hP 0 rfl rfl 8 (by decide) hfl_37 (fun _ h9 => h9) rfl dX2_gather_83 ?_
        refine lv_aload_n hx hb dX2_gather_86 rfl (lv_at hl 0 rfl) ?_
        refine va_get (D := G.1) (ci := 2) (v := .ref h4) (C := RX2) (T := TX2) (N := 9) hx hb hts hin_X2 hown hK.1 hP 0 rfl rfl 3 (by decide) hfl_21 (fun _ h9 => h9) rfl dX2_gather_87 ?_
        refine lv_iload_n hx hb dX2_gather_90 rfl (lv_at hl 2 rfl) ?_
        refine aIld hx hb hK.1 hP 4 0 rfl rfl (k := k) rfl (by omega) (by decide) dX2_gather_91 ?_
        refine lv_ior hx hb dX2_gather_92 ?_
        refine va_put (D := G.1) (ci := 2) (v := .int ((tog dw b k) ||| (dw k))) (ty := .int) (C := RX2) (T := TX2) (N := 9) hx hb hts hin_X2 tyX2 tyX2_ok nmX2 hown hK.1 hP hD hS 0 rfl rfl 8 (by decide) hfl_37 (fun _ h9 => h9) rfl (by decide +kernel) rfl rfl (Nat.le_of_ble_eq_true rfl) dX2_gather_93 (fun H locs hP hD hS => ?_)
        have hP : va_P G.1 vwCl [(h0, .inr (2, [.ref h1, .ref h2, .ref h3, .ref h4, .int kn, .int ((feeS df b k) + (df k)), .int ((tog da b k) ||| (da k)), .int ((tog dm b k) ||| (dm k)), .int ((tog dw b k) ||| (dw k))])), (h1, .inl (G.2 0, 10, .inl df)), (h2, .inl (G.2 0, 10, .inl da)), (h3, .inl (G.2 0, 10, .inl dm)), (h4, .inl (G.2 0, 10, .inl dw))] H := hP
        have hD : va_D A [(h0, .inr (2, [.ref h1, .ref h2, .ref h3, .ref h4, .int kn, .int ((feeS df b k) + (df k)), .int ((tog da b k) ||| (da k)), .int ((tog dm b k) ||| (dm k)), .int ((tog dw b k) ||| (dw k))])), (h1, .inl (G.2 0, 10, .inl df)), (h2, .inl (G.2 0, 10, .inl da)), (h3, .inl (G.2 0, 10, .inl dm)), (h4, .inl (G.2 0, 10, .inl dw))] := hD
        refine lv_iinc (v := nI (k + 1)) (lv' := [(2, .int (nI (k + 1))), (0, .ref h0), (1, .int b)]) hx hb dX2_gather_96 hl (k := 2) rfl (nI_inc _) (by decide) rfl (fun ls hl => ?_)
        refine lv_goto (tgt := 22) hx hb dX2_gather_99 (by decide) ?_
        exact ih (k + 1) ((feeS df b k) + (df k)) ((tog da b k) ||| (da k)) ((tog dm b k) ||| (dm k)) ((tog dw b k) ||| (dw k)) (by omega) (by omega) (by rw [feeS_s]; first | rw [if_pos (by assumption)] | rw [if_neg (by assumption)]) (by rw [tog_s]; first | rw [if_pos (by assumption)] | rw [if_neg (by assumption)]) (by rw [tog_s]; first | rw [if_pos (by assumption)] | rw [if_neg (by assumption)]) (by rw [tog_s]; first | rw [if_pos (by assumption)] | rw [if_neg (by assumption)])  _ _ _ hP hD hS (lv_sub hl [1, 2, 0] rfl)

set_option maxHeartbeats 4000000 in
set_option maxRecDepth 100000 in
theorem c_X2_gather (l : Launch) (G : gT) (h0 : Nat) (h1 : Nat) (h2 : Nat) (h3 : Nat) (h4 : Nat) (df : Nat → Int32) (da : Nat → Int32) (dm : Nat → Int32) (dw : Nat → Int32) (kn : Int32) (g1 : Int32) (g2 : Int32) (g3 : Int32) (g4 : Int32) (b : Int32) : Met l yX2_gather wsX2_gather ({ frames := 0, cells := 0, slots := 0, locals := 0 }) (cPre G [.ref h0, .int b] [(h0, .inr (2, [.ref h1, .ref h2, .ref h3, .ref h4, .int kn, .int g1, .int g2, .int g3, .int g4])), (h1, .inl (G.2 0, 10, .inl df)), (h2, .inl (G.2 0, 10, .inl da)), (h3, .inl (G.2 0, 10, .inl dm)), (h4, .inl (G.2 0, 10, .inl dw))]) (va_Qv (fun (u : Int32 × Int32 × Int32 × Int32) => u.1 = feeS df b 10 ∧ u.2.1 = tog da b 10 ∧ u.2.2.1 = tog dm b 10 ∧ u.2.2.2 = tog dw b 10) (cW G [(h0, .inr (2, [.ref h1, .ref h2, .ref h3, .ref h4, .int kn, .int g1, .int g2, .int g3, .int g4])), (h1, .inl (G.2 0, 10, .inl df)), (h2, .inl (G.2 0, 10, .inl da)), (h3, .inl (G.2 0, 10, .inl dm)), (h4, .inl (G.2 0, 10, .inl dw))] (fun (u : Int32 × Int32 × Int32 × Int32) => [(h0, .inr (2, [.ref h1, .ref h2, .ref h3, .ref h4, .int kn, .int u.1, .int u.2.1, .int u.2.2.1, .int u.2.2.2])), (h1, .inl (G.2 0, 10, .inl df)), (h2, .inl (G.2 0, 10, .inl da)), (h3, .inl (G.2 0, 10, .inl dm)), (h4, .inl (G.2 0, 10, .inl dw))])) (pB [(h0, .inr (2, [.ref h1, .ref h2, .ref h3, .ref h4, .int kn, .int g1, .int g2, .int g3, .int g4])), (h1, .inl (G.2 0, 10, .inl df)), (h2, .inl (G.2 0, 10, .inl da)), (h3, .inl (G.2 0, 10, .inl dm)), (h4, .inl (G.2 0, 10, .inl dw))])) 0 0 (pB [(h0, .inr (2, [.ref h1, .ref h2, .ref h3, .ref h4, .int kn, .int g1, .int g2, .int g3, .int g4])), (h1, .inl (G.2 0, 10, .inl df)), (h2, .inl (G.2 0, 10, .inl da)), (h3, .inl (G.2 0, 10, .inl dm)), (h4, .inl (G.2 0, 10, .inl dw))]) := by
  refine ofCX (G := G) (cc := cX2_gather) (maxL := 3) (ret := none) (by decide) rfl (Nat.le_of_ble_eq_true rfl) ?_
  intro p e s m below meth c ls C hr hin hD hP hl
  obtain ⟨hx, hb, hml, hown, hts, hlocks, hK⟩ := id C
  have hown : s.vm.findClass RX2 = some m.cls := hown
  have hfl_28 := hts (.fieldLink RX2 28 "AfterDesk$Deeds" "fee" "I") (by decide +kernel)
  have hin_X2 : ∀ w ∈ wsX20, w ∈ wsX2_gather := by decide +kernel
  have hfl_31 := hts (.fieldLink RX2 31 "AfterDesk$Deeds" "always" "I") (by decide +kernel)
  have hfl_34 := hts (.fieldLink RX2 34 "AfterDesk$Deeds" "mostly" "I") (by decide +kernel)
  have hfl_37 := hts (.fieldLink RX2 37 "AfterDesk$Deeds" "wiped" "I") (by decide +kernel)
  generalize hAe : pB [(h0, .inr (2, [.ref h1, .ref h2, .ref h3, .ref h4, .int kn, .int g1, .int g2, .int g3, .int g4])), (h1, .inl (G.2 0, 10, .inl df)), (h2, .inl (G.2 0, 10, .inl da)), (h3, .inl (G.2 0, 10, .inl dm)), (h4, .inl (G.2 0, 10, .inl dw))] = A at hD ⊢
  have hS : va_S A s.heap s.heap [] := va_S.rf
  have hP : va_P G.1 vwCl [(h0, .inr (2, [.ref h1, .ref h2, .ref h3, .ref h4, .int kn, .int g1, .int g2, .int g3, .int g4])), (h1, .inl (G.2 0, 10, .inl df)), (h2, .inl (G.2 0, 10, .inl da)), (h3, .inl (G.2 0, 10, .inl dm)), (h4, .inl (G.2 0, 10, .inl dw))] s.heap := hP
  have hD : va_D A [(h0, .inr (2, [.ref h1, .ref h2, .ref h3, .ref h4, .int kn, .int g1, .int g2, .int g3, .int g4])), (h1, .inl (G.2 0, 10, .inl df)), (h2, .inl (G.2 0, 10, .inl da)), (h3, .inl (G.2 0, 10, .inl dm)), (h4, .inl (G.2 0, 10, .inl dw))] := hD
  have hl : lv_has ls 3 [(0, .ref h0), (1, .int b)] := hl
  refine lv_aload_n hx hb dX2_gather_0 rfl (lv_at hl 0 rfl) ?_
  refine lv_iconst (v := 0) hx hb dX2_gather_1 (by decide) ?_
  refine va_put (D := G.1) (ci := 2) (v := .int 0) (ty := .int) (C := RX2) (T := TX2) (N := 9) hx hb hts hin_X2 tyX2 tyX2_ok nmX2 hown hK.1 hP hD hS 0 rfl rfl 5 (by decide) hfl_28 (fun _ h9 => h9) rfl (by decide +kernel) rfl rfl (Nat.le_of_ble_eq_true rfl) dX2_gather_2 (fun H locs hP hD hS => ?_)
  have hP : va_P G.1 vwCl [(h0, .inr (2, [.ref h1, .ref h2, .ref h3, .ref h4, .int kn, .int 0, .int g2, .int g3, .int g4])), (h1, .inl (G.2 0, 10, .inl df)), (h2, .inl (G.2 0, 10, .inl da)), (h3, .inl (G.2 0, 10, .inl dm)), (h4, .inl (G.2 0, 10, .inl dw))] H := hP
  have hD : va_D A [(h0, .inr (2, [.ref h1, .ref h2, .ref h3, .ref h4, .int kn, .int 0, .int g2, .int g3, .int g4])), (h1, .inl (G.2 0, 10, .inl df)), (h2, .inl (G.2 0, 10, .inl da)), (h3, .inl (G.2 0, 10, .inl dm)), (h4, .inl (G.2 0, 10, .inl dw))] := hD
  refine lv_aload_n hx hb dX2_gather_5 rfl (lv_at hl 0 rfl) ?_
  refine lv_iconst (v := 0) hx hb dX2_gather_6 (by decide) ?_
  refine va_put (D := G.1) (ci := 2) (v := .int 0) (ty := .int) (C := RX2) (T := TX2) (N := 9) hx hb hts hin_X2 tyX2 tyX2_ok nmX2 hown hK.1 hP hD hS 0 rfl rfl 6 (by decide) hfl_31 (fun _ h9 => h9) rfl (by decide +kernel) rfl rfl (Nat.le_of_ble_eq_true rfl) dX2_gather_7 (fun H locs hP hD hS => ?_)
  have hP : va_P G.1 vwCl [(h0, .inr (2, [.ref h1, .ref h2, .ref h3, .ref h4, .int kn, .int 0, .int 0, .int g3, .int g4])), (h1, .inl (G.2 0, 10, .inl df)), (h2, .inl (G.2 0, 10, .inl da)), (h3, .inl (G.2 0, 10, .inl dm)), (h4, .inl (G.2 0, 10, .inl dw))] H := hP
  have hD : va_D A [(h0, .inr (2, [.ref h1, .ref h2, .ref h3, .ref h4, .int kn, .int 0, .int 0, .int g3, .int g4])), (h1, .inl (G.2 0, 10, .inl df)), (h2, .inl (G.2 0, 10, .inl da)), (h3, .inl (G.2 0, 10, .inl dm)), (h4, .inl (G.2 0, 10, .inl dw))] := hD
  refine lv_aload_n hx hb dX2_gather_10 rfl (lv_at hl 0 rfl) ?_
  refine lv_iconst (v := 0) hx hb dX2_gather_11 (by decide) ?_
  refine va_put (D := G.1) (ci := 2) (v := .int 0) (ty := .int) (C := RX2) (T := TX2) (N := 9) hx hb hts hin_X2 tyX2 tyX2_ok nmX2 hown hK.1 hP hD hS 0 rfl rfl 7 (by decide) hfl_34 (fun _ h9 => h9) rfl (by decide +kernel) rfl rfl (Nat.le_of_ble_eq_true rfl) dX2_gather_12 (fun H locs hP hD hS => ?_)
  have hP : va_P G.1 vwCl [(h0, .inr (2, [.ref h1, .ref h2, .ref h3, .ref h4, .int kn, .int 0, .int 0, .int 0, .int g4])), (h1, .inl (G.2 0, 10, .inl df)), (h2, .inl (G.2 0, 10, .inl da)), (h3, .inl (G.2 0, 10, .inl dm)), (h4, .inl (G.2 0, 10, .inl dw))] H := hP
  have hD : va_D A [(h0, .inr (2, [.ref h1, .ref h2, .ref h3, .ref h4, .int kn, .int 0, .int 0, .int 0, .int g4])), (h1, .inl (G.2 0, 10, .inl df)), (h2, .inl (G.2 0, 10, .inl da)), (h3, .inl (G.2 0, 10, .inl dm)), (h4, .inl (G.2 0, 10, .inl dw))] := hD
  refine lv_aload_n hx hb dX2_gather_15 rfl (lv_at hl 0 rfl) ?_
  refine lv_iconst (v := 0) hx hb dX2_gather_16 (by decide) ?_
  refine va_put (D := G.1) (ci := 2) (v := .int 0) (ty := .int) (C := RX2) (T := TX2) (N := 9) hx hb hts hin_X2 tyX2 tyX2_ok nmX2 hown hK.1 hP hD hS 0 rfl rfl 8 (by decide) hfl_37 (fun _ h9 => h9) rfl (by decide +kernel) rfl rfl (Nat.le_of_ble_eq_true rfl) dX2_gather_17 (fun H locs hP hD hS => ?_)
  have hP : va_P G.1 vwCl [(h0, .inr (2, [.ref h1, .ref h2, .ref h3, .ref h4, .int kn, .int 0, .int 0, .int 0, .int 0])), (h1, .inl (G.2 0, 10, .inl df)), (h2, .inl (G.2 0, 10, .inl da)), (h3, .inl (G.2 0, 10, .inl dm)), (h4, .inl (G.2 0, 10, .inl dw))] H := hP
  have hD : va_D A [(h0, .inr (2, [.ref h1, .ref h2, .ref h3, .ref h4, .int kn, .int 0, .int 0, .int 0, .int 0])), (h1, .inl (G.2 0, 10, .inl df)), (h2, .inl (G.2 0, 10, .inl da)), (h3, .inl (G.2 0, 10, .inl dm)), (h4, .inl (G.2 0, 10, .inl dw))] := hD
  refine lv_iconst (v := 0) hx hb dX2_gather_20 (by decide) ?_
  refine lv_istore_n (lv' := [(2, .int 0), (0, .ref h0), (1, .int b)]) hx hb dX2_gather_21 rfl hl (by decide) rfl (fun ls hl => ?_)
  refine lp_X2_gather_22 C h0 h1 h2 h3 h4 df da dm dw kn b (fun  H locs ls hP hD hS hl => ?_) (10 + 1) 0 0 0 0 0 (by omega) (by omega) rfl rfl rfl rfl  _ _ _ hP hD hS (lv_sub hl [1, 2, 0] rfl)
  have hP : va_P G.1 vwCl [(h0, .inr (2, [.ref h1, .ref h2, .ref h3, .ref h4, .int kn, .int (feeS df b 10), .int (tog da b 10), .int (tog dm b 10), .int (tog dw b 10)])), (h1, .inl (G.2 0, 10, .inl df)), (h2, .inl (G.2 0, 10, .inl da)), (h3, .inl (G.2 0, 10, .inl dm)), (h4, .inl (G.2 0, 10, .inl dw))] H := hP
  have hD : va_D A [(h0, .inr (2, [.ref h1, .ref h2, .ref h3, .ref h4, .int kn, .int (feeS df b 10), .int (tog da b 10), .int (tog dm b 10), .int (tog dw b 10)])), (h1, .inl (G.2 0, 10, .inl df)), (h2, .inl (G.2 0, 10, .inl da)), (h3, .inl (G.2 0, 10, .inl dm)), (h4, .inl (G.2 0, 10, .inl dw))] := hD
  exact rtV C hr hAe (u := ((feeS df b 10), (tog da b 10), (tog dm b 10), (tog dw b 10))) hP hD hS dX2_gather_102 (by exact ⟨rfl, rfl, rfl, rfl⟩)

set_option maxHeartbeats 4000000 in
set_option maxRecDepth 100000 in
theorem c_X2_fee (l : Launch) (G : gT) (h0 : Nat) (h1 : Nat) (h2 : Nat) (h3 : Nat) (h4 : Nat) (df : Nat → Int32) (da : Nat → Int32) (dm : Nat → Int32) (dw : Nat → Int32) (kn : Int32) (g1 : Int32) (g2 : Int32) (g3 : Int32) (g4 : Int32) : Met l yX2_fee wsX2_fee ({ frames := 0, cells := 0, slots := 0, locals := 0 }) (cPre G [.ref h0] [(h0, .inr (2, [.ref h1, .ref h2, .ref h3, .ref h4, .int kn, .int g1, .int g2, .int g3, .int g4])), (h1, .inl (G.2 0, 10, .inl df)), (h2, .inl (G.2 0, 10, .inl da)), (h3, .inl (G.2 0, 10, .inl dm)), (h4, .inl (G.2 0, 10, .inl dw))]) (va_Qi (fun (rv : Int32) (_u : Unit) => rv = g1) (cW G [(h0, .inr (2, [.ref h1, .ref h2, .ref h3, .ref h4, .int kn, .int g1, .int g2, .int g3, .int g4])), (h1, .inl (G.2 0, 10, .inl df)), (h2, .inl (G.2 0, 10, .inl da)), (h3, .inl (G.2 0, 10, .inl dm)), (h4, .inl (G.2 0, 10, .inl dw))] (fun (_u : Unit) => [(h0, .inr (2, [.ref h1, .ref h2, .ref h3, .ref h4, .int kn, .int g1, .int g2, .int g3, .int g4])), (h1, .inl (G.2 0, 10, .inl df)), (h2, .inl (G.2 0, 10, .inl da)), (h3, .inl (G.2 0, 10, .inl dm)), (h4, .inl (G.2 0, 10, .inl dw))])) (pB [(h0, .inr (2, [.ref h1, .ref h2, .ref h3, .ref h4, .int kn, .int g1, .int g2, .int g3, .int g4])), (h1, .inl (G.2 0, 10, .inl df)), (h2, .inl (G.2 0, 10, .inl da)), (h3, .inl (G.2 0, 10, .inl dm)), (h4, .inl (G.2 0, 10, .inl dw))])) 0 0 (pB [(h0, .inr (2, [.ref h1, .ref h2, .ref h3, .ref h4, .int kn, .int g1, .int g2, .int g3, .int g4])), (h1, .inl (G.2 0, 10, .inl df)), (h2, .inl (G.2 0, 10, .inl da)), (h3, .inl (G.2 0, 10, .inl dm)), (h4, .inl (G.2 0, 10, .inl dw))]) := by
  refine ofCX (G := G) (cc := cX2_fee) (maxL := 1) (ret := (some .int)) (by decide) rfl (Nat.le_of_ble_eq_true rfl) ?_
  intro p e s m below meth c ls C hr hin hD hP hl
  obtain ⟨hx, hb, hml, hown, hts, hlocks, hK⟩ := id C
  have hown : s.vm.findClass RX2 = some m.cls := hown
  have hfl_28 := hts (.fieldLink RX2 28 "AfterDesk$Deeds" "fee" "I") (by decide +kernel)
  have hin_X2 : ∀ w ∈ wsX20, w ∈ wsX2_fee := by decide +kernel
  generalize hAe : pB [(h0, .inr (2, [.ref h1, .ref h2, .ref h3, .ref h4, .int kn, .int g1, .int g2, .int g3, .int g4])), (h1, .inl (G.2 0, 10, .inl df)), (h2, .inl (G.2 0, 10, .inl da)), (h3, .inl (G.2 0, 10, .inl dm)), (h4, .inl (G.2 0, 10, .inl dw))] = A at hD ⊢
  have hS : va_S A s.heap s.heap [] := va_S.rf
  have hP : va_P G.1 vwCl [(h0, .inr (2, [.ref h1, .ref h2, .ref h3, .ref h4, .int kn, .int g1, .int g2, .int g3, .int g4])), (h1, .inl (G.2 0, 10, .inl df)), (h2, .inl (G.2 0, 10, .inl da)), (h3, .inl (G.2 0, 10, .inl dm)), (h4, .inl (G.2 0, 10, .inl dw))] s.heap := hP
  have hD : va_D A [(h0, .inr (2, [.ref h1, .ref h2, .ref h3, .ref h4, .int kn, .int g1, .int g2, .int g3, .int g4])), (h1, .inl (G.2 0, 10, .inl df)), (h2, .inl (G.2 0, 10, .inl da)), (h3, .inl (G.2 0, 10, .inl dm)), (h4, .inl (G.2 0, 10, .inl dw))] := hD
  have hl : lv_has ls 1 [(0, .ref h0)] := hl
  refine lv_aload_n hx hb dX2_fee_0 rfl (lv_at hl 0 rfl) ?_
  refine va_get (D := G.1) (ci := 2) (v := .int g1) (C := RX2) (T := TX2) (N := 9) hx hb hts hin_X2 hown hK.1 hP 0 rfl rfl 5 (by decide) hfl_28 (fun _ h9 => h9) rfl dX2_fee_1 ?_
  exact rtI C hr hAe (u := ()) hP hD hS dX2_fee_4 rfl

set_option maxHeartbeats 4000000 in
set_option maxRecDepth 100000 in
theorem c_X2_always (l : Launch) (G : gT) (h0 : Nat) (h1 : Nat) (h2 : Nat) (h3 : Nat) (h4 : Nat) (df : Nat → Int32) (da : Nat → Int32) (dm : Nat → Int32) (dw : Nat → Int32) (kn : Int32) (g1 : Int32) (g2 : Int32) (g3 : Int32) (g4 : Int32) : Met l yX2_always wsX2_always ({ frames := 0, cells := 0, slots := 0, locals := 0 }) (cPre G [.ref h0] [(h0, .inr (2, [.ref h1, .ref h2, .ref h3, .ref h4, .int kn, .int g1, .int g2, .int g3, .int g4])), (h1, .inl (G.2 0, 10, .inl df)), (h2, .inl (G.2 0, 10, .inl da)), (h3, .inl (G.2 0, 10, .inl dm)), (h4, .inl (G.2 0, 10, .inl dw))]) (va_Qi (fun (rv : Int32) (_u : Unit) => rv = g2) (cW G [(h0, .inr (2, [.ref h1, .ref h2, .ref h3, .ref h4, .int kn, .int g1, .int g2, .int g3, .int g4])), (h1, .inl (G.2 0, 10, .inl df)), (h2, .inl (G.2 0, 10, .inl da)), (h3, .inl (G.2 0, 10, .inl dm)), (h4, .inl (G.2 0, 10, .inl dw))] (fun (_u : Unit) => [(h0, .inr (2, [.ref h1, .ref h2, .ref h3, .ref h4, .int kn, .int g1, .int g2, .int g3, .int g4])), (h1, .inl (G.2 0, 10, .inl df)), (h2, .inl (G.2 0, 10, .inl da)), (h3, .inl (G.2 0, 10, .inl dm)), (h4, .inl (G.2 0, 10, .inl dw))])) (pB [(h0, .inr (2, [.ref h1, .ref h2, .ref h3, .ref h4, .int kn, .int g1, .int g2, .int g3, .int g4])), (h1, .inl (G.2 0, 10, .inl df)), (h2, .inl (G.2 0, 10, .inl da)), (h3, .inl (G.2 0, 10, .inl dm)), (h4, .inl (G.2 0, 10, .inl dw))])) 0 0 (pB [(h0, .inr (2, [.ref h1, .ref h2, .ref h3, .ref h4, .int kn, .int g1, .int g2, .int g3, .int g4])), (h1, .inl (G.2 0, 10, .inl df)), (h2, .inl (G.2 0, 10, .inl da)), (h3, .inl (G.2 0, 10, .inl dm)), (h4, .inl (G.2 0, 10, .inl dw))]) := by
  refine ofCX (G := G) (cc := cX2_always) (maxL := 1) (ret := (some .int)) (by decide) rfl (Nat.le_of_ble_eq_true rfl) ?_
  intro p e s m below meth c ls C hr hin hD hP hl
  obtain ⟨hx, hb, hml, hown, hts, hlocks, hK⟩ := id C
  have hown : s.vm.findClass RX2 = some m.cls := hown
  have hfl_31 := hts (.fieldLink RX2 31 "AfterDesk$Deeds" "always" "I") (by decide +kernel)
  have hin_X2 : ∀ w ∈ wsX20, w ∈ wsX2_always := by decide +kernel
  generalize hAe : pB [(h0, .inr (2, [.ref h1, .ref h2, .ref h3, .ref h4, .int kn, .int g1, .int g2, .int g3, .int g4])), (h1, .inl (G.2 0, 10, .inl df)), (h2, .inl (G.2 0, 10, .inl da)), (h3, .inl (G.2 0, 10, .inl dm)), (h4, .inl (G.2 0, 10, .inl dw))] = A at hD ⊢
  have hS : va_S A s.heap s.heap [] := va_S.rf
  have hP : va_P G.1 vwCl [(h0, .inr (2, [.ref h1, .ref h2, .ref h3, .ref h4, .int kn, .int g1, .int g2, .int g3, .int g4])), (h1, .inl (G.2 0, 10, .inl df)), (h2, .inl (G.2 0, 10, .inl da)), (h3, .inl (G.2 0, 10, .inl dm)), (h4, .inl (G.2 0, 10, .inl dw))] s.heap := hP
  have hD : va_D A [(h0, .inr (2, [.ref h1, .ref h2, .ref h3, .ref h4, .int kn, .int g1, .int g2, .int g3, .int g4])), (h1, .inl (G.2 0, 10, .inl df)), (h2, .inl (G.2 0, 10, .inl da)), (h3, .inl (G.2 0, 10, .inl dm)), (h4, .inl (G.2 0, 10, .inl dw))] := hD
  have hl : lv_has ls 1 [(0, .ref h0)] := hl
  refine lv_aload_n hx hb dX2_always_0 rfl (lv_at hl 0 rfl) ?_
  refine va_get (D := G.1) (ci := 2) (v := .int g2) (C := RX2) (T := TX2) (N := 9) hx hb hts hin_X2 hown hK.1 hP 0 rfl rfl 6 (by decide) hfl_31 (fun _ h9 => h9) rfl dX2_always_1 ?_
  exact rtI C hr hAe (u := ()) hP hD hS dX2_always_4 rfl

set_option maxHeartbeats 4000000 in
set_option maxRecDepth 100000 in
theorem c_X2_onlyMostly (l : Launch) (G : gT) (h0 : Nat) (h1 : Nat) (h2 : Nat) (h3 : Nat) (h4 : Nat) (df : Nat → Int32) (da : Nat → Int32) (dm : Nat → Int32) (dw : Nat → Int32) (kn : Int32) (g1 : Int32) (g2 : Int32) (g3 : Int32) (g4 : Int32) : Met l yX2_onlyMostly wsX2_onlyMostly ({ frames := 0, cells := 0, slots := 0, locals := 0 }) (cPre G [.ref h0] [(h0, .inr (2, [.ref h1, .ref h2, .ref h3, .ref h4, .int kn, .int g1, .int g2, .int g3, .int g4])), (h1, .inl (G.2 0, 10, .inl df)), (h2, .inl (G.2 0, 10, .inl da)), (h3, .inl (G.2 0, 10, .inl dm)), (h4, .inl (G.2 0, 10, .inl dw))]) (va_Qi (fun (rv : Int32) (_u : Unit) => rv = g3 &&& (g2 ^^^ (-1))) (cW G [(h0, .inr (2, [.ref h1, .ref h2, .ref h3, .ref h4, .int kn, .int g1, .int g2, .int g3, .int g4])), (h1, .inl (G.2 0, 10, .inl df)), (h2, .inl (G.2 0, 10, .inl da)), (h3, .inl (G.2 0, 10, .inl dm)), (h4, .inl (G.2 0, 10, .inl dw))] (fun (_u : Unit) => [(h0, .inr (2, [.ref h1, .ref h2, .ref h3, .ref h4, .int kn, .int g1, .int g2, .int g3, .int g4])), (h1, .inl (G.2 0, 10, .inl df)), (h2, .inl (G.2 0, 10, .inl da)), (h3, .inl (G.2 0, 10, .inl dm)), (h4, .inl (G.2 0, 10, .inl dw))])) (pB [(h0, .inr (2, [.ref h1, .ref h2, .ref h3, .ref h4, .int kn, .int g1, .int g2, .int g3, .int g4])), (h1, .inl (G.2 0, 10, .inl df)), (h2, .inl (G.2 0, 10, .inl da)), (h3, .inl (G.2 0, 10, .inl dm)), (h4, .inl (G.2 0, 10, .inl dw))])) 0 0 (pB [(h0, .inr (2, [.ref h1, .ref h2, .ref h3, .ref h4, .int kn, .int g1, .int g2, .int g3, .int g4])), (h1, .inl (G.2 0, 10, .inl df)), (h2, .inl (G.2 0, 10, .inl da)), (h3, .inl (G.2 0, 10, .inl dm)), (h4, .inl (G.2 0, 10, .inl dw))]) := by
  refine ofCX (G := G) (cc := cX2_onlyMostly) (maxL := 1) (ret := (some .int)) (by decide) rfl (Nat.le_of_ble_eq_true rfl) ?_
  intro p e s m below meth c ls C hr hin hD hP hl
  obtain ⟨hx, hb, hml, hown, hts, hlocks, hK⟩ := id C
  have hown : s.vm.findClass RX2 = some m.cls := hown
  have hfl_34 := hts (.fieldLink RX2 34 "AfterDesk$Deeds" "mostly" "I") (by decide +kernel)
  have hin_X2 : ∀ w ∈ wsX20, w ∈ wsX2_onlyMostly := by decide +kernel
  have hfl_31 := hts (.fieldLink RX2 31 "AfterDesk$Deeds" "always" "I") (by decide +kernel)
  generalize hAe : pB [(h0, .inr (2, [.ref h1, .ref h2, .ref h3, .ref h4, .int kn, .int g1, .int g2, .int g3, .int g4])), (h1, .inl (G.2 0, 10, .inl df)), (h2, .inl (G.2 0, 10, .inl da)), (h3, .inl (G.2 0, 10, .inl dm)), (h4, .inl (G.2 0, 10, .inl dw))] = A at hD ⊢
  have hS : va_S A s.heap s.heap [] := va_S.rf
  have hP : va_P G.1 vwCl [(h0, .inr (2, [.ref h1, .ref h2, .ref h3, .ref h4, .int kn, .int g1, .int g2, .int g3, .int g4])), (h1, .inl (G.2 0, 10, .inl df)), (h2, .inl (G.2 0, 10, .inl da)), (h3, .inl (G.2 0, 10, .inl dm)), (h4, .inl (G.2 0, 10, .inl dw))] s.heap := hP
  have hD : va_D A [(h0, .inr (2, [.ref h1, .ref h2, .ref h3, .ref h4, .int kn, .int g1, .int g2, .int g3, .int g4])), (h1, .inl (G.2 0, 10, .inl df)), (h2, .inl (G.2 0, 10, .inl da)), (h3, .inl (G.2 0, 10, .inl dm)), (h4, .inl (G.2 0, 10, .inl dw))] := hD
  have hl : lv_has ls 1 [(0, .ref h0)] := hl
  refine lv_aload_n hx hb dX2_onlyMostly_0 rfl (lv_at hl 0 rfl) ?_
  refine va_get (D := G.1) (ci := 2) (v := .int g3) (C := RX2) (T := TX2) (N := 9) hx hb hts hin_X2 hown hK.1 hP 0 rfl rfl 7 (by decide) hfl_34 (fun _ h9 => h9) rfl dX2_onlyMostly_1 ?_
  refine lv_aload_n hx hb dX2_onlyMostly_4 rfl (lv_at hl 0 rfl) ?_
  refine va_get (D := G.1) (ci := 2) (v := .int g2) (C := RX2) (T := TX2) (N := 9) hx hb hts hin_X2 hown hK.1 hP 0 rfl rfl 6 (by decide) hfl_31 (fun _ h9 => h9) rfl dX2_onlyMostly_5 ?_
  refine lv_iconst (v := -1) hx hb dX2_onlyMostly_8 (by decide) ?_
  refine lv_ixor hx hb dX2_onlyMostly_9 ?_
  refine lv_iand hx hb dX2_onlyMostly_10 ?_
  exact rtI C hr hAe (u := ()) hP hD hS dX2_onlyMostly_11 rfl

set_option maxHeartbeats 4000000 in
set_option maxRecDepth 100000 in
theorem c_X2_leaves (l : Launch) (G : gT) (h0 : Nat) (h1 : Nat) (h2 : Nat) (h3 : Nat) (h4 : Nat) (df : Nat → Int32) (da : Nat → Int32) (dm : Nat → Int32) (dw : Nat → Int32) (kn : Int32) (g1 : Int32) (g2 : Int32) (g3 : Int32) (g4 : Int32) : Met l yX2_leaves wsX2_leaves ({ frames := 0, cells := 0, slots := 0, locals := 0 }) (cPre G [.ref h0] [(h0, .inr (2, [.ref h1, .ref h2, .ref h3, .ref h4, .int kn, .int g1, .int g2, .int g3, .int g4])), (h1, .inl (G.2 0, 10, .inl df)), (h2, .inl (G.2 0, 10, .inl da)), (h3, .inl (G.2 0, 10, .inl dm)), (h4, .inl (G.2 0, 10, .inl dw))]) (va_Qi (fun (rv : Int32) (_u : Unit) => rv = g2 ||| g3) (cW G [(h0, .inr (2, [.ref h1, .ref h2, .ref h3, .ref h4, .int kn, .int g1, .int g2, .int g3, .int g4])), (h1, .inl (G.2 0, 10, .inl df)), (h2, .inl (G.2 0, 10, .inl da)), (h3, .inl (G.2 0, 10, .inl dm)), (h4, .inl (G.2 0, 10, .inl dw))] (fun (_u : Unit) => [(h0, .inr (2, [.ref h1, .ref h2, .ref h3, .ref h4, .int kn, .int g1, .int g2, .int g3, .int g4])), (h1, .inl (G.2 0, 10, .inl df)), (h2, .inl (G.2 0, 10, .inl da)), (h3, .inl (G.2 0, 10, .inl dm)), (h4, .inl (G.2 0, 10, .inl dw))])) (pB [(h0, .inr (2, [.ref h1, .ref h2, .ref h3, .ref h4, .int kn, .int g1, .int g2, .int g3, .int g4])), (h1, .inl (G.2 0, 10, .inl df)), (h2, .inl (G.2 0, 10, .inl da)), (h3, .inl (G.2 0, 10, .inl dm)), (h4, .inl (G.2 0, 10, .inl dw))])) 0 0 (pB [(h0, .inr (2, [.ref h1, .ref h2, .ref h3, .ref h4, .int kn, .int g1, .int g2, .int g3, .int g4])), (h1, .inl (G.2 0, 10, .inl df)), (h2, .inl (G.2 0, 10, .inl da)), (h3, .inl (G.2 0, 10, .inl dm)), (h4, .inl (G.2 0, 10, .inl dw))]) := by
  refine ofCX (G := G) (cc := cX2_leaves) (maxL := 1) (ret := (some .int)) (by decide) rfl (Nat.le_of_ble_eq_true rfl) ?_
  intro p e s m below meth c ls C hr hin hD hP hl
  obtain ⟨hx, hb, hml, hown, hts, hlocks, hK⟩ := id C
  have hown : s.vm.findClass RX2 = some m.cls := hown
  have hfl_31 := hts (.fieldLink RX2 31 "AfterDesk$Deeds" "always" "I") (by decide +kernel)
  have hin_X2 : ∀ w ∈ wsX20, w ∈ wsX2_leaves := by decide +kernel
  have hfl_34 := hts (.fieldLink RX2 34 "AfterDesk$Deeds" "mostly" "I") (by decide +kernel)
  generalize hAe : pB [(h0, .inr (2, [.ref h1, .ref h2, .ref h3, .ref h4, .int kn, .int g1, .int g2, .int g3, .int g4])), (h1, .inl (G.2 0, 10, .inl df)), (h2, .inl (G.2 0, 10, .inl da)), (h3, .inl (G.2 0, 10, .inl dm)), (h4, .inl (G.2 0, 10, .inl dw))] = A at hD ⊢
  have hS : va_S A s.heap s.heap [] := va_S.rf
  have hP : va_P G.1 vwCl [(h0, .inr (2, [.ref h1, .ref h2, .ref h3, .ref h4, .int kn, .int g1, .int g2, .int g3, .int g4])), (h1, .inl (G.2 0, 10, .inl df)), (h2, .inl (G.2 0, 10, .inl da)), (h3, .inl (G.2 0, 10, .inl dm)), (h4, .inl (G.2 0, 10, .inl dw))] s.heap := hP
  have hD : va_D A [(h0, .inr (2, [.ref h1, .ref h2, .ref h3, .ref h4, .int kn, .int g1, .int g2, .int g3, .int g4])), (h1, .inl (G.2 0, 10, .inl df)), (h2, .inl (G.2 0, 10, .inl da)), (h3, .inl (G.2 0, 10, .inl dm)), (h4, .inl (G.2 0, 10, .inl dw))] := hD
  have hl : lv_has ls 1 [(0, .ref h0)] := hl
  refine lv_aload_n hx hb dX2_leaves_0 rfl (lv_at hl 0 rfl) ?_
  refine va_get (D := G.1) (ci := 2) (v := .int g2) (C := RX2) (T := TX2) (N := 9) hx hb hts hin_X2 hown hK.1 hP 0 rfl rfl 6 (by decide) hfl_31 (fun _ h9 => h9) rfl dX2_leaves_1 ?_
  refine lv_aload_n hx hb dX2_leaves_4 rfl (lv_at hl 0 rfl) ?_
  refine va_get (D := G.1) (ci := 2) (v := .int g3) (C := RX2) (T := TX2) (N := 9) hx hb hts hin_X2 hown hK.1 hP 0 rfl rfl 7 (by decide) hfl_34 (fun _ h9 => h9) rfl dX2_leaves_5 ?_
  refine lv_ior hx hb dX2_leaves_8 ?_
  exact rtI C hr hAe (u := ()) hP hD hS dX2_leaves_9 rfl

set_option maxHeartbeats 4000000 in
set_option maxRecDepth 100000 in
theorem c_X2_wiped (l : Launch) (G : gT) (h0 : Nat) (h1 : Nat) (h2 : Nat) (h3 : Nat) (h4 : Nat) (df : Nat → Int32) (da : Nat → Int32) (dm : Nat → Int32) (dw : Nat → Int32) (kn : Int32) (g1 : Int32) (g2 : Int32) (g3 : Int32) (g4 : Int32) : Met l yX2_wiped wsX2_wiped ({ frames := 0, cells := 0, slots := 0, locals := 0 }) (cPre G [.ref h0] [(h0, .inr (2, [.ref h1, .ref h2, .ref h3, .ref h4, .int kn, .int g1, .int g2, .int g3, .int g4])), (h1, .inl (G.2 0, 10, .inl df)), (h2, .inl (G.2 0, 10, .inl da)), (h3, .inl (G.2 0, 10, .inl dm)), (h4, .inl (G.2 0, 10, .inl dw))]) (va_Qi (fun (rv : Int32) (_u : Unit) => rv = g4) (cW G [(h0, .inr (2, [.ref h1, .ref h2, .ref h3, .ref h4, .int kn, .int g1, .int g2, .int g3, .int g4])), (h1, .inl (G.2 0, 10, .inl df)), (h2, .inl (G.2 0, 10, .inl da)), (h3, .inl (G.2 0, 10, .inl dm)), (h4, .inl (G.2 0, 10, .inl dw))] (fun (_u : Unit) => [(h0, .inr (2, [.ref h1, .ref h2, .ref h3, .ref h4, .int kn, .int g1, .int g2, .int g3, .int g4])), (h1, .inl (G.2 0, 10, .inl df)), (h2, .inl (G.2 0, 10, .inl da)), (h3, .inl (G.2 0, 10, .inl dm)), (h4, .inl (G.2 0, 10, .inl dw))])) (pB [(h0, .inr (2, [.ref h1, .ref h2, .ref h3, .ref h4, .int kn, .int g1, .int g2, .int g3, .int g4])), (h1, .inl (G.2 0, 10, .inl df)), (h2, .inl (G.2 0, 10, .inl da)), (h3, .inl (G.2 0, 10, .inl dm)), (h4, .inl (G.2 0, 10, .inl dw))])) 0 0 (pB [(h0, .inr (2, [.ref h1, .ref h2, .ref h3, .ref h4, .int kn, .int g1, .int g2, .int g3, .int g4])), (h1, .inl (G.2 0, 10, .inl df)), (h2, .inl (G.2 0, 10, .inl da)), (h3, .inl (G.2 0, 10, .inl dm)), (h4, .inl (G.2 0, 10, .inl dw))]) := by
  refine ofCX (G := G) (cc := cX2_wiped) (maxL := 1) (ret := (some .int)) (by decide) rfl (Nat.le_of_ble_eq_true rfl) ?_
  intro p e s m below meth c ls C hr hin hD hP hl
  obtain ⟨hx, hb, hml, hown, hts, hlocks, hK⟩ := id C
  have hown : s.vm.findClass RX2 = some m.cls := hown
  have hfl_37 := hts (.fieldLink RX2 37 "AfterDesk$Deeds" "wiped" "I") (by decide +kernel)
  have hin_X2 : ∀ w ∈ wsX20, w ∈ wsX2_wiped := by decide +kernel
  generalize hAe : pB [(h0, .inr (2, [.ref h1, .ref h2, .ref h3, .ref h4, .int kn, .int g1, .int g2, .int g3, .int g4])), (h1, .inl (G.2 0, 10, .inl df)), (h2, .inl (G.2 0, 10, .inl da)), (h3, .inl (G.2 0, 10, .inl dm)), (h4, .inl (G.2 0, 10, .inl dw))] = A at hD ⊢
  have hS : va_S A s.heap s.heap [] := va_S.rf
  have hP : va_P G.1 vwCl [(h0, .inr (2, [.ref h1, .ref h2, .ref h3, .ref h4, .int kn, .int g1, .int g2, .int g3, .int g4])), (h1, .inl (G.2 0, 10, .inl df)), (h2, .inl (G.2 0, 10, .inl da)), (h3, .inl (G.2 0, 10, .inl dm)), (h4, .inl (G.2 0, 10, .inl dw))] s.heap := hP
  have hD : va_D A [(h0, .inr (2, [.ref h1, .ref h2, .ref h3, .ref h4, .int kn, .int g1, .int g2, .int g3, .int g4])), (h1, .inl (G.2 0, 10, .inl df)), (h2, .inl (G.2 0, 10, .inl da)), (h3, .inl (G.2 0, 10, .inl dm)), (h4, .inl (G.2 0, 10, .inl dw))] := hD
  have hl : lv_has ls 1 [(0, .ref h0)] := hl
  refine lv_aload_n hx hb dX2_wiped_0 rfl (lv_at hl 0 rfl) ?_
  refine va_get (D := G.1) (ci := 2) (v := .int g4) (C := RX2) (T := TX2) (N := 9) hx hb hts hin_X2 hown hK.1 hP 0 rfl rfl 8 (by decide) hfl_37 (fun _ h9 => h9) rfl dX2_wiped_1 ?_
  exact rtI C hr hAe (u := ()) hP hD hS dX2_wiped_4 rfl
