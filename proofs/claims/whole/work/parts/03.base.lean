/-! base: what holds in a method of this claim, a contract's start and end, calls that make nothing new -/
abbrev gT : Type := va_G × (Nat → ClassId)
def nsts : List Cond := [.methodLinkNest RX7 15 yX1_init RX7, .methodLinkNest RX7 18 yX6_init RX7, .methodLinkNest RX7 25 yX5_init RX7, .methodLinkNest RX7 32 yX0_init RX7, .methodLinkNest RX7 39 yX4_init RX7, .methodLinkNest RX7 46 yX2_init RX7, .methodLinkNest RX7 53 yX3_init RX7, .methodLinkNest RX1 29 yX7_isWithin RX7, .methodLinkNest RX6 34 yX7_isWithin RX7, .methodLinkNest RX5 29 yX7_isWithin RX7, .methodLinkNest RX0 48 yX7_isWithin RX7, .methodLinkNest RX2 40 yX7_isWithin RX7, .methodLinkNest RX3 49 yX7_isWithin RX7]
theorem nsts_form : ∀ w ∈ nsts, ∃ (a : String) (i : Nat) (x : MethodName) (h : String), w = .methodLinkNest a i x h := by
  intro w hw
  simp only [nsts, List.mem_cons, List.not_mem_nil, or_false] at hw
  rcases hw with h | h | h | h | h | h | h | h | h | h | h | h | h <;> exact ⟨_, _, _, _, h⟩
abbrev tyl (G : gT) : List (ClassId × FieldType) := [(G.2 0, .int), (G.2 1, .long), (G.2 2, .boolean), (G.2 3, .object RX1)]
def KK (G : gT) (U : State) : Prop := va_K G.1 vwCl (tyl G) U ∧ (∀ w ∈ nsts, va_Nw w U) ∧ va_AO RX1 U
theorem KK.warm {G : gT} {s U : State} (hW : s.WarmedH U.vm) (h : KK G s) : KK G U := by
  refine ⟨va_K.moved hW.alike h.1, fun w hw => ?_, va_AO.moved hW.alike h.2.2⟩
  have hz := h.2.1 w hw
  obtain ⟨a, i, x, hh, rfl⟩ := nsts_form w hw
  exact va_Nw.warmM hW hz
theorem KK.calling {G : gT} {U : State} (g : JFrame) (mk : MethodId) (a : Array Value) (h : KK G U) : KK G (U.calling g mk a) := by
  refine ⟨va_K.moved (u := U) (U := U.calling g mk a) (Vm.Alike.refl U.vm) h.1, fun w hw => ?_, va_AO.moved (u := U) (U := U.calling g mk a) (Vm.Alike.refl U.vm) h.2.2⟩
  have hz := h.2.1 w hw
  obtain ⟨b, i, x, hh, rfl⟩ := nsts_form w hw
  exact va_Nw.same (u := U) (U := U.calling g mk a) rfl rfl hz
/-- the cells of a world -/
def pB (wc : va_W) : Nat → Prop := fun q => ∃ (k : Nat) (e : va_E), wc[k]? = some (q, e)
def cPre (G : gT) (av : List Value) (wc : va_W) : Array Value → State → Prop := va_Pc av (fun U => va_P G.1 vwCl wc U.heap ∧ KK G U ∧ va_D (fun _ => True) wc)
def cW (G : gT) {S : Type} (wc : va_W) (w1 : S → va_W) : S → State → Prop := fun u t => va_P G.1 vwCl (w1 u) t.heap ∧ va_D (pB wc) (w1 u)
theorem cPre_blind (G : gT) (av : List Value) (wc : va_W) : FrameBlind (cPre G av wc) := by
  intro a U g mk q
  obtain ⟨q0, qP, qK, qD⟩ := q
  exact ⟨q0, qP, qK.calling g mk a, qD⟩
theorem cPre_at {G : gT} {s : State} {H : Heap} {A : Nat → Prop} {wc : va_W} (av : List Value) (hK : KK G s) (hP : va_P G.1 vwCl wc H) (hD : va_D A wc) : ∀ U : State, U.heap = H → s.WarmedH U.vm → cPre G av wc av.toArray U :=
  fun U hU hW => ⟨rfl, by rw [hU]; exact hP, hK.warm hW, hD.weaken (fun _ _ _ _ => trivial)⟩
/-- the start of a virtual call -/
theorem pV {G : gT} {s : State} {H : Heap} {A : Nat → Prop} {wc : va_W} {b ci q0 : Nat} {r : vw_C} {fs : List Value} (As : List Value) (hK : KK G s) (hP : va_P G.1 vwCl wc H) (hD : va_D A wc) (hc : vwCl[ci]? = some r) (he : wc[q0]? = some (b, .inr (ci, fs))) : PreV s H r.1 b (cPre G (.ref b :: As) wc) As :=
  ⟨cPre_blind G _ wc, va_recv hK.1 hP hc he, cPre_at (.ref b :: As) hK hP hD⟩
theorem pS {G : gT} {s : State} {H : Heap} {A : Nat → Prop} {wc : va_W} (As : List Value) (hK : KK G s) (hP : va_P G.1 vwCl wc H) (hD : va_D A wc) : PreS s H (cPre G As wc) As :=
  ⟨cPre_blind G _ wc, cPre_at As hK hP hD⟩
theorem fm_some {α : Type} : ∀ (is : List Nat) (f : Nat → Option α) (w : List α), is.map f = w.map some → is.filterMap f = w
  | [], _, w, h => by cases w with
    | nil => rfl
    | cons a w => cases h
  | i :: is, f, w, h => by
    cases w with
    | nil => cases h
    | cons a w =>
      simp only [List.map_cons, List.cons.injEq] at h
      rw [List.filterMap_cons, h.1]
      simp only [List.cons.injEq, true_and]
      exact fm_some is f w h.2
/-- behind a call that makes nothing: the other cells and the callee's world, in the order that is wanted -/
theorem joinB {A0 : Nat → Prop} {D : va_G} {cl : List vw_C} {ws wc wr w1 w2 : va_W} {H H1 : Heap} (hP : va_P D cl ws H) (hD : va_D A0 ws) (isC isR : List Nat) (hC : isC.map (fun i => ws[i]?) = wc.map some) (hR : isR.map (fun i => ws[i]?) = wr.map some) (hn : va_nd isR = true) (hdis : ∀ i ∈ isR, i ∉ isC)
    (hk : ∀ q : Nat, q < H.size → ¬ pB wc q → H1[q]? = H[q]?) (hP1 : va_P D cl w1 H1) (hD1 : va_D (pB wc) w1) (ps : List Nat) (hps : ps.map (fun i => (wr ++ w1)[i]?) = w2.map some) (hpn : va_nd ps = true) : va_P D cl w2 H1 ∧ va_D A0 w2 := by
  have hB : ∀ q, pB wc q → A0 q := by
    rintro q ⟨k, e, h⟩
    have h1 : (isC.map (fun i => ws[i]?))[k]? = some (some (q, e)) := by rw [hC, List.getElem?_map, h]; rfl
    rw [List.getElem?_map] at h1
    cases hi : isC[k]? with
    | none => rw [hi] at h1; cases h1
    | some i => rw [hi] at h1; exact hD.2 i (q, e) (Option.some.inj h1)
  have hDw : va_D (fun q => A0 q ∨ H.size ≤ q) ws := hD.weaken (fun _ _ _ h => Or.inl h)
  obtain ⟨gP, gD⟩ := va_join (A0 := fun q => A0 q ∨ H.size ≤ q) hP hDw isC isR hC hR hn hdis (fun q h1 h2 => hk q h1 (fun z => h2 (Or.inl z))) (fun q h => h.elim (fun z => Or.inl (hB q z)) Or.inr) hP1 (hD1.weaken (fun _ _ _ h => Or.inl h))
  have gD2 : va_D A0 (wr ++ w1) := by
    refine ⟨gD.1, fun k q hq => ?_⟩
    by_cases hl : k < wr.length
    · rw [List.getElem?_append_left hl] at hq
      have h1 : (isR.map (fun i => ws[i]?))[k]? = some (some q) := by rw [hR, List.getElem?_map, hq]; rfl
      rw [List.getElem?_map] at h1
      cases hi : isR[k]? with
      | none => rw [hi] at h1; cases h1
      | some i => rw [hi] at h1; exact hD.2 i q (Option.some.inj h1)
    · rw [List.getElem?_append_right (by omega)] at hq
      exact hB _ (hD1.2 _ q hq)
  exact ⟨gP.sub ps (fm_some _ _ _ hps), gD2.sub ps hpn hps⟩
def CX (p : Program) (s : State) (m : MethodId) (meth : Method) (c : Code) (args : Array Value) (cc : ByteArray) (nL : Nat) (own : String) (Ts : List Cond) (G : gT) : Prop :=
  p.tables.exec = Jvm.exec ∧ c.code = cc ∧ c.maxLocals = nL ∧ s.vm.findClass own = some m.cls ∧ (∀ w ∈ Ts, w.before args s = true) ∧ meth.locks = false ∧ KK G s
section CALLS
variable {p : Program} {l : Launch} {e : Env} {R : Room} {s : State} {m : MethodId} {args : Array Value} {below : List Frame} {meth : Method} {c : Code} {H : Heap} {locs : List Loc} {cells slots : Nat} {Q : State → Prop}
variable {pc : Nat} {ls : Array Slot} {rest st0 : List Value} {a : Array Value} {A : Nat → Prop} {H0 : Heap} {G : gT} {ws wc wr : va_W} {S : Type} {w1 w2 : S → va_W}
theorem xI {post : Int32 → S → Prop} (hr : va_Run p l e R s m args below meth c H locs cells slots 0 0 (F0 m pc ls st0) rest (va_Qi post (cW G wc w1) (pB wc) a) (pB wc)) (hP : va_P G.1 vwCl ws H) (hD : va_D A ws) (hS : va_S A H0 H locs) (isC isR : List Nat) (hC : isC.map (fun i => ws[i]?) = wc.map some) (hR : isR.map (fun i => ws[i]?) = wr.map some) (hn : va_nd isR = true) (hdis : ∀ i ∈ isR, i ∉ isC) (ps : List Nat) (hps : ∀ u, ps.map (fun i => (wr ++ w1 u)[i]?) = (w2 u).map some) (hpn : va_nd ps = true)
    (kk : ∀ (r : Int32) (u : S) (H1 : Heap) (locs1 : List Loc), post r u → va_P G.1 vwCl (w2 u) H1 → va_D A (w2 u) → va_S A H0 H1 locs1 → W p l e R s m args below meth c H1 locs1 cells slots Q (F0 m (pc + 3) ls (.int r :: rest))) : W p l e R s m args below meth c H locs cells slots Q (F0 m pc ls st0) := by
  have hB : ∀ q, pB wc q → A q := by
    rintro q ⟨k, e, h⟩
    have h1 : (isC.map (fun i => ws[i]?))[k]? = some (some (q, e)) := by rw [hC, List.getElem?_map, h]; rfl
    rw [List.getElem?_map] at h1
    cases hi : isC[k]? with
    | none => rw [hi] at h1; cases h1
    | some i => rw [hi] at h1; exact hD.2 i (q, e) (Option.some.inj h1)
  refine va_calli hr hS (fun q _ h => hB q h) hB (fun r u t H1 locs1 ht hvm hw hBt hz hk hS1 => ?_)
  obtain ⟨hP1, hD1⟩ := hBt
  rw [ht] at hP1
  obtain ⟨g1, g2⟩ := joinB hP hD isC isR hC hR hn hdis hk hP1 hD1 ps (hps u) hpn
  exact kk r u H1 locs1 hw g1 g2 hS1
theorem xL {post : Int64 → S → Prop} (hr : va_Run p l e R s m args below meth c H locs cells slots 0 0 (F0 m pc ls st0) rest (va_Ql post (cW G wc w1) (pB wc) a) (pB wc)) (hP : va_P G.1 vwCl ws H) (hD : va_D A ws) (hS : va_S A H0 H locs) (isC isR : List Nat) (hC : isC.map (fun i => ws[i]?) = wc.map some) (hR : isR.map (fun i => ws[i]?) = wr.map some) (hn : va_nd isR = true) (hdis : ∀ i ∈ isR, i ∉ isC) (ps : List Nat) (hps : ∀ u, ps.map (fun i => (wr ++ w1 u)[i]?) = (w2 u).map some) (hpn : va_nd ps = true)
    (kk : ∀ (r : Int64) (u : S) (H1 : Heap) (locs1 : List Loc), post r u → va_P G.1 vwCl (w2 u) H1 → va_D A (w2 u) → va_S A H0 H1 locs1 → W p l e R s m args below meth c H1 locs1 cells slots Q (F0 m (pc + 3) ls (.long r :: rest))) : W p l e R s m args below meth c H locs cells slots Q (F0 m pc ls st0) := by
  have hB : ∀ q, pB wc q → A q := by
    rintro q ⟨k, e, h⟩
    have h1 : (isC.map (fun i => ws[i]?))[k]? = some (some (q, e)) := by rw [hC, List.getElem?_map, h]; rfl
    rw [List.getElem?_map] at h1
    cases hi : isC[k]? with
    | none => rw [hi] at h1; cases h1
    | some i => rw [hi] at h1; exact hD.2 i (q, e) (Option.some.inj h1)
  refine va_calll hr hS (fun q _ h => hB q h) hB (fun r u t H1 locs1 ht hvm hw hBt hz hk hS1 => ?_)
  obtain ⟨hP1, hD1⟩ := hBt
  rw [ht] at hP1
  obtain ⟨g1, g2⟩ := joinB hP hD isC isR hC hR hn hdis hk hP1 hD1 ps (hps u) hpn
  exact kk r u H1 locs1 hw g1 g2 hS1
theorem xV {post : S → Prop} (hr : va_Run p l e R s m args below meth c H locs cells slots 0 0 (F0 m pc ls st0) rest (va_Qv post (cW G wc w1) (pB wc) a) (pB wc)) (hP : va_P G.1 vwCl ws H) (hD : va_D A ws) (hS : va_S A H0 H locs) (isC isR : List Nat) (hC : isC.map (fun i => ws[i]?) = wc.map some) (hR : isR.map (fun i => ws[i]?) = wr.map some) (hn : va_nd isR = true) (hdis : ∀ i ∈ isR, i ∉ isC) (ps : List Nat) (hps : ∀ u, ps.map (fun i => (wr ++ w1 u)[i]?) = (w2 u).map some) (hpn : va_nd ps = true)
    (kk : ∀ (u : S) (H1 : Heap) (locs1 : List Loc), post u → va_P G.1 vwCl (w2 u) H1 → va_D A (w2 u) → va_S A H0 H1 locs1 → W p l e R s m args below meth c H1 locs1 cells slots Q (F0 m (pc + 3) ls rest)) : W p l e R s m args below meth c H locs cells slots Q (F0 m pc ls st0) := by
  have hB : ∀ q, pB wc q → A q := by
    rintro q ⟨k, e, h⟩
    have h1 : (isC.map (fun i => ws[i]?))[k]? = some (some (q, e)) := by rw [hC, List.getElem?_map, h]; rfl
    rw [List.getElem?_map] at h1
    cases hi : isC[k]? with
    | none => rw [hi] at h1; cases h1
    | some i => rw [hi] at h1; exact hD.2 i (q, e) (Option.some.inj h1)
  refine va_callv hr hS (fun q _ h => hB q h) hB (fun u t H1 locs1 ht hvm hw hBt hz hk hS1 => ?_)
  obtain ⟨hP1, hD1⟩ := hBt
  rw [ht] at hP1
  obtain ⟨g1, g2⟩ := joinB hP hD isC isR hC hR hn hdis hk hP1 hD1 ps (hps u) hpn
  exact kk u H1 locs1 hw g1 g2 hS1
end CALLS
section ENDS
variable {p : Program} {l : Launch} {e : Env} {R : Room} {s : State} {m : MethodId} {args : Array Value} {below : List Frame} {meth : Method} {c : Code} {H : Heap} {locs : List Loc}
variable {pc : Nat} {ls : Array Slot} {G : gT} {wc : va_W} {S : Type} {w1 : S → va_W} {cc : ByteArray} {nL : Nat} {own : String} {Ts : List Cond} {A : Nat → Prop}
theorem rtI {post : Int32 → S → Prop} {v : Int32} (C : CX p s m meth c args cc nL own Ts G) (hr : meth.sig.returnType = some .int) (hAe : pB wc = A) (u : S) (hP : va_P G.1 vwCl (w1 u) H) (hD : va_D A (w1 u)) (hS : va_S A s.heap H locs) (hdg : decode cc pc = .ok (.ireturn, 1)) (hp : post v u) : W p l e R s m args below meth c H locs 0 0 (MQ below (va_Qi post (cW G wc w1) A) args s 0 0 A) (F0 m pc ls [.int v]) := by
  subst hAe
  exact W.iret C.1 C.2.1 hr (fun t ht _ => ⟨⟨v, u, rfl, hp, by rw [ht]; exact hP, hD⟩, hS.F ht⟩) hS.2.2 hdg C.2.2.2.2.2.1
theorem rtZ {post : Int32 → S → Prop} {v : Int32} (C : CX p s m meth c args cc nL own Ts G) (hr : meth.sig.returnType = some .boolean) (hv : narrow .boolean (.int v) = .int v) (hAe : pB wc = A) (u : S) (hP : va_P G.1 vwCl (w1 u) H) (hD : va_D A (w1 u)) (hS : va_S A s.heap H locs) (hdg : decode cc pc = .ok (.ireturn, 1)) (hp : post v u) : W p l e R s m args below meth c H locs 0 0 (MQ below (va_Qi post (cW G wc w1) A) args s 0 0 A) (F0 m pc ls [.int v]) := by
  subst hAe
  exact W.zret C.1 C.2.1 hr hv (fun t ht _ => ⟨⟨v, u, rfl, hp, by rw [ht]; exact hP, hD⟩, hS.F ht⟩) hS.2.2 hdg C.2.2.2.2.2.1
theorem rtL {post : Int64 → S → Prop} {v : Int64} (C : CX p s m meth c args cc nL own Ts G) (hr : meth.sig.returnType = some .long) (hAe : pB wc = A) (u : S) (hP : va_P G.1 vwCl (w1 u) H) (hD : va_D A (w1 u)) (hS : va_S A s.heap H locs) (hdg : decode cc pc = .ok (.lreturn, 1)) (hp : post v u) : W p l e R s m args below meth c H locs 0 0 (MQ below (va_Ql post (cW G wc w1) A) args s 0 0 A) (F0 m pc ls [.long v]) := by
  subst hAe
  exact W.lret C.1 C.2.1 hr (fun t ht _ => ⟨⟨v, u, rfl, hp, by rw [ht]; exact hP, hD⟩, hS.F ht⟩) hS.2.2 hdg C.2.2.2.2.2.1
theorem rtV {post : S → Prop} (C : CX p s m meth c args cc nL own Ts G) (hr : meth.sig.returnType = none) (hAe : pB wc = A) (u : S) (hP : va_P G.1 vwCl (w1 u) H) (hD : va_D A (w1 u)) (hS : va_S A s.heap H locs) (hdg : decode cc pc = .ok (.return_, 1)) (hp : post u) : W p l e R s m args below meth c H locs 0 0 (MQ below (va_Qv post (cW G wc w1) A) args s 0 0 A) (F0 m pc ls []) := by
  subst hAe
  exact W.vret C.1 C.2.1 hr (fun t ht _ => ⟨⟨u, rfl, hp, by rw [ht]; exact hP, hD⟩, hS.F ht⟩) hS.2.2 hdg C.2.2.2.2.2.1
end ENDS
theorem ofCX {l : Launch} {G : gT} {y : MethodName} {ws ws' : List Cond} {rm : Room} {av : List Value} {wc : va_W} {Qc : Array Value → State → Outcome → State → Prop} {mc ms : Nat} {free : Addr → Prop} {cc : ByteArray} {maxL : Nat} {ret : Option FieldType}
    (hy : plainName y.cls = true) (hw : ws = Cond.code y cc maxL ret :: ws') (hlen : (lg_sl av).length ≤ maxL)
    (body : ∀ (p : Program) (e : Env) (s : State) (m : MethodId) (below : List Frame) (meth : Method) (c : Code) (ls : Array Slot), CX p s m meth c av.toArray cc maxL y.cls ws G → meth.sig.returnType = ret → meth.name = y.name → va_D (pB wc) wc → va_P G.1 vwCl wc s.heap → lv_has ls maxL (lv_args 0 av) →
      W p l e rm s m av.toArray below meth c s.heap [] 0 0 (MQ below Qc av.toArray s mc ms free) (F0 m 0 ls [])) : Met l y ws rm (cPre G av wc) Qc mc ms free := by
  refine Met.ofW (cc := cc) (maxL := maxL) (ret := ret) hy hw ?_
  intro p e s m args below meth c s₁ B hml hv
  obtain ⟨rfl, hP, hK, hD0⟩ := hv
  have hts := atoms_spec (ws := ws) B.pre
  have hl := lv_entry av (n := maxL) hlen
  rw [lg_entry_eq]
  exact body p e s m below meth c _ ⟨B.exec, B.bytes, hml, findClass_of_methodNamed B.named, hts, B.notSynchronized, hK⟩ B.returns (name_of_methodNamed B.named B.method).1 ⟨hD0.1, fun k q hk => ⟨k, q.2, hk⟩⟩ hP hl

section ARR
variable {p : Program} {l : Launch} {e : Env} {R : Room} {s : State} {m : MethodId} {args : Array Value} {below : List Frame} {meth : Method} {c : Code} {H : Heap} {locs : List Loc} {cells slots : Nat} {Q : State → Prop}
variable {cc : ByteArray} {pc : Nat} {ls : Array Slot} {rest : List Value} {D : va_G} {cl : List vw_C} {A : Nat → Prop} {a : Nat} {tys : List (ClassId × FieldType)} {ws : va_W} {H0 : Heap}
theorem aIld (hexec : p.tables.exec = Jvm.exec) (hb : c.code = cc) (hK : va_K D cl tys s) (hP : va_P D cl ws H) (q0 t0 : Nat) {cA : ClassId} {n : Nat} {f : Nat → Int32} (ha : ws[q0]? = some (a, .inl (cA, n, .inl f))) (ht : tys[t0]? = some (cA, .int)) {i : Int32} {k : Nat} (hi : i = nI k) (hk : k < n) (hn : n < 2 ^ 31) (hdg : decode cc pc = .ok (.iaload, 1))
    (kk : W p l e R s m args below meth c H locs cells slots Q (F0 m (pc + 1) ls (.int (f k) :: rest))) : W p l e R s m args below meth c H locs cells slots Q (F0 m pc ls (.int i :: .ref a :: rest)) := by
  subst hi
  refine va_iald hexec hb hK hP q0 t0 ha ht (vp_in_nI hk hn) hdg ?_
  rw [nI_clamp (by omega)]
  exact kk
theorem aZld (hexec : p.tables.exec = Jvm.exec) (hb : c.code = cc) (hK : va_K D cl tys s) (hP : va_P D cl ws H) (q0 t0 : Nat) {cA : ClassId} {n : Nat} {f : Nat → Int32} (ha : ws[q0]? = some (a, .inl (cA, n, .inl f))) (ht : tys[t0]? = some (cA, .boolean)) {i : Int32} {k : Nat} (hi : i = nI k) (hk : k < n) (hn : n < 2 ^ 31) (hdg : decode cc pc = .ok (.baload, 1))
    (kk : W p l e R s m args below meth c H locs cells slots Q (F0 m (pc + 1) ls (.int (f k) :: rest))) : W p l e R s m args below meth c H locs cells slots Q (F0 m pc ls (.int i :: .ref a :: rest)) := by
  subst hi
  refine va_zald hexec hb hK hP q0 t0 ha ht (vp_in_nI hk hn) hdg ?_
  rw [nI_clamp (by omega)]
  exact kk
theorem aJld (hexec : p.tables.exec = Jvm.exec) (hb : c.code = cc) (hK : va_K D cl tys s) (hP : va_P D cl ws H) (q0 t0 : Nat) {cA : ClassId} {n : Nat} {f : Nat → Int64} (ha : ws[q0]? = some (a, .inl (cA, n, .inr (.inl f)))) (ht : tys[t0]? = some (cA, .long)) {i : Int32} {k : Nat} (hi : i = nI k) (hk : k < n) (hn : n < 2 ^ 31) (hdg : decode cc pc = .ok (.laload, 1))
    (kk : W p l e R s m args below meth c H locs cells slots Q (F0 m (pc + 1) ls (.long (f k) :: rest))) : W p l e R s m args below meth c H locs cells slots Q (F0 m pc ls (.int i :: .ref a :: rest)) := by
  subst hi
  refine va_lald hexec hb hK hP q0 t0 ha ht (vp_in_nI hk hn) hdg ?_
  rw [nI_clamp (by omega)]
  exact kk
theorem aIst (hexec : p.tables.exec = Jvm.exec) (hb : c.code = cc) (hK : va_K D cl tys s) (hP : va_P D cl ws H) (hD : va_D A ws) (hS : va_S A H0 H locs) (q0 t0 : Nat) {cA : ClassId} {n : Nat} {f : Nat → Int32} (ha : ws[q0]? = some (a, .inl (cA, n, .inl f))) (ht : tys[t0]? = some (cA, .int)) {i : Int32} {x : Int32} {k : Nat} (hi : i = nI k) (hk : k < n) (hn : n < 2 ^ 31) (hdg : decode cc pc = .ok (.iastore, 1))
    (kk : ∀ (H1 : Heap) (locs1 : List Loc), va_P D cl (ws.set q0 (a, .inl (cA, n, .inl (upd f k x)))) H1 → va_D A (ws.set q0 (a, .inl (cA, n, .inl (upd f k x)))) → va_S A H0 H1 locs1 → W p l e R s m args below meth c H1 locs1 cells slots Q (F0 m (pc + 1) ls rest)) : W p l e R s m args below meth c H locs cells slots Q (F0 m pc ls (.int x :: .int i :: .ref a :: rest)) := by
  subst hi
  refine va_iast hexec hb hK hP hD hS q0 t0 ha ht (vp_in_nI hk hn) hdg ?_
  rw [nI_clamp (by omega)]
  exact kk
theorem aZst (hexec : p.tables.exec = Jvm.exec) (hb : c.code = cc) (hK : va_K D cl tys s) (hP : va_P D cl ws H) (hD : va_D A ws) (hS : va_S A H0 H locs) (q0 t0 : Nat) {cA : ClassId} {n : Nat} {f : Nat → Int32} (ha : ws[q0]? = some (a, .inl (cA, n, .inl f))) (ht : tys[t0]? = some (cA, .boolean)) {i : Int32} {x : Int32} {k : Nat} (hi : i = nI k) (hk : k < n) (hn : n < 2 ^ 31) (hx : vp_nar .boolean x = x) (hdg : decode cc pc = .ok (.bastore, 1))
    (kk : ∀ (H1 : Heap) (locs1 : List Loc), va_P D cl (ws.set q0 (a, .inl (cA, n, .inl (upd f k x)))) H1 → va_D A (ws.set q0 (a, .inl (cA, n, .inl (upd f k x)))) → va_S A H0 H1 locs1 → W p l e R s m args below meth c H1 locs1 cells slots Q (F0 m (pc + 1) ls rest)) : W p l e R s m args below meth c H locs cells slots Q (F0 m pc ls (.int x :: .int i :: .ref a :: rest)) := by
  subst hi
  refine va_zast hexec hb hK hP hD hS q0 t0 ha ht (vp_in_nI hk hn) hdg ?_
  rw [nI_clamp (by omega), hx]
  exact kk
theorem aJst (hexec : p.tables.exec = Jvm.exec) (hb : c.code = cc) (hK : va_K D cl tys s) (hP : va_P D cl ws H) (hD : va_D A ws) (hS : va_S A H0 H locs) (q0 t0 : Nat) {cA : ClassId} {n : Nat} {f : Nat → Int64} (ha : ws[q0]? = some (a, .inl (cA, n, .inr (.inl f)))) (ht : tys[t0]? = some (cA, .long)) {i : Int32} {x : Int64} {k : Nat} (hi : i = nI k) (hk : k < n) (hn : n < 2 ^ 31) (hdg : decode cc pc = .ok (.lastore, 1))
    (kk : ∀ (H1 : Heap) (locs1 : List Loc), va_P D cl (ws.set q0 (a, .inl (cA, n, .inr (.inl (vp_updL f k x))))) H1 → va_D A (ws.set q0 (a, .inl (cA, n, .inr (.inl (vp_updL f k x))))) → va_S A H0 H1 locs1 → W p l e R s m args below meth c H1 locs1 cells slots Q (F0 m (pc + 1) ls rest)) : W p l e R s m args below meth c H locs cells slots Q (F0 m pc ls (.long x :: .int i :: .ref a :: rest)) := by
  subst hi
  refine va_last hexec hb hK hP hD hS q0 t0 ha ht (vp_in_nI hk hn) hdg ?_
  rw [nI_clamp (by omega)]
  exact kk
end ARR
theorem fa_lit (n : Nat) : (OfNat.ofNat n : Int32) = nI n := rfl
theorem fa_litL (n : Nat) : (OfNat.ofNat n : Int64) = lN n := rfl
theorem nI_inc (k : Nat) : nI k + Int32.ofInt 1 = nI (k + 1) := nI_1 k
theorem nI_dec (k : Nat) : nI (k + 1) + Int32.ofInt (-1) = nI k := pk_m1 k
def bI (b : Bool) : Int32 := if b then 1 else 0
theorem nar_bI (b : Bool) : narrow .boolean (.int (bI b)) = .int (bI b) := by cases b <;> rfl
theorem bD0 {P : Prop} [Decidable P] (h : bI (decide P) = 0) : ¬ P := by
  intro q
  rw [decide_eq_true q] at h
  exact absurd h (by decide)
theorem bD1 {P : Prop} [Decidable P] (h : ¬ bI (decide P) = 0) : P := by
  by_cases q : P
  · exact q
  · rw [decide_eq_false q] at h
    exact absurd rfl h
theorem bI_t {P : Prop} [Decidable P] (h : P) : (1 : Int32) = bI (decide P) := by rw [decide_eq_true h]; rfl
theorem bI_f {P : Prop} [Decidable P] (h : ¬ P) : (0 : Int32) = bI (decide P) := by rw [decide_eq_false h]; rfl
theorem bI_iff {P Q : Prop} [Decidable P] [Decidable Q] (h : P ↔ Q) : bI (decide P) = bI (decide Q) := by
  by_cases q : P
  · rw [decide_eq_true q, decide_eq_true (h.mp q)]
  · rw [decide_eq_false q, decide_eq_false (fun z => q (h.mpr z))]
theorem nst_X7_15 : Cond.methodLinkNest RX7 15 yX1_init RX7 ∈ nsts := List.mem_of_getElem? (i := 0) rfl
theorem nst_X7_18 : Cond.methodLinkNest RX7 18 yX6_init RX7 ∈ nsts := List.mem_of_getElem? (i := 1) rfl
theorem nst_X7_25 : Cond.methodLinkNest RX7 25 yX5_init RX7 ∈ nsts := List.mem_of_getElem? (i := 2) rfl
theorem nst_X7_32 : Cond.methodLinkNest RX7 32 yX0_init RX7 ∈ nsts := List.mem_of_getElem? (i := 3) rfl
theorem nst_X7_39 : Cond.methodLinkNest RX7 39 yX4_init RX7 ∈ nsts := List.mem_of_getElem? (i := 4) rfl
theorem nst_X7_46 : Cond.methodLinkNest RX7 46 yX2_init RX7 ∈ nsts := List.mem_of_getElem? (i := 5) rfl
theorem nst_X7_53 : Cond.methodLinkNest RX7 53 yX3_init RX7 ∈ nsts := List.mem_of_getElem? (i := 6) rfl
theorem nst_X1_29 : Cond.methodLinkNest RX1 29 yX7_isWithin RX7 ∈ nsts := List.mem_of_getElem? (i := 7) rfl
theorem nst_X6_34 : Cond.methodLinkNest RX6 34 yX7_isWithin RX7 ∈ nsts := List.mem_of_getElem? (i := 8) rfl
theorem nst_X5_29 : Cond.methodLinkNest RX5 29 yX7_isWithin RX7 ∈ nsts := List.mem_of_getElem? (i := 9) rfl
theorem nst_X0_48 : Cond.methodLinkNest RX0 48 yX7_isWithin RX7 ∈ nsts := List.mem_of_getElem? (i := 10) rfl
theorem nst_X2_40 : Cond.methodLinkNest RX2 40 yX7_isWithin RX7 ∈ nsts := List.mem_of_getElem? (i := 11) rfl
theorem nst_X3_49 : Cond.methodLinkNest RX3 49 yX7_isWithin RX7 ∈ nsts := List.mem_of_getElem? (i := 12) rfl

theorem nmI {p : Program} {l : Launch} {e : Env} {R : Room} {s : State} {m : MethodId} {args : Array Value} {below : List Frame} {meth : Method} {c : Code} {H : Heap} {locs : List Loc} {cells slots : Nat} {Q : State → Prop} {pc : Nat} {ls : Array Slot} {rest : List Value} {x y : Int32} (h : x = y) (k : W p l e R s m args below meth c H locs cells slots Q (F0 m pc ls (.int y :: rest))) : W p l e R s m args below meth c H locs cells slots Q (F0 m pc ls (.int x :: rest)) := by rw [h]; exact k
theorem nmL {p : Program} {l : Launch} {e : Env} {R : Room} {s : State} {m : MethodId} {args : Array Value} {below : List Frame} {meth : Method} {c : Code} {H : Heap} {locs : List Loc} {cells slots : Nat} {Q : State → Prop} {pc : Nat} {ls : Array Slot} {rest : List Value} {x y : Int64} (h : x = y) (k : W p l e R s m args below meth c H locs cells slots Q (F0 m pc ls (.long y :: rest))) : W p l e R s m args below meth c H locs cells slots Q (F0 m pc ls (.long x :: rest)) := by rw [h]; exact k
theorem sub1_toInt {n : Nat} (h : n < 2 ^ 31) : (nI n - 1).toInt = (n : Int) - 1 := by
  rcases Nat.eq_zero_or_pos n with q | q
  · subst q; decide
  · have e : nI n - 1 = nI (n - 1) := pk_sub (a := n) (b := 1) q
    rw [e, nI_toInt (by omega)]; omega
/-! pure: which PIECE -/
def oI : Option Nat → Int32
  | none => -1
  | some k => nI k
def plOf (f : Nat → Int32) (r : Int32) : Nat → Option Nat
  | 0 => none
  | k + 1 => if (f k).toInt ≤ r.toInt then some k else plOf f r k
theorem plOf_s (f : Nat → Int32) (r : Int32) (k : Nat) : plOf f r (k + 1) = if (f k).toInt ≤ r.toInt then some k else plOf f r k := rfl
theorem plOf_lt {f : Nat → Int32} {r : Int32} : ∀ {n k : Nat}, plOf f r n = some k → k < n
  | 0, k, h => by cases h
  | n + 1, k, h => by
    rw [plOf_s] at h
    split at h
    · cases h; omega
    · have := plOf_lt h; omega
