/-! THE CLAIM OUT OF ONE WALK OF THE LAW'S BODY. Your part is whole_start (and what it stands on); all else here is the same for every law, but numbers. -/
def R_law : String := "AfterDeskLaw"
def lw_P (b : Addr) (xs : List Int32) (args : Array Value) (s : State) : Prop := args = #[.ref b] ∧ s.IntsAt b xs ∧ xs.length ≤ 3072 ∧ (Jvm.Cond.and given_1 narrow_1).before args s = true
def lw_Q (_ : Array Value) (s : State) (o : Outcome) (t : State) : Prop := o = .returned (some (.int 1)) ∧ Framed s o t [] 600000 7302250
def lw_Z (below : List Frame) (a : Array Value) (s : State) : State → Prop := fun t => ∃ o, t.status = .running ∧ Ended t below o ∧ lw_Q a s o t
/-- the law's own end, with 1 on the stack, nothing written that was there before, its room as the claim has it -/
theorem lw_ret {p : Program} {l : Launch} {e : Env} {s : State} {m : MethodId} {below : List Frame} {meth : Method} {c : Code} {b : Nat} (hx : p.tables.exec = Jvm.exec) (hb : c.code = code) (hr : meth.sig.returnType = ret) (hlocks : meth.locks = false) {pc : Nat} {H : Heap} {ls : Array Slot} (hdg : decode code pc = .ok (.ireturn, 1)) : W p l e room_1 s m #[Value.ref b] below meth c H [] 600000 7302250 (lw_Z below #[Value.ref b] s) (F0 m pc ls [.int 1]) := by
  intro T hT X
  obtain ⟨fs, hret, hrun, hended, hW, hframe⟩ := X.leave (v := some (.int 1)) (hlocks := hlocks) (fun h => by rw [hr] at h; cases h)
  have hmeth' : T.vm.method? m = some meth := X.method'
  refine ⟨T.setFrames fs, ?_, .returned (some (.int 1)), hrun, hended, rfl, ⟨_, rfl⟩, hW, hframe⟩
  jvm_step X.here [X.here.top, hx, hb, hdg, hmeth', hr, ret, narrow_b1]
  (try refine ⟨rfl, ?_⟩); (try refine ⟨rfl, ?_⟩)
  first | (intro acts; rw [hret _ acts rfl rfl rfl]) | rw [hret _ _ rfl rfl rfl]
  exact Steps.refl _
/-- what holds at the law's entry: the machine, the code, the tables' words (any of lw_tbl by 'hts w (by decide +kernel)'), the script of L ints xs at the cell b, what the Statement gives of the start (any of its parts by flat_of_before) -/
def lw_At (p : Program) (s : State) (m : MethodId) (meth : Method) (c : Code) (b L : Nat) (xs : Nat → Int32) : Prop :=
  p.tables.exec = Jvm.exec ∧ c.code = code ∧ meth.sig.returnType = ret ∧ c.maxLocals = 4 ∧ s.vm.findClass R_law = some m.cls ∧ (∀ w ∈ lw_tbl, w.before #[Value.ref b] s = true) ∧ va_X b L xs s s.heap ∧ b < s.heap.size ∧ meth.locks = false ∧ (Jvm.Cond.and given_1 narrow_1).before #[Value.ref b] s = true
set_option maxHeartbeats 4000000 in
set_option maxRecDepth 100000 in
theorem law_loop {p : Program} {l : Launch} {e : Env} {s : State} {m : MethodId} {b : Nat} {below : List Frame} {meth : Method} {c : Code} {G : gT} {L : Nat} {xs : Nat → Int32} {o0 kA q00 q01 q02 q03 q10 q11 q12 q13 q20 q21 q22 q23 q30 q31 q32 q33 t0 t1 t2 t3 t4 i0 i1 i2 i3 b0 b1 s0 s1 d0 d1 d2 d3 d4 l0 l1 l2 wA fA m0 mpi mfr mlo mhi mkd mck mrd mmk mah mbe mby mkn mpr mal mmo mwp mwt mfo mms mst : Nat} (X : LX p s m meth c b L xs G) (hr : meth.sig.returnType = ret) : ∀ (fu li : Nat), li ≤ L + 6 → L + 6 - li < fu → LGo p l e s m b below meth c (lw_Z below #[Value.ref b] s) G o0 kA q00 q01 q02 q03 q10 q11 q12 q13 q20 q21 q22 q23 q30 q31 q32 q33 t0 t1 t2 t3 t4 i0 i1 i2 i3 b0 b1 s0 s1 d0 d1 d2 d3 d4 l0 l1 l2 wA fA m0 mpi mfr mlo mhi mkd mck mrd mmk mah mbe mby mkn mpr mal mmo mwp mwt mfo mms mst (nI li) 18 := by
  obtain ⟨C, hX, hbl, hL⟩ := id X
  obtain ⟨hx, hb, hml, hown, hts, hlocks, hK⟩ := id C
  have hbA : ¬ AA s b := Nat.not_le.mpr hbl
  intro fu
  induction fu with
  | zero =>
    intro li h1 h2
    exact absurd h2 (by omega)
  | succ fu ih =>
    intro li hle hfu
    intro s2 s3 cf cl ch cn fr lw hg tk tc tr tm tn th te ta tb td ua ub ud im ms nd sst swk slg ssz kn kb df da dm dw g1 g2 g3 g4 mi fo2 rows lv z cc_ ia is od wt wn fo msM rowsM sm lc h1 h2 h3 hwn H locs ls hP hD hS hl
    refine lv_iload_n hx hb dL_law_18 rfl (lv_at hl 3 rfl) ?_
    refine lv_aload_n hx hb dL_law_19 rfl (lv_at hl 0 rfl) ?_
    refine va_slen hx hb hX hbl hbA hS dL_law_20 ?_
    refine lv_bipush (v := 6) hx hb dL_law_21 (by decide) ?_
    refine lv_isub hx hb dL_law_23 ?_
    refine lv_icmp_gt (tgt := 1088) hx hb dL_law_24 (by decide) (fun _ => ?_) (fun hc => ?_)
    · refine lv_iconst (v := 1) hx hb dL_law_1088 (by decide) ?_
      refine va_forget (fun q hq => hS.2.2 q hq) ?_
      refine W.widen (k := 600000) (n := 7302250) (by omega) (by omega) ?_
      exact lw_ret hx hb hr hlocks dL_law_1089
    · have hli : li + 6 ≤ L := by
        have h6 := pk_sub_toInt (a := L) (b := 6) (by omega) (by omega)
        have h7 := nI_toInt (n := li) (by omega)
        have h8 : ¬ (nI L - nI 6).toInt < (nI li).toInt := fun z => hc (Int32.lt_iff_toInt_lt.mpr z)
        rw [h6, h7] at h8
        omega
      refine law_body X hli (fun s2 s3 cf cl ch cn fr lw hg tk tc tr tm tn th te ta tb td ua ub ud im ms nd sst swk slg ssz kn kb df da dm dw g1 g2 g3 g4 mi fo2 rows lv z cc_ ia is od wt wn fo msM rowsM sm lc h1 h2 h3 hwn H locs ls hP hD hS hl => ?_) s2 s3 cf cl ch cn fr lw hg tk tc tr tm tn th te ta tb td ua ub ud im ms nd sst swk slg ssz kn kb df da dm dw g1 g2 g3 g4 mi fo2 rows lv z cc_ ia is od wt wn fo msM rowsM sm lc h1 h2 h3 hwn H locs ls hP hD hS hl
      refine lv_iinc (v := nI (li + 6)) (lv' := [(3, .int (nI (li + 6))), (0, .ref b), (1, .ref o0), (2, .ref m0)]) hx hb dL_law_1082 hl (k := 3) rfl (show nI li + Int32.ofInt 6 = nI (li + 6) from nI_add li 6) (by decide) rfl (fun ls hl => ?_)
      refine lv_goto (tgt := 18) hx hb dL_law_1085 (by decide) ?_
      exact ih (li + 6) (by omega) (by omega) s2 s3 cf cl ch cn fr lw hg tk tc tr tm tn th te ta tb td ua ub ud im ms nd sst swk slg ssz kn kb df da dm dw g1 g2 g3 g4 mi fo2 rows lv z cc_ ia is od wt wn fo msM rowsM sm lc h1 h2 h3 hwn H locs ls hP hD hS (lv_sub hl [1, 2, 3, 0] rfl)
