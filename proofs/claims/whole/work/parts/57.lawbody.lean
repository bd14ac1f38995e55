set_option maxHeartbeats 4000000 in
theorem tsw28 (x : Int32) : (x.toInt < 0 ∨ 27 < x.toInt) ∨ x = 0 ∨ x = 1 ∨ x = 2 ∨ x = 3 ∨ x = 4 ∨ x = 5 ∨ x = 6 ∨ x = 7 ∨ x = 8 ∨ x = 9 ∨ x = 10 ∨ x = 11 ∨ x = 12 ∨ x = 13 ∨ x = 14 ∨ x = 15 ∨ x = 16 ∨ x = 17 ∨ x = 18 ∨ x = 19 ∨ x = 20 ∨ x = 21 ∨ x = 22 ∨ x = 23 ∨ x = 24 ∨ x = 25 ∨ x = 26 ∨ x = 27 := by
  simp only [← Int32.toInt_inj, show (0 : Int32).toInt = 0 from rfl, show (1 : Int32).toInt = 1 from rfl, show (2 : Int32).toInt = 2 from rfl, show (3 : Int32).toInt = 3 from rfl, show (4 : Int32).toInt = 4 from rfl, show (5 : Int32).toInt = 5 from rfl, show (6 : Int32).toInt = 6 from rfl, show (7 : Int32).toInt = 7 from rfl, show (8 : Int32).toInt = 8 from rfl, show (9 : Int32).toInt = 9 from rfl, show (10 : Int32).toInt = 10 from rfl, show (11 : Int32).toInt = 11 from rfl, show (12 : Int32).toInt = 12 from rfl, show (13 : Int32).toInt = 13 from rfl, show (14 : Int32).toInt = 14 from rfl, show (15 : Int32).toInt = 15 from rfl, show (16 : Int32).toInt = 16 from rfl, show (17 : Int32).toInt = 17 from rfl, show (18 : Int32).toInt = 18 from rfl, show (19 : Int32).toInt = 19 from rfl, show (20 : Int32).toInt = 20 from rfl, show (21 : Int32).toInt = 21 from rfl, show (22 : Int32).toInt = 22 from rfl, show (23 : Int32).toInt = 23 from rfl, show (24 : Int32).toInt = 24 from rfl, show (25 : Int32).toInt = 25 from rfl, show (26 : Int32).toInt = 26 from rfl, show (27 : Int32).toInt = 27 from rfl]
  omega
set_option maxHeartbeats 4000000 in
set_option maxRecDepth 100000 in
theorem law_body {p : Program} {l : Launch} {e : Env} {s : State} {m : MethodId} {b : Nat} {below : List Frame} {meth : Method} {c : Code} {Q : State → Prop} {G : gT} {L : Nat} {xs : Nat → Int32} {o0 kA q00 q01 q02 q03 q10 q11 q12 q13 q20 q21 q22 q23 q30 q31 q32 q33 t0 t1 t2 t3 t4 i0 i1 i2 i3 b0 b1 s0 s1 d0 d1 d2 d3 d4 l0 l1 l2 wA fA m0 mpi mfr mlo mhi mkd mck mrd mmk mah mbe mby mkn mpr mal mmo mwp mwt mfo mms mst : Nat} {li : Nat} (X : LX p s m meth c b L xs G) (hli : li + 6 ≤ L) (hgo : LGo p l e s m b below meth c Q G o0 kA q00 q01 q02 q03 q10 q11 q12 q13 q20 q21 q22 q23 q30 q31 q32 q33 t0 t1 t2 t3 t4 i0 i1 i2 i3 b0 b1 s0 s1 d0 d1 d2 d3 d4 l0 l1 l2 wA fA m0 mpi mfr mlo mhi mkd mck mrd mmk mah mbe mby mkn mpr mal mmo mwp mwt mfo mms mst (nI li) 1082) : LGo p l e s m b below meth c Q G o0 kA q00 q01 q02 q03 q10 q11 q12 q13 q20 q21 q22 q23 q30 q31 q32 q33 t0 t1 t2 t3 t4 i0 i1 i2 i3 b0 b1 s0 s1 d0 d1 d2 d3 d4 l0 l1 l2 wA fA m0 mpi mfr mlo mhi mkd mck mrd mmk mah mbe mby mkn mpr mal mmo mwp mwt mfo mms mst (nI li) 27 := by
  obtain ⟨C, hX, hbl, hL⟩ := id X
  obtain ⟨hx, hb, hml, hown, hts, hlocks, hK⟩ := id C
  have hbA : ¬ AA s b := Nat.not_le.mpr hbl
  intro s2 s3 cf cl ch cn fr lw hg tk tc tr tm tn th te ta tb td ua ub ud im ms nd sst swk slg ssz kn kb df da dm dw g1 g2 g3 g4 mi fo2 rows lv z cc_ ia is od wt wn fo msM rowsM sm lc h1 h2 h3 hwn H locs ls hP hD hS hl
  refine lv_aload_n hx hb dL_law_27 rfl (lv_at hl 0 rfl) ?_
  refine lv_iload_n hx hb dL_law_28 rfl (lv_at hl 3 rfl) ?_
  refine sldN hx hb hX hbl hbA hS (k := li) rfl (by omega) hL dL_law_29 ?_
  refine lv_bipush (v := 31) hx hb dL_law_30 (by decide) ?_
  refine lv_iand hx hb dL_law_32 ?_
  rcases tsw28 (xs li &&& 31) with hc | hc | hc | hc | hc | hc | hc | hc | hc | hc | hc | hc | hc | hc | hc | hc | hc | hc | hc | hc | hc | hc | hc | hc | hc | hc | hc | hc | hc
  · refine lv_tableOut (tgt := 1082) hx hb dL_law_33 hc (by decide) ?_
    exact hgo s2 s3 cf cl ch cn fr lw hg tk tc tr tm tn th te ta tb td ua ub ud im ms nd sst swk slg ssz kn kb df da dm dw g1 g2 g3 g4 mi fo2 rows lv z cc_ ia is od wt wn fo msM rowsM sm lc h1 h2 h3 hwn H locs ls hP hD hS hl
  · refine nmI hc ?_
    refine lv_tableIn (off := 127) (tgt := 160) hx hb dL_law_33 (by decide) (by decide) rfl (by decide) ?_
    exact law_c0 X hli hgo s2 s3 cf cl ch cn fr lw hg tk tc tr tm tn th te ta tb td ua ub ud im ms nd sst swk slg ssz kn kb df da dm dw g1 g2 g3 g4 mi fo2 rows lv z cc_ ia is od wt wn fo msM rowsM sm lc h1 h2 h3 hwn H locs ls hP hD hS hl
  · refine nmI hc ?_
    refine lv_tableIn (off := 181) (tgt := 214) hx hb dL_law_33 (by decide) (by decide) rfl (by decide) ?_
    exact law_c1 X hli hgo s2 s3 cf cl ch cn fr lw hg tk tc tr tm tn th te ta tb td ua ub ud im ms nd sst swk slg ssz kn kb df da dm dw g1 g2 g3 g4 mi fo2 rows lv z cc_ ia is od wt wn fo msM rowsM sm lc h1 h2 h3 hwn H locs ls hP hD hS hl
  · refine nmI hc ?_
    refine lv_tableIn (off := 205) (tgt := 238) hx hb dL_law_33 (by decide) (by decide) rfl (by decide) ?_
    exact law_c2 X hli hgo s2 s3 cf cl ch cn fr lw hg tk tc tr tm tn th te ta tb td ua ub ud im ms nd sst swk slg ssz kn kb df da dm dw g1 g2 g3 g4 mi fo2 rows lv z cc_ ia is od wt wn fo msM rowsM sm lc h1 h2 h3 hwn H locs ls hP hD hS hl
  · refine nmI hc ?_
    refine lv_tableIn (off := 265) (tgt := 298) hx hb dL_law_33 (by decide) (by decide) rfl (by decide) ?_
    exact law_c3 X hli hgo s2 s3 cf cl ch cn fr lw hg tk tc tr tm tn th te ta tb td ua ub ud im ms nd sst swk slg ssz kn kb df da dm dw g1 g2 g3 g4 mi fo2 rows lv z cc_ ia is od wt wn fo msM rowsM sm lc h1 h2 h3 hwn H locs ls hP hD hS hl
  · refine nmI hc ?_
    refine lv_tableIn (off := 319) (tgt := 352) hx hb dL_law_33 (by decide) (by decide) rfl (by decide) ?_
    exact law_c4 X hli hgo s2 s3 cf cl ch cn fr lw hg tk tc tr tm tn th te ta tb td ua ub ud im ms nd sst swk slg ssz kn kb df da dm dw g1 g2 g3 g4 mi fo2 rows lv z cc_ ia is od wt wn fo msM rowsM sm lc h1 h2 h3 hwn H locs ls hP hD hS hl
  · refine nmI hc ?_
    refine lv_tableIn (off := 333) (tgt := 366) hx hb dL_law_33 (by decide) (by decide) rfl (by decide) ?_
    exact law_c5 X hli hgo s2 s3 cf cl ch cn fr lw hg tk tc tr tm tn th te ta tb td ua ub ud im ms nd sst swk slg ssz kn kb df da dm dw g1 g2 g3 g4 mi fo2 rows lv z cc_ ia is od wt wn fo msM rowsM sm lc h1 h2 h3 hwn H locs ls hP hD hS hl
  · refine nmI hc ?_
    refine lv_tableIn (off := 367) (tgt := 400) hx hb dL_law_33 (by decide) (by decide) rfl (by decide) ?_
    exact law_c6 X hli hgo s2 s3 cf cl ch cn fr lw hg tk tc tr tm tn th te ta tb td ua ub ud im ms nd sst swk slg ssz kn kb df da dm dw g1 g2 g3 g4 mi fo2 rows lv z cc_ ia is od wt wn fo msM rowsM sm lc h1 h2 h3 hwn H locs ls hP hD hS hl
  · refine nmI hc ?_
    refine lv_tableIn (off := 401) (tgt := 434) hx hb dL_law_33 (by decide) (by decide) rfl (by decide) ?_
    exact law_c7 X hli hgo s2 s3 cf cl ch cn fr lw hg tk tc tr tm tn th te ta tb td ua ub ud im ms nd sst swk slg ssz kn kb df da dm dw g1 g2 g3 g4 mi fo2 rows lv z cc_ ia is od wt wn fo msM rowsM sm lc h1 h2 h3 hwn H locs ls hP hD hS hl
  · refine nmI hc ?_
    refine lv_tableIn (off := 451) (tgt := 484) hx hb dL_law_33 (by decide) (by decide) rfl (by decide) ?_
    exact law_c8 X hli hgo s2 s3 cf cl ch cn fr lw hg tk tc tr tm tn th te ta tb td ua ub ud im ms nd sst swk slg ssz kn kb df da dm dw g1 g2 g3 g4 mi fo2 rows lv z cc_ ia is od wt wn fo msM rowsM sm lc h1 h2 h3 hwn H locs ls hP hD hS hl
  · refine nmI hc ?_
    refine lv_tableIn (off := 495) (tgt := 528) hx hb dL_law_33 (by decide) (by decide) rfl (by decide) ?_
    exact law_c9 X hli hgo s2 s3 cf cl ch cn fr lw hg tk tc tr tm tn th te ta tb td ua ub ud im ms nd sst swk slg ssz kn kb df da dm dw g1 g2 g3 g4 mi fo2 rows lv z cc_ ia is od wt wn fo msM rowsM sm lc h1 h2 h3 hwn H locs ls hP hD hS hl
  · refine nmI hc ?_
    refine lv_tableIn (off := 519) (tgt := 552) hx hb dL_law_33 (by decide) (by decide) rfl (by decide) ?_
    exact law_c10 X hli hgo s2 s3 cf cl ch cn fr lw hg tk tc tr tm tn th te ta tb td ua ub ud im ms nd sst swk slg ssz kn kb df da dm dw g1 g2 g3 g4 mi fo2 rows lv z cc_ ia is od wt wn fo msM rowsM sm lc h1 h2 h3 hwn H locs ls hP hD hS hl
  · refine nmI hc ?_
    refine lv_tableIn (off := 569) (tgt := 602) hx hb dL_law_33 (by decide) (by decide) rfl (by decide) ?_
    exact law_c11 X hli hgo s2 s3 cf cl ch cn fr lw hg tk tc tr tm tn th te ta tb td ua ub ud im ms nd sst swk slg ssz kn kb df da dm dw g1 g2 g3 g4 mi fo2 rows lv z cc_ ia is od wt wn fo msM rowsM sm lc h1 h2 h3 hwn H locs ls hP hD hS hl
  · refine nmI hc ?_
    refine lv_tableIn (off := 629) (tgt := 662) hx hb dL_law_33 (by decide) (by decide) rfl (by decide) ?_
    exact law_c12 X hli hgo s2 s3 cf cl ch cn fr lw hg tk tc tr tm tn th te ta tb td ua ub ud im ms nd sst swk slg ssz kn kb df da dm dw g1 g2 g3 g4 mi fo2 rows lv z cc_ ia is od wt wn fo msM rowsM sm lc h1 h2 h3 hwn H locs ls hP hD hS hl
  · refine nmI hc ?_
    refine lv_tableIn (off := 643) (tgt := 676) hx hb dL_law_33 (by decide) (by decide) rfl (by decide) ?_
    exact law_c13 X hli hgo s2 s3 cf cl ch cn fr lw hg tk tc tr tm tn th te ta tb td ua ub ud im ms nd sst swk slg ssz kn kb df da dm dw g1 g2 g3 g4 mi fo2 rows lv z cc_ ia is od wt wn fo msM rowsM sm lc h1 h2 h3 hwn H locs ls hP hD hS hl
  · refine nmI hc ?_
    refine lv_tableIn (off := 703) (tgt := 736) hx hb dL_law_33 (by decide) (by decide) rfl (by decide) ?_
    exact law_c14 X hli hgo s2 s3 cf cl ch cn fr lw hg tk tc tr tm tn th te ta tb td ua ub ud im ms nd sst swk slg ssz kn kb df da dm dw g1 g2 g3 g4 mi fo2 rows lv z cc_ ia is od wt wn fo msM rowsM sm lc h1 h2 h3 hwn H locs ls hP hD hS hl
  · refine nmI hc ?_
    refine lv_tableIn (off := 767) (tgt := 800) hx hb dL_law_33 (by decide) (by decide) rfl (by decide) ?_
    exact law_c15 X hli hgo s2 s3 cf cl ch cn fr lw hg tk tc tr tm tn th te ta tb td ua ub ud im ms nd sst swk slg ssz kn kb df da dm dw g1 g2 g3 g4 mi fo2 rows lv z cc_ ia is od wt wn fo msM rowsM sm lc h1 h2 h3 hwn H locs ls hP hD hS hl
  · refine nmI hc ?_
    refine lv_tableIn (off := 791) (tgt := 824) hx hb dL_law_33 (by decide) (by decide) rfl (by decide) ?_
    exact law_c16 X hli hgo s2 s3 cf cl ch cn fr lw hg tk tc tr tm tn th te ta tb td ua ub ud im ms nd sst swk slg ssz kn kb df da dm dw g1 g2 g3 g4 mi fo2 rows lv z cc_ ia is od wt wn fo msM rowsM sm lc h1 h2 h3 hwn H locs ls hP hD hS hl
  · refine nmI hc ?_
    refine lv_tableIn (off := 825) (tgt := 858) hx hb dL_law_33 (by decide) (by decide) rfl (by decide) ?_
    exact law_c17 X hli hgo s2 s3 cf cl ch cn fr lw hg tk tc tr tm tn th te ta tb td ua ub ud im ms nd sst swk slg ssz kn kb df da dm dw g1 g2 g3 g4 mi fo2 rows lv z cc_ ia is od wt wn fo msM rowsM sm lc h1 h2 h3 hwn H locs ls hP hD hS hl
  · refine nmI hc ?_
    refine lv_tableIn (off := 849) (tgt := 882) hx hb dL_law_33 (by decide) (by decide) rfl (by decide) ?_
    exact law_c18 X hli hgo s2 s3 cf cl ch cn fr lw hg tk tc tr tm tn th te ta tb td ua ub ud im ms nd sst swk slg ssz kn kb df da dm dw g1 g2 g3 g4 mi fo2 rows lv z cc_ ia is od wt wn fo msM rowsM sm lc h1 h2 h3 hwn H locs ls hP hD hS hl
  · refine nmI hc ?_
    refine lv_tableIn (off := 863) (tgt := 896) hx hb dL_law_33 (by decide) (by decide) rfl (by decide) ?_
    exact law_c19 X hli hgo s2 s3 cf cl ch cn fr lw hg tk tc tr tm tn th te ta tb td ua ub ud im ms nd sst swk slg ssz kn kb df da dm dw g1 g2 g3 g4 mi fo2 rows lv z cc_ ia is od wt wn fo msM rowsM sm lc h1 h2 h3 hwn H locs ls hP hD hS hl
  · refine nmI hc ?_
    refine lv_tableIn (off := 877) (tgt := 910) hx hb dL_law_33 (by decide) (by decide) rfl (by decide) ?_
    exact law_c20 X hli hgo s2 s3 cf cl ch cn fr lw hg tk tc tr tm tn th te ta tb td ua ub ud im ms nd sst swk slg ssz kn kb df da dm dw g1 g2 g3 g4 mi fo2 rows lv z cc_ ia is od wt wn fo msM rowsM sm lc h1 h2 h3 hwn H locs ls hP hD hS hl
  · refine nmI hc ?_
    refine lv_tableIn (off := 901) (tgt := 934) hx hb dL_law_33 (by decide) (by decide) rfl (by decide) ?_
    exact law_c21 X hli hgo s2 s3 cf cl ch cn fr lw hg tk tc tr tm tn th te ta tb td ua ub ud im ms nd sst swk slg ssz kn kb df da dm dw g1 g2 g3 g4 mi fo2 rows lv z cc_ ia is od wt wn fo msM rowsM sm lc h1 h2 h3 hwn H locs ls hP hD hS hl
  · refine nmI hc ?_
    refine lv_tableIn (off := 925) (tgt := 958) hx hb dL_law_33 (by decide) (by decide) rfl (by decide) ?_
    exact law_c22 X hli hgo s2 s3 cf cl ch cn fr lw hg tk tc tr tm tn th te ta tb td ua ub ud im ms nd sst swk slg ssz kn kb df da dm dw g1 g2 g3 g4 mi fo2 rows lv z cc_ ia is od wt wn fo msM rowsM sm lc h1 h2 h3 hwn H locs ls hP hD hS hl
  · refine nmI hc ?_
    refine lv_tableIn (off := 949) (tgt := 982) hx hb dL_law_33 (by decide) (by decide) rfl (by decide) ?_
    exact law_c23 X hli hgo s2 s3 cf cl ch cn fr lw hg tk tc tr tm tn th te ta tb td ua ub ud im ms nd sst swk slg ssz kn kb df da dm dw g1 g2 g3 g4 mi fo2 rows lv z cc_ ia is od wt wn fo msM rowsM sm lc h1 h2 h3 hwn H locs ls hP hD hS hl
  · refine nmI hc ?_
    refine lv_tableIn (off := 963) (tgt := 996) hx hb dL_law_33 (by decide) (by decide) rfl (by decide) ?_
    exact law_c24 X hli hgo s2 s3 cf cl ch cn fr lw hg tk tc tr tm tn th te ta tb td ua ub ud im ms nd sst swk slg ssz kn kb df da dm dw g1 g2 g3 g4 mi fo2 rows lv z cc_ ia is od wt wn fo msM rowsM sm lc h1 h2 h3 hwn H locs ls hP hD hS hl
  · refine nmI hc ?_
    refine lv_tableIn (off := 987) (tgt := 1020) hx hb dL_law_33 (by decide) (by decide) rfl (by decide) ?_
    exact law_c25 X hli hgo s2 s3 cf cl ch cn fr lw hg tk tc tr tm tn th te ta tb td ua ub ud im ms nd sst swk slg ssz kn kb df da dm dw g1 g2 g3 g4 mi fo2 rows lv z cc_ ia is od wt wn fo msM rowsM sm lc h1 h2 h3 hwn H locs ls hP hD hS hl
  · refine nmI hc ?_
    refine lv_tableIn (off := 1001) (tgt := 1034) hx hb dL_law_33 (by decide) (by decide) rfl (by decide) ?_
    exact law_c26 X hli hgo s2 s3 cf cl ch cn fr lw hg tk tc tr tm tn th te ta tb td ua ub ud im ms nd sst swk slg ssz kn kb df da dm dw g1 g2 g3 g4 mi fo2 rows lv z cc_ ia is od wt wn fo msM rowsM sm lc h1 h2 h3 hwn H locs ls hP hD hS hl
  · refine nmI hc ?_
    refine lv_tableIn (off := 1025) (tgt := 1058) hx hb dL_law_33 (by decide) (by decide) rfl (by decide) ?_
    exact law_c27 X hli hgo s2 s3 cf cl ch cn fr lw hg tk tc tr tm tn th te ta tb td ua ub ud im ms nd sst swk slg ssz kn kb df da dm dw g1 g2 g3 g4 mi fo2 rows lv z cc_ ia is od wt wn fo msM rowsM sm lc h1 h2 h3 hwn H locs ls hP hD hS hl
