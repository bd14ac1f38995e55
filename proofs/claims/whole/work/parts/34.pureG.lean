/-! times: the answers of class and reference agree -/
def entR (x y : Int64) : Prop := (1152921504606846976 ≤ x.toInt ∧ y.toInt = 1152921504606846976) ∨ (x.toInt = y.toInt ∧ -20000000000 ≤ x.toInt ∧ x.toInt ≤ 20000000000)
section TTS
variable {cf cl ch : Nat → Nat → Int32} {cn : Nat → Nat} {fr lw hg : Nat → Int32} {jc : Nat → Nat} {tk tr : Nat → Int32} {tn : Nat} {an bn : Nat → Nat} {ta tb td ta' tb' td' : Nat → Int32} {im : Nat}
theorem emb_M (h : TTr cf cl ch cn fr lw hg jc tr tn an bn ta tb td ta' tb' td' im) {S : Nat → Bool} {xo st : Int32} (ms : Nat → Int64) (hSc : ∀ t, t < tn → (S t = true ↔ ¬ nI t = xo)) (hSm : ∀ t, t < tn → (S t = true ↔ (st >>> (nI t &&& 31)) &&& 1 = 1)) (hSo : ∀ t, S t = true → t < tn) :
    Emb (tn + 1) 13 fN (mC (gbA ms cf cl ch cn jc tk tr tn an bn ta tb td im xo)) (mM (mbA fr lw hg cn jc tk tr tn an bn ta' tb' td' im st)) := by
  have hn := h.hn
  have nimg : ∀ x, x < 13 → (∀ i, i < tn + 1 → fN i ≠ x) → tn < gN x := by
    intro x hx hz
    refine Classical.byContradiction (fun c => ?_)
    exact hz (gN x) (by omega) (fN_g hx)
  refine ⟨fun i hi => fN_lt (by omega), fun i j hi hj e => ?_, fun i j hi hj => ?_, fun x y hx hy hxy ho => ?_, fun x hx ho => ?_⟩
  · have := congrArg gN e; rwa [gN_f (by omega), gN_f (by omega)] at this
  · rw [(mat_M h hSm hSo (fN i) (fN j) (fN_lt (by omega)) (fN_lt (by omega))).1, gN_f (by omega), gN_f (by omega), (mat_C h ms hSc i j (by omega) (by omega)).1]
  · rw [(mat_M h hSm hSo x y hx hy).1]
    have ne : gN x ≠ gN y := fun z => hxy (by have := congrArg fN z; rwa [fN_g hx, fN_g hy] at this)
    exact wTF_o hSo ne (ho.elim (fun z => Or.inl (nimg x hx z)) (fun z => Or.inr (nimg y hy z))) im
  · rw [(mat_M h hSm hSo x x hx hx).1]
    exact wTF_d (fun i hi => (h.hi i hi).2.2.2.2.1) im (Nat.le_refl _) _
theorem ini_C (h : TTr cf cl ch cn fr lw hg jc tr tn an bn ta tb td ta' tb' td' im) {S : Nat → Bool} {xo : Int32} (ms : Nat → Int64) (hSc : ∀ t, t < tn → (S t = true ↔ ¬ nI t = xo)) : BdC 2000000 (tn + 1) (gbA ms cf cl ch cn jc tk tr tn an bn ta tb td im xo) ∧ nnD (tn + 1) (mC (gbA ms cf cl ch cn jc tk tr tn an bn ta tb td im xo)) := by
  refine ⟨fun i j hi hj x hx => ?_, fun i hi => ?_⟩
  · have k := (mat_C (tk := tk) h ms hSc i j (by omega) (by omega)).2
    unfold mC at hx
    rcases okC_vC k with ⟨k1, k2⟩ | ⟨k1, k2⟩
    · rw [k2] at hx; cases hx
    · rw [k2] at hx; cases hx; exact k1
  · rw [(mat_C h ms hSc i i (by omega) (by omega)).1]
    rw [show wAll cf cl ch cn jc tk tr an bn td im S i i = some 0 from wTF_d (fun i hi => (h.hi i hi).2.2.2.2.1) im (Nat.le_refl _) _]
    exact oL_rf _
theorem ini_M (h : TTr cf cl ch cn fr lw hg jc tr tn an bn ta tb td ta' tb' td' im) {S : Nat → Bool} {st : Int32} (hSm : ∀ t, t < tn → (S t = true ↔ (st >>> (nI t &&& 31)) &&& 1 = 1)) (hSo : ∀ t, S t = true → t < tn) : BdM 2000000 (mbA fr lw hg cn jc tk tr tn an bn ta' tb' td' im st) ∧ nnD 13 (mM (mbA fr lw hg cn jc tk tr tn an bn ta' tb' td' im st)) := by
  refine ⟨fun i j hi hj x hx => ?_, fun i hi => ?_⟩
  · have k := (mat_M (tk := tk) h hSm hSo i j hi hj).2
    unfold mM at hx
    rcases okM_vM k with ⟨k1, k2⟩ | ⟨k1, k2⟩
    · rw [k2] at hx; cases hx
    · rw [k2] at hx; cases hx; exact k1
  · rw [(mat_M h hSm hSo i i hi hi).1]
    rw [show wAll cf cl ch cn jc tk tr an bn td im S (gN i) (gN i) = some 0 from wTF_d (fun i hi => (h.hi i hi).2.2.2.2.1) im (Nat.le_refl _) _]
    exact oL_rf _
theorem ent_of {N : Nat} {u g : Nat → Int64} (hN : N ≤ 13) {p q : Nat} (hp : p < N) (hq : q < N) (e : mC u p q = mM g (fN p) (fN q)) (b : BdC 20000000000 N u) : entR (u ((p * 13) + q)) (g ((13 * fN p) + fN q)) := by
  have bb := b p q hp hq
  unfold mC mM at *
  by_cases c : 1152921504606846976 ≤ (u ((p * 13) + q)).toInt
  · rw [vC_n c] at e
    by_cases d : (g ((13 * fN p) + fN q)).toInt = 1152921504606846976
    · exact Or.inl ⟨c, d⟩
    · rw [vM_s d] at e; cases e
  · rw [vC_s c] at e bb
    by_cases d : (g ((13 * fN p) + fN q)).toInt = 1152921504606846976
    · rw [vM_n d] at e; cases e
    · rw [vM_s d] at e
      exact Or.inr ⟨Option.some.inj e, bb _ rfl⟩
/-- times settled, or not, on both sides -/
theorem tms_rel (h : TTr cf cl ch cn fr lw hg jc tr tn an bn ta tb td ta' tb' td' im) {S : Nat → Bool} {xo st : Int32} {ms u g : Nat → Int64} {ok : Int32} (hSc : ∀ t, t < tn → (S t = true ↔ ¬ nI t = xo)) (hSm : ∀ t, t < tn → (S t = true ↔ (st >>> (nI t &&& 31)) &&& 1 = 1)) (hSo : ∀ t, S t = true → t < tn)
    (hu : tgP (gbA ms cf cl ch cn jc tk tr tn an bn ta tb td im xo) (tn + 1) ok u) (hgE : g = fwE fr lw hg cn jc tk tr tn an bn ta' tb' td' im st) :
    (ok = 1 ∧ allNN g 13 = true ∧ ∀ p q, p ≤ tn → q ≤ tn → entR (u ((p * 13) + q)) (g ((13 * fN p) + fN q))) ∨ (ok = 0 ∧ ¬ allNN g 13 = true) := by
  have hn := h.hn
  have em := emb_M (tk := tk) h ms hSc hSm hSo
  obtain ⟨c1, c2⟩ := ini_C (tk := tk) h ms hSc
  obtain ⟨m1, m2⟩ := ini_M (tk := tk) h hSm hSo
  have hgg : ∃ n, n = 13 ∧ g = fwV (mbA fr lw hg cn jc tk tr tn an bn ta' tb' td' im st) n := ⟨13, rfl, by rw [hgE, fwE]⟩
  obtain ⟨n, hn13, hgg⟩ := hgg
  have aM := allNN_w hn13 hgg m1 m2
  rcases tgP_v (by omega) c1 c2 hu with ⟨r1, r2, r3, r4, r5⟩ | ⟨r1, r2⟩
  · have gd : GoodW 13 (mM (mbA fr lw hg cn jc tk tr tn an bn ta' tb' td' im st)) := (Emb_good em).mp ⟨_, r2, r3⟩
    by_cases a : allNN g 13 = true
    · obtain ⟨b1, b2, b3, b4⟩ := aM.1 a
      refine Or.inl ⟨r1, a, fun p q hp hq => ?_⟩
      exact ent_of (N := tn + 1) (by omega) (by omega) (by omega) (Emb_eq em r2 r4 b1 b3 p q (by omega) (by omega)) r5
    · exact absurd gd (aM.2 a)
  · by_cases a : allNN g 13 = true
    · obtain ⟨b1, b2, b3, b4⟩ := aM.1 a
      exact absurd ((Emb_good em).mpr ⟨_, b1, b2⟩) r2
    · exact Or.inr ⟨r1, a⟩
end TTS
theorem S_all_c : ∀ n, n < 13 → ∀ t, t < n → (decide (t < n) = true ↔ ¬ nI t = -1) := by decide
theorem S_all_m : ∀ n, n < 13 → ∀ t, t < n → (decide (t < n) = true ↔ (allB n >>> (nI t &&& 31)) &&& 1 = 1) := by decide
theorem S_wo_c : ∀ j, j < 12 → ∀ t, t < 12 → ((!decide (t = j)) = true ↔ ¬ nI t = nI j) := by decide
theorem S_wo_m : ∀ n, n < 13 → ∀ j, j < n → ∀ t, t < n → ((!decide (t = j)) = true ↔ ((allB n &&& ((1 <<< (nI j &&& 31)) ^^^ (-1))) >>> (nI t &&& 31)) &&& 1 = 1) := by decide
theorem ent_rz {x y : Int64} (h : entR x y) : eK x = fK y ∧ rz (eK x) x = rz (fK y) y := by
  unfold eK fK
  rcases h with ⟨h1, h2⟩ | ⟨h1, h2, h3⟩
  · rw [if_neg (fun z => by have := z.2; omega), if_pos h2]; exact ⟨rfl, rfl⟩
  · rw [if_pos (show isE x from ⟨by omega, by omega⟩), if_neg (by omega)]
    exact ⟨rfl, Int64.toInt_inj.mp h1⟩
theorem ent_rn {x y : Int64} (h : entR x y) : eK (-x) = fK (ngF y) ∧ rz (eK (-x)) (-x) = rz (fK (ngF y)) (ngF y) := by
  have lx := neg64_in (x := x) (by rcases h with h | h <;> omega)
  rcases h with ⟨h1, h2⟩ | ⟨h1, h2, h3⟩
  · unfold eK fK ngF
    rw [if_neg (fun z => by have := z.1; omega), if_pos h2, if_pos far_i]; exact ⟨rfl, rfl⟩
  · have ly := neg64_in (x := y) (by omega)
    unfold eK fK ngF
    rw [if_pos (show isE (-x) from ⟨by omega, by omega⟩), if_neg (show ¬ y.toInt = 1152921504606846976 by omega), if_neg (by omega)]
    exact ⟨rfl, Int64.toInt_inj.mp (by show (-x).toInt = (-y).toInt; omega)⟩
theorem ent_ra {x y : Int64} (h : entR x y) : eK (-x) = fK y ∧ rz (eK (-x)) (-x) = rz (fK y) (-y) := by
  have lx := neg64_in (x := x) (by rcases h with h | h <;> omega)
  rcases h with ⟨h1, h2⟩ | ⟨h1, h2, h3⟩
  · unfold eK fK
    rw [if_neg (fun z => by have := z.1; omega), if_pos h2]; exact ⟨rfl, rfl⟩
  · have ly := neg64_in (x := y) (by omega)
    unfold eK fK
    rw [if_pos (show isE (-x) from ⟨by omega, by omega⟩), if_neg (show ¬ y.toInt = 1152921504606846976 by omega)]
    exact ⟨rfl, Int64.toInt_inj.mp (by show (-x).toInt = (-y).toInt; omega)⟩
theorem fN_0 : fN 0 = 12 := rfl
theorem fN_s (i : Nat) : fN (i + 1) = i := by unfold fN; rw [if_neg (by omega)]; omega
/-- time, without: the answers -/
theorem tm_rel {tn : Nat} {u g : Nat → Int64} (h : ∀ p q, p ≤ tn → q ≤ tn → entR (u ((p * 13) + q)) (g ((13 * fN p) + fN q))) {i : Nat} (hi : i < tn) (b : Int32) : eK (tmE u i b) = fK (tmM g i b) ∧ rz (eK (tmE u i b)) (tmE u i b) = rz (fK (tmM g i b)) (tmM g i b) := by
  unfold tmE tmM
  by_cases hb : b = 0
  · rw [if_pos hb, if_pos hb]
    have := h (i + 1) 0 (by omega) (by omega)
    rw [fN_0, fN_s] at this
    exact ent_rn this
  · rw [if_neg hb, if_neg hb]
    have := h 0 (i + 1) (by omega) (by omega)
    rw [fN_0, fN_s] at this
    exact ent_rz this
theorem ap_rel {tn : Nat} {u g : Nat → Int64} (h : ∀ p q, p ≤ tn → q ≤ tn → entR (u ((p * 13) + q)) (g ((13 * fN p) + fN q))) {i j : Nat} (hi : i < tn) (hj : j < tn) (b : Int32) : eK (apE u i j b) = fK (apX g i j b) ∧ rz (eK (apE u i j b)) (apE u i j b) = rz (fK (apX g i j b)) (apS (apX g i j b) b) := by
  unfold apE apX apS
  by_cases hb : b = 0
  · rw [if_pos hb, if_pos hb, if_pos hb]
    have := h (j + 1) (i + 1) (by omega) (by omega)
    rw [fN_s, fN_s] at this
    exact ent_ra this
  · rw [if_neg hb, if_neg hb, if_neg hb]
    have := h (i + 1) (j + 1) (by omega) (by omega)
    rw [fN_s, fN_s] at this
    exact ent_rz this
theorem sp_ans {cf cl ch : Nat → Nat → Int32} {cn : Nat → Nat} {fr lw hg : Nat → Int32} {jc : Nat → Nat} {tk tr : Nat → Int32} {i : Nat} {b : Int32} (hC : CKr cf cl ch cn fr lw hg) (hj : jc i < 4) (hr : okRd (tr i)) : eK (spC cf cl ch cn jc tk tr i b) = fK (spX fr lw hg cn jc tk tr i b) ∧ rz (eK (spC cf cl ch cn jc tk tr i b)) (spC cf cl ch cn jc tk tr i b) = rz (fK (spX fr lw hg cn jc tk tr i b)) (spX fr lw hg cn jc tk tr i b) := by
  unfold eK fK
  rcases sp_rel (tk := tk) (b := b) hC hj hr with ⟨h1, h2⟩ | ⟨h1, h2, h3⟩
  · rw [h1, h2, if_pos far_i]
    by_cases hb : b = 0
    · rw [if_pos hb, if_neg (by unfold isE; rw [mnb_i]; omega)]; exact ⟨rfl, rfl⟩
    · rw [if_neg hb, if_neg (by unfold isE; rw [nb_i]; omega)]; exact ⟨rfl, rfl⟩
  · rw [if_pos (show isE _ from ⟨by omega, by omega⟩), if_neg (by omega)]
    exact ⟨rfl, Int64.toInt_inj.mp h1⟩
/-- check: what was told right -/
theorem tl_rel {tn : Nat} {u g : Nat → Int64} (h : ∀ p q, p ≤ tn → q ≤ tn → entR (u ((p * 13) + q)) (g ((13 * fN p) + fN q))) {wt : Nat → Int32} {wn i : Nat} (hi : i < tn) : tlR wt u wn i ↔ tlM wt g wn i := by
  have a1 := h (i + 1) 0 (by omega) (by omega)
  have a2 := h 0 (i + 1) (by omega) (by omega)
  rw [fN_0, fN_s] at a1 a2
  have w1 := (wt (2 * i)).toInt_lt
  have w2 := (wt (2 * i + 1)).toInt_lt
  have w3 := (wt (2 * i)).le_toInt
  have w4 := (wt (2 * i + 1)).le_toInt
  have lx := neg64_in (x := u (((i + 1) * 13) + 0)) (by rcases a1 with z | z <;> omega)
  unfold tlR tlM tmE tmM
  rw [if_pos rfl, if_pos rfl, if_neg (by decide), if_neg (by decide), l64_i, l64_i]
  constructor
  · rintro ⟨z1, z2, z3, z4, z5⟩
    unfold isE at z2 z3
    have b1 : (u (((i + 1) * 13) + 0)).toInt = (g (13 * i + 12)).toInt := by rcases a1 with z | z <;> omega
    have b2 : (u (0 * 13 + (i + 1))).toInt = (g (13 * 12 + i)).toInt := by rcases a2 with z | z <;> omega
    have ne : ¬ (g (13 * i + 12)).toInt = 1152921504606846976 := by omega
    refine ⟨z1, ?_, ?_⟩
    · unfold ngF
      rw [if_neg ne, neg64_in (by omega)]; omega
    · show _ = (g (13 * 12 + i)).toInt
      omega
  · rintro ⟨z1, z2, z3⟩
    unfold ngF at z2
    have ne : ¬ (g (13 * i + 12)).toInt = 1152921504606846976 := by
      intro c
      rw [if_pos c, far_i] at z2
      omega
    have z3 : (wt (2 * i + 1)).toInt = (g (13 * 12 + i)).toInt := z3
    have e1 : (u (((i + 1) * 13) + 0)).toInt = (g (13 * i + 12)).toInt ∧ -20000000000 ≤ (u (((i + 1) * 13) + 0)).toInt ∧ (u (((i + 1) * 13) + 0)).toInt ≤ 20000000000 := by rcases a1 with z | z; exact absurd z.2 ne; exact z
    have e2 : (u (0 * 13 + (i + 1))).toInt = (g (13 * 12 + i)).toInt ∧ -20000000000 ≤ (u (0 * 13 + (i + 1))).toInt ∧ (u (0 * 13 + (i + 1))).toInt ≤ 20000000000 := by
      rcases a2 with z | z
      · omega
      · exact z
    rw [if_neg ne, neg64_in (by omega)] at z2
    unfold isE
    refine ⟨z1, ?_, ?_, ?_, ?_⟩ <;> omega
