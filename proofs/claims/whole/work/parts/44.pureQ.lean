/-! THE QUARREL, over the desk's own words -/
section W00
variable {lo up : Nat → Option Int} {S : Nat → Bool} {an bn : Nat → Nat} {tv : Nat → Int}
theorem wTF_c0 (p : Nat) : ∀ k, wTF lo up S an bn tv k p 0 = w0F lo up S p 0
  | 0 => rfl
  | k + 1 => by rw [wTF_s, if_neg (by rintro ⟨-, h1, h2⟩; omega), wTF_c0 p k]
theorem wTF_r0 (q : Nat) : ∀ k, wTF lo up S an bn tv k 0 q = w0F lo up S 0 q
  | 0 => rfl
  | k + 1 => by rw [wTF_s, if_neg (by rintro ⟨-, h1, h2⟩; omega), wTF_r0 q k]
end W00
def CKo (cl ch : Nat → Nat → Int32) (cn : Nat → Nat) : Prop := ∀ j, j < 4 → ∀ k, k < cn j → (cl j k).toInt ≤ (ch j k).toInt
section QUR
variable {cf cl ch : Nat → Nat → Int32} {cn : Nat → Nat} {fr lw hg : Nat → Int32} {jc : Nat → Nat} {tk tr : Nat → Int32} {tn : Nat} {an bn : Nat → Nat} {ta tb td ta' tb' td' : Nat → Int32} {im : Nat}
theorem sp_ord {i : Nat} (hC : CKr cf cl ch cn fr lw hg) (ho : CKo cl ch cn) (hj : jc i < 4) (hr : okRd (tr i)) : oL (some 0) (oA (loW cf cl ch cn jc tk tr i) (upW cf cl ch cn jc tk tr i)) := by
  intro y hy
  obtain ⟨a, b, ha, hb, hab⟩ := oA_some hy
  refine ⟨0, rfl, ?_⟩
  unfold loW at ha
  unfold upW at hb
  obtain ⟨a1, a2⟩ := vC_inv ha
  obtain ⟨b1, b2⟩ := vC_inv hb
  rcases h : plOf (cf (jc i)) (tr i) (cn (jc i)) with _ | k
  · rw [spC_n0 h rfl] at a2
    exact absurd (by decide) a2
  · have hk := plOf_lt h
    obtain ⟨-, -, -, sl, sh⟩ := (hC (jc i) hj).2 k hk
    have le := ho (jc i) hj k hk
    by_cases ht : tk i = 1
    · rw [spC_c h (by decide) ht] at b2
      exact absurd (by decide) b2
    · have e0 : spC cf cl ch cn jc tk tr i 0 = (tr i).toInt64 + (cl (jc i) k).toInt64 := by rw [spC_k h (fun z => z.1 rfl), if_pos rfl]
      have e1 : spC cf cl ch cn jc tk tr i 1 = (tr i).toInt64 + (ch (jc i) k).toInt64 := by rw [spC_k h (fun z => ht z.2), if_neg (by decide)]
      have f0 : ((tr i).toInt64 + (cl (jc i) k).toInt64).toInt = (tr i).toInt + (cl (jc i) k).toInt := by
        rw [addL_in (by rw [l64_i, l64_i]; omega) (by rw [l64_i, l64_i]; omega), l64_i, l64_i]
      have f1 : ((tr i).toInt64 + (ch (jc i) k).toInt64).toInt = (tr i).toInt + (ch (jc i) k).toInt := by
        rw [addL_in (by rw [l64_i, l64_i]; omega) (by rw [l64_i, l64_i]; omega), l64_i, l64_i]
      rw [e0, neg64_in (by rw [f0]; omega), f0] at a1
      rw [e1, f1] at b1
      omega
theorem gd_iff (h : TTr cf cl ch cn fr lw hg jc tr tn an bn ta tb td ta' tb' td' im) (hsp : ∀ t, t < tn → oL (some 0) (oA (loW cf cl ch cn jc tk tr t) (upW cf cl ch cn jc tk tr t))) {x : Int32} (hb : ∀ v, bitB x v = true → v < tn) :
    (allNN (fwE fr lw hg cn jc tk tr tn an bn ta' tb' td' im x) 13 = true ↔ ¬ ∃ d i, NC (sS (wAll cf cl ch cn jc tk tr an bn td im (fun t => decide (t < tn)))) (bitB x) d i) := by
  have hn := h.hn
  have hSm : ∀ t, t < tn → (bitB x t = true ↔ (x >>> (nI t &&& 31)) &&& 1 = 1) := fun t ht => (bit1_iff x (by omega)).symm
  obtain ⟨m1, m2⟩ := ini_M (tk := tk) h hSm hb
  obtain ⟨n, hn13, hgg⟩ : ∃ n, n = 13 ∧ fwE fr lw hg cn jc tk tr tn an bn ta' tb' td' im x = fwV (mbA fr lw hg cn jc tk tr tn an bn ta' tb' td' im x) n := ⟨13, rfl, by rw [fwE]⟩
  obtain ⟨g, hge⟩ : ∃ g, g = fwE fr lw hg cn jc tk tr tn an bn ta' tb' td' im x := ⟨_, rfl⟩
  rw [← hge] at hgg ⊢
  have aM := allNN_w hn13 hgg m1 m2
  have em : Emb 13 13 gN (mM (mbA fr lw hg cn jc tk tr tn an bn ta' tb' td' im x)) (wAll cf cl ch cn jc tk tr an bn td im (bitB x)) := by
    refine ⟨fun i hi => gN_lt hi, fun i j hi hj e => ?_, fun i j hi hj => ((mat_M h hSm hb i j hi hj).1).symm, fun a b ha hb2 hab ho => ?_, fun a ha ho => absurd (gN_f ha) (ho (fN a) (fN_lt ha))⟩
    · have := congrArg fN e; rwa [fN_g hi, fN_g hj] at this
    · exact ho.elim (fun z => absurd (gN_f ha) (z (fN a) (fN_lt ha))) (fun z => absurd (gN_f hb2) (z (fN b) (fN_lt hb2)))
  have e : wAll cf cl ch cn jc tk tr an bn td im (bitB x) = rs (wAll cf cl ch cn jc tk tr an bn td im (fun t => decide (t < tn))) (bitB x) :=
    funext fun p => funext fun q => wTF_sub (A := fun t => decide (t < tn)) (fun v hv => decide_eq_true (hb v hv)) (fun i hi => (h.hi i hi).2.2.2.2.1) im (Nat.le_refl _) p q
  have bi := bad_iff (w := wAll cf cl ch cn jc tk tr an bn td im (fun t => decide (t < tn))) (U := bitB x) (fun v hv => by have := hb v hv; omega) (fun t ht => by
    have l := hb t ht
    have z := hsp t l
    show oL (some 0) (oA (wTF _ _ _ _ _ _ im (t + 1) 0) (wTF _ _ _ _ _ _ im 0 (t + 1)))
    rw [wTF_c0, wTF_r0]
    unfold w0F
    rw [if_neg (by omega), if_neg (by omega), if_pos rfl, if_pos (decide_eq_true (by omega)), if_neg (by omega), if_pos rfl, if_pos (decide_eq_true (by omega))]
    exact z)
  constructor
  · intro a hN
    obtain ⟨b1, b2, -⟩ := aM.1 a
    have gw : GoodW 13 (wAll cf cl ch cn jc tk tr an bn td im (bitB x)) := (Emb_good em).mp ⟨_, b1, b2⟩
    rw [e] at gw
    exact bi.mpr hN gw
  · intro hN
    refine Classical.byContradiction (fun a => ?_)
    have ng := aM.2 a
    refine hN (bi.mp (fun gw => ?_))
    rw [← e] at gw
    exact ng ((Emb_good em).mpr gw)
theorem rz_ne {k : Nat} (h : k ≠ 0) (v : Int64) : rz k v = lowF k := if_neg h
theorem qu_rel (h : TTr cf cl ch cn fr lw hg jc tr tn an bn ta tb td ta' tb' td' im) (ho : CKo cl ch cn) (ms : Nat → Int64) {K : Int32} (hK : K = skM (stM (gbA ms cf cl ch cn jc tk tr tn an bn ta tb td im (-1))) tn (allB tn) (tn - 1) 1) {g0 : Nat → Int64} (hg0 : g0 = fwE fr lw hg cn jc tk tr tn an bn ta' tb' td' im (allB tn)) {B : Int32}
    (hB : B = qbF (fun st => allNN (fwE fr lw hg cn jc tk tr tn an bn ta' tb' td' im st) 13) (allB tn) (powS tn - 1)) :
    quK K = qgK (allNN g0 13) ∧ rz (quK K) K.toInt64 = rz (qgK (allNN g0 13)) B.toInt64 := by
  have hn := h.hn
  have hsp : ∀ t, t < tn → oL (some 0) (oA (loW cf cl ch cn jc tk tr t) (upW cf cl ch cn jc tk tr t)) := fun t ht => sp_ord h.hC ho (h.ht t ht).1 (h.ht t ht).2
  have hST := fun i j hi hj => st_v (ms := gbA ms cf cl ch cn jc tk tr tn an bn ta tb td im (-1)) (n := tn) (i := i) (j := j) (mat_C (tk := tk) h ms (S_all_c tn (by omega))) hi hj
  rcases qu_core (gd := fun st => allNN (fwE fr lw hg cn jc tk tr tn an bn ta' tb' td' im st) 13) hn hST (fun x hx => gd_iff h hsp hx) with ⟨k1, k2⟩ | ⟨k1, k2, k3⟩
  · rw [← hK] at k1
    have e1 : quK K = 2 := if_pos k1
    have e2 : qgK (allNN g0 13) = 2 := qgK_2 (by rw [hg0]; exact k2)
    rw [e1, e2, rz_ne (by decide), rz_ne (by decide)]
    exact ⟨rfl, rfl⟩
  · rw [← hK] at k1 k3
    rw [← hB] at k3
    have e1 : quK K = 0 := if_neg k1
    have e2 : qgK (allNN g0 13) = 0 := qgK_0 (by rw [hg0]; exact k2)
    rw [e1, e2, k3]
    exact ⟨rfl, rfl⟩
end QUR
