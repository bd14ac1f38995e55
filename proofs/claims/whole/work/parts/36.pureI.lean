/-! bits -/
theorem ckL_ok {h : Nat} : ∀ {k : Nat}, ckL h k = true → ∀ l, l < k → bP5 (bP4 (bP3 (bP2 (bP1 (h * 256 + l))))) = bX (h * 256 + l)
  | 0, _, l, hl => absurd hl (by omega)
  | k + 1, hk, l, hl => by
    have e : ckL h (k + 1) = ((Nat.beq (bP5 (bP4 (bP3 (bP2 (bP1 (Nat.add (Nat.mul h 256) k)))))) (bX (Nat.add (Nat.mul h 256) k))) && ckL h k) := rfl
    rw [e, Bool.and_eq_true] at hk
    rcases Nat.lt_or_ge l k with q | q
    · exact ckL_ok hk.2 l q
    · have e2 : l = k := by omega
      subst e2
      exact Nat.eq_of_beq_eq_true hk.1
theorem ckH_ok : ∀ {k : Nat}, ckH k = true → ∀ h, h < k → ckL h 256 = true
  | 0, _, h, hl => absurd hl (by omega)
  | k + 1, hk, h, hl => by
    have e : ckH (k + 1) = (ckL k 256 && ckH k) := rfl
    rw [e, Bool.and_eq_true] at hk
    rcases Nat.lt_or_ge h k with q | q
    · exact ckH_ok hk.2 h q
    · have e2 : h = k := by omega
      subst e2
      exact hk.1
theorem bP_ok {n : Nat} (h : n < 65536) : bP5 (bP4 (bP3 (bP2 (bP1 n)))) = bX n := by
  have k := ckL_ok (ckH_ok ckH_t (n / 256) (by omega)) (n % 256) (by omega)
  rwa [show n / 256 * 256 + n % 256 = n by omega] at k
theorem sh_nI {n k : Nat} (h : n < 2 ^ 31) (hk : k < 32) : nI n >>> (nI k &&& 31) = nI (n / 2 ^ k) :=
  pk_shrN h _ k ((by decide : ∀ k, k < 32 → ((nI k &&& 31).toBitVec.smod 32).toNat = k) k hk)
theorem and1_nI {n : Nat} (h : n < 2 ^ 32) : nI n &&& 1 = nI (n % 2) := pk_andN h 1 (by decide)
theorem szK_nI {n : Nat} (h : n < 2 ^ 31) : ∀ k, k ≤ 32 → szK (nI n) k = nI (bN n k)
  | 0, _ => rfl
  | k + 1, hk => by
    show szK (nI n) k + ((nI n >>> (nI k &&& 31)) &&& 1) = nI (bN n k + n / 2 ^ k % 2)
    have l : n / 2 ^ k ≤ n := Nat.div_le_self _ _
    rw [sh_nI h (by omega), and1_nI (by omega), szK_nI h k (by omega), nI_add]
theorem pop1_nI {n : Nat} (h : n < 2 ^ 31) : pop1 (nI n) = nI (bP1 n) := by
  show nI n - (ush (nI n) 1 &&& nI 1431655765) = nI (n - (n / 2 &&& 1431655765))
  have e : ush (nI n) 1 = nI (n / 2 ^ 1) := pk_ushrN (by omega) 1 1 (by decide)
  rw [e, nI_and]
  have l : (n / 2 ^ 1 &&& 1431655765) ≤ n / 2 ^ 1 := Nat.and_le_left
  exact pk_sub (by omega)
theorem pop2_nI {n : Nat} (h : n < 2 ^ 31) : pop2 (nI n) = nI (bP2 n) := by
  show (nI n &&& nI 858993459) + (ush (nI n) 2 &&& nI 858993459) = nI ((n &&& 858993459) + (n / 4 &&& 858993459))
  have e : ush (nI n) 2 = nI (n / 2 ^ 2) := pk_ushrN (by omega) 2 2 (by decide)
  rw [e, nI_and, nI_and, nI_add]
theorem pop3_nI {n : Nat} (h : n < 2 ^ 31) : pop3 (nI n) = nI (bP3 n) := by
  show (nI n + ush (nI n) 4) &&& nI 252645135 = nI ((n + n / 16) &&& 252645135)
  have e : ush (nI n) 4 = nI (n / 2 ^ 4) := pk_ushrN (by omega) 4 4 (by decide)
  rw [e, nI_add, nI_and]
theorem pop4_nI {n : Nat} (h : n < 2 ^ 31) : pop4 (nI n) = nI (bP4 n) := by
  show nI n + ush (nI n) 8 = nI (n + n / 256)
  have e : ush (nI n) 8 = nI (n / 2 ^ 8) := pk_ushrN (by omega) 8 8 (by decide)
  rw [e, nI_add]
theorem pop5_nI {n : Nat} (h : n < 2 ^ 31) : pop5 (nI n) &&& 63 = nI (bP5 n) := by
  show (nI n + ush (nI n) 16) &&& nI 63 = nI ((n + n / 65536) &&& 63)
  have e : ush (nI n) 16 = nI (n / 2 ^ 16) := pk_ushrN (by omega) 16 16 (by decide)
  rw [e, nI_add, nI_and]
theorem pop_nI {n : Nat} (h : n < 65536) : popc (nI n) = nI (bX n) := by
  unfold popc
  have l1 : bP1 n ≤ n := Nat.sub_le _ _
  have l2 : bP2 (bP1 n) ≤ bP1 n + bP1 n / 4 := Nat.add_le_add Nat.and_le_left Nat.and_le_left
  have l3 : bP3 (bP2 (bP1 n)) ≤ 252645135 := Nat.and_le_right
  have l4 : bP4 (bP3 (bP2 (bP1 n))) = bP3 (bP2 (bP1 n)) + bP3 (bP2 (bP1 n)) / 256 := rfl
  rw [pop1_nI (by omega), pop2_nI (by omega), pop3_nI (by omega), pop4_nI (by omega), pop5_nI (by omega), bP_ok h]
theorem pop_sz {n : Nat} (h : n < 65536) : popc (nI n) = szK (nI n) 16 := by
  rw [pop_nI h, szK_nI (by omega) 16 (by omega)]
  show nI (bX n) = nI (bN n 16)
  congr 1
  show bX n = 0 + n / 2 ^ 0 % 2 + n / 2 ^ 1 % 2 + n / 2 ^ 2 % 2 + n / 2 ^ 3 % 2 + n / 2 ^ 4 % 2 + n / 2 ^ 5 % 2 + n / 2 ^ 6 % 2 + n / 2 ^ 7 % 2 + n / 2 ^ 8 % 2 + n / 2 ^ 9 % 2 + n / 2 ^ 10 % 2 + n / 2 ^ 11 % 2 + n / 2 ^ 12 % 2 + n / 2 ^ 13 % 2 + n / 2 ^ 14 % 2 + n / 2 ^ 15 % 2
  rw [Nat.zero_add, show n / 2 ^ 0 = n from Nat.div_one n]
  rfl
theorem bN_le (n : Nat) : ∀ k, bN n k ≤ k
  | 0 => Nat.le_refl _
  | k + 1 => by
    show bN n k + n / 2 ^ k % 2 ≤ k + 1
    have := bN_le n k
    omega
/-- numbers of 16 bits -/
def m16 (x : Int32) : Prop := ∃ q, q < 65536 ∧ x = nI q
theorem m16_mk {x : Int32} (h : okMk x) : m16 x := by
  rcases pk_ix x (n := 65536) (by decide) with a | a | ⟨j, hj, e⟩
  · have a := Int32.lt_iff_toInt_lt.mp a
    have z : (0 : Int32).toInt = 0 := rfl
    omega
  · have a := Int32.le_iff_toInt_le.mp a
    rw [nI_toInt (by decide)] at a
    omega
  · exact ⟨j, hj, e⟩
theorem nI_or (a b : Nat) : nI a ||| nI b = nI (a ||| b) := by
  apply Int32.toBitVec_inj.mp
  show BitVec.ofNat 32 a ||| BitVec.ofNat 32 b = BitVec.ofNat 32 (a ||| b)
  exact BitVec.ofNat_or.symm
theorem m16_or {x y : Int32} (hx : m16 x) (hy : m16 y) : m16 (x ||| y) := by
  obtain ⟨a, ha, rfl⟩ := hx
  obtain ⟨b, hb, rfl⟩ := hy
  exact ⟨a ||| b, Nat.or_lt_two_pow (n := 16) ha hb, nI_or a b⟩
theorem i32_nI (y : Int32) : y = nI y.toBitVec.toNat := by
  apply Int32.toBitVec_inj.mp
  show y.toBitVec = BitVec.ofNat 32 y.toBitVec.toNat
  rw [BitVec.ofNat_toNat, BitVec.setWidth_eq]
theorem m16_and {x : Int32} (y : Int32) (hx : m16 x) : m16 (x &&& y) := by
  obtain ⟨a, ha, rfl⟩ := hx
  refine ⟨a &&& y.toBitVec.toNat, Nat.lt_of_le_of_lt Nat.and_le_left ha, ?_⟩
  rw [← nI_and, ← i32_nI]
theorem m16_0 : m16 0 := ⟨0, by decide, rfl⟩
theorem m16_pop {x : Int32} (h : m16 x) : popc x = szK x 16 := by
  obtain ⟨q, hq, rfl⟩ := h
  exact pop_sz hq
theorem m16_szN {x : Int32} (h : m16 x) : ∃ c, c ≤ 16 ∧ szK x 16 = nI c := by
  obtain ⟨q, hq, rfl⟩ := h
  exact ⟨bN q 16, bN_le q 16, szK_nI (by omega) 16 (by omega)⟩
theorem b01 (x : Int32) : x &&& 1 = 0 ∨ x &&& 1 = 1 := by
  obtain ⟨j, hj, e⟩ := pk_andE x (m := 1) 1 (by decide)
  rw [e]
  rcases Nat.lt_or_ge j 1 with q | q
  · left; have : j = 0 := by omega
    subst this; rfl
  · right; have : j = 1 := by omega
    subst this; rfl
theorem b01n {x : Int32} (h : ¬ x &&& 1 = 0) : x &&& 1 = 1 := (b01 x).resolve_left h
theorem b10n {x : Int32} (h : ¬ x &&& 1 = 1) : x &&& 1 = 0 := (b01 x).resolve_right h
theorem b1ne0 {x : Int32} (h : x = 1) : ¬ x = 0 := by subst h; decide
/-- a bit, by its number -/
def bitB (x : Int32) (i : Nat) : Bool := x.toBitVec.getLsbD i
theorem and1_get (y : Int32) : y &&& 1 = 0 ↔ y.toBitVec.getLsbD 0 = false := by
  have e : y &&& 1 = nI (y.toBitVec.toNat % 2 ^ 1) := pk_and y 1 (by decide)
  rw [e, show y.toBitVec.getLsbD 0 = decide (y.toBitVec.toNat % 2 = 1) from Nat.testBit_zero _]
  rcases Nat.mod_two_eq_zero_or_one y.toBitVec.toNat with q | q
  · rw [show y.toBitVec.toNat % 2 ^ 1 = 0 from q]; decide
  · rw [show y.toBitVec.toNat % 2 ^ 1 = 1 from q]; decide
theorem sh_get (x : Int32) {i : Nat} (hi : i < 32) : (x >>> (nI i &&& 31)).toBitVec.getLsbD 0 = bitB x i := by
  have e : ((nI i &&& 31).toBitVec.smod 32).toNat = i := (by decide : ∀ k, k < 32 → ((nI k &&& 31).toBitVec.smod 32).toNat = k) i hi
  have e2 : (x >>> (nI i &&& 31)).toBitVec = x.toBitVec.sshiftRight ((nI i &&& 31).toBitVec.smod 32).toNat := rfl
  rw [e2, e, BitVec.getLsbD_sshiftRight]
  unfold bitB
  rw [if_pos (by omega)]
  simp
theorem bit_iff (x : Int32) {i : Nat} (hi : i < 32) : bit0 x i ↔ bitB x i = false := by
  rw [← sh_get x hi]; exact and1_get _
theorem bit1_iff (x : Int32) {i : Nat} (hi : i < 32) : (x >>> (nI i &&& 31)) &&& 1 = 1 ↔ bitB x i = true := by
  constructor
  · intro h
    cases e : bitB x i with
    | true => rfl
    | false => exact absurd ((bit_iff x hi).mpr e) (b1ne0 h)
  · intro h
    exact b01n (fun z => by rw [(bit_iff x hi).mp z] at h; cases h)
theorem bitB_and (x y : Int32) (i : Nat) : bitB (x &&& y) i = (bitB x i && bitB y i) := BitVec.getLsbD_and
theorem bitB_or (x y : Int32) (i : Nat) : bitB (x ||| y) i = (bitB x i || bitB y i) := BitVec.getLsbD_or
theorem bitB_not (x : Int32) {i : Nat} (hi : i < 32) : bitB (x ^^^ (-1)) i = !bitB x i := by
  show (x.toBitVec ^^^ (-1 : Int32).toBitVec).getLsbD i = _
  rw [BitVec.getLsbD_xor, show (-1 : Int32).toBitVec.getLsbD i = true from (by decide : ∀ i, i < 32 → (-1 : Int32).toBitVec.getLsbD i = true) i hi]
  unfold bitB
  cases x.toBitVec.getLsbD i <;> rfl
theorem bitB_1 : ∀ j, j < 32 → ∀ i, i < 32 → bitB (1 <<< (nI j &&& 31)) i = decide (i = j) := by decide
theorem bitB_ext {x y : Int32} (h : ∀ i, i < 32 → bitB x i = bitB y i) : x = y := by
  apply Int32.toBitVec_inj.mp
  exact BitVec.eq_of_getLsbD_eq (fun i hi => h i hi)
theorem bitB_0 (i : Nat) : bitB 0 i = false := by
  show (0#32).getLsbD i = false
  exact BitVec.getLsbD_zero
