/-! the bounds at the start: one word for class and reference -/
theorem nb_i : (1152921504606846976 : Int64).toInt = 1152921504606846976 := by decide
theorem far_i : (1152921504606846976 : Int64).toInt = 1152921504606846976 := by decide
theorem z64_i : (0 : Int64).toInt = 0 := by decide
def okC (x : Int64) : Prop := x.toInt = 1152921504606846976 ∨ (-2000000 ≤ x.toInt ∧ x.toInt ≤ 2000000)
def okM (x : Int64) : Prop := x.toInt = 1152921504606846976 ∨ (-2000000 ≤ x.toInt ∧ x.toInt ≤ 2000000)
def w0F (lo up : Nat → Option Int) (S : Nat → Bool) (p q : Nat) : Option Int :=
  if p = q then some 0 else if p = 0 then (if S (q - 1) = true then up (q - 1) else none) else if q = 0 then (if S (p - 1) = true then lo (p - 1) else none) else none
def wTF (lo up : Nat → Option Int) (S : Nat → Bool) (an bn : Nat → Nat) (tv : Nat → Int) : Nat → Nat → Nat → Option Int
  | 0 => w0F lo up S
  | i + 1 => fun p q => if (S (an i) = true ∧ S (bn i) = true) ∧ p = bn i + 1 ∧ q = an i + 1 then oM (wTF lo up S an bn tv i p q) (some (tv i)) else wTF lo up S an bn tv i p q
theorem wTF_s (lo up : Nat → Option Int) (S : Nat → Bool) (an bn : Nat → Nat) (tv : Nat → Int) (i p q : Nat) : wTF lo up S an bn tv (i + 1) p q = if (S (an i) = true ∧ S (bn i) = true) ∧ p = bn i + 1 ∧ q = an i + 1 then oM (wTF lo up S an bn tv i p q) (some (tv i)) else wTF lo up S an bn tv i p q := rfl
def mnV (x v : Int64) : Int64 := if x.toInt ≤ v.toInt then x else v
theorem amF_at (ms : Nat → Int64) (i : Nat) (v : Int64) (j : Nat) : amF ms i v j = if j = i then mnV (ms i) v else ms j := by
  unfold amF mnV
  by_cases c : (ms i).toInt ≤ v.toInt
  · rw [if_pos c, if_pos c]
    by_cases e : j = i
    · rw [if_pos e, e]
    · rw [if_neg e]
  · rw [if_neg c, if_neg c]
    by_cases e : j = i
    · rw [if_pos e, e, updL_hit]
    · rw [if_neg e, updL_ne _ _ e]
theorem bdM_at (ms : Nat → Int64) (i : Nat) (v : Int64) (j : Nat) : bdM ms i v j = if j = i then mnV (ms i) v else ms j := by
  unfold bdM mnV
  by_cases e : j = i
  · rw [if_pos e, e, updL_hit]
  · rw [if_neg e, updL_ne _ _ e]
theorem mnV_nb {v : Int64} (h : v.toInt ≤ 1152921504606846976) : mnV 1152921504606846976 v = v := by
  unfold mnV
  rw [nb_i]
  by_cases c : (1152921504606846976 : Int) ≤ v.toInt
  · rw [if_pos c]; exact Int64.toInt_inj.mp (by rw [nb_i]; omega)
  · rw [if_neg c]
theorem mnV_far {v : Int64} (h : v.toInt ≤ 1152921504606846976) : mnV 1152921504606846976 v = v := by
  unfold mnV
  rw [far_i]
  by_cases c : (1152921504606846976 : Int) ≤ v.toInt
  · rw [if_pos c]; exact Int64.toInt_inj.mp (by rw [far_i]; omega)
  · rw [if_neg c]
theorem okC_vC {x : Int64} (h : okC x) : (x.toInt = 1152921504606846976 ∧ vC x = none) ∨ ((-2000000 ≤ x.toInt ∧ x.toInt ≤ 2000000) ∧ vC x = some x.toInt) := by
  rcases h with h | h
  · exact Or.inl ⟨h, vC_n (by omega)⟩
  · exact Or.inr ⟨h, vC_s (by omega)⟩
theorem okM_vM {x : Int64} (h : okM x) : (x.toInt = 1152921504606846976 ∧ vM x = none) ∨ ((-2000000 ≤ x.toInt ∧ x.toInt ≤ 2000000) ∧ vM x = some x.toInt) := by
  rcases h with h | h
  · exact Or.inl ⟨h, vM_n h⟩
  · exact Or.inr ⟨h, vM_s (by omega)⟩
theorem mnV_C {x v : Int64} (hx : okC x) (hv : -2000000 ≤ v.toInt ∧ v.toInt ≤ 2000000) : vC (mnV x v) = oM (vC x) (some v.toInt) ∧ okC (mnV x v) := by
  unfold mnV
  rcases okC_vC hx with ⟨h1, h2⟩ | ⟨h1, h2⟩
  · rw [if_neg (by omega), h2]
    exact ⟨vC_s (by omega), Or.inr hv⟩
  · rw [h2]
    by_cases c : x.toInt ≤ v.toInt
    · rw [if_pos c, h2]
      refine ⟨?_, hx⟩
      show _ = some (if _ then _ else _)
      rw [if_pos c]
    · rw [if_neg c, vC_s (by omega)]
      refine ⟨?_, Or.inr hv⟩
      show _ = some (if _ then _ else _)
      rw [if_neg c]
theorem mnV_M {x v : Int64} (hx : okM x) (hv : -2000000 ≤ v.toInt ∧ v.toInt ≤ 2000000) : vM (mnV x v) = oM (vM x) (some v.toInt) ∧ okM (mnV x v) := by
  unfold mnV
  rcases okM_vM hx with ⟨h1, h2⟩ | ⟨h1, h2⟩
  · rw [if_neg (by omega), h2]
    exact ⟨vM_s (by omega), Or.inr hv⟩
  · rw [h2]
    by_cases c : x.toInt ≤ v.toInt
    · rw [if_pos c, h2]
      refine ⟨?_, hx⟩
      show _ = some (if _ then _ else _)
      rw [if_pos c]
    · rw [if_neg c, vM_s (by omega)]
      refine ⟨?_, Or.inr hv⟩
      show _ = some (if _ then _ else _)
      rw [if_neg c]
/-- the class's SPANS in the matrix -/
theorem gbT_ok {ms su sl : Nat → Int64} {xo : Int32} {tn : Nat} {S : Nat → Bool} (hn : tn ≤ 12) (hu : ∀ t, t < tn → (su t).toInt ≤ 1152921504606846976) (hl : ∀ t, t < tn → (-(sl t)).toInt ≤ 1152921504606846976) (hS : ∀ t, t < tn → (S t = true ↔ ¬ nI t = xo)) :
    ∀ k, k ≤ tn → ∀ p q, p ≤ tn → q ≤ tn → gbT (lzF ms (tn + 1)) su sl xo k ((p * 13) + q) = if p = q then 0 else if p = 0 then (if q ≤ k ∧ S (q - 1) = true then su (q - 1) else 1152921504606846976) else if q = 0 then (if p ≤ k ∧ S (p - 1) = true then -(sl (p - 1)) else 1152921504606846976) else 1152921504606846976
  | 0, _, p, q, hp, hq => by
    show lzF ms (tn + 1) ((p * 13) + q) = _
    rw [lzF_ok ms (tn + 1) (by omega) p q (by omega) (by omega)]
    by_cases e : p = q
    · rw [if_pos ⟨e, by omega⟩, if_pos e]
    · rw [if_neg (fun z => e z.1), if_neg e]
      by_cases z : p = 0
      · rw [if_pos z, if_neg (by omega)]
      · rw [if_neg z]
        by_cases y : q = 0
        · rw [if_pos y, if_neg (by omega)]
        · rw [if_neg y]
  | k + 1, hk, p, q, hp, hq => by
    have ih := gbT_ok (ms := ms) hn hu hl hS k (by omega)
    by_cases c : nI k = xo
    · have sk : ¬ S k = true := fun z => (hS k (by omega)).mp z c
      rw [gbT_y c, ih p q hp hq]
      by_cases e : p = q
      · rw [if_pos e, if_pos e]
      · rw [if_neg e, if_neg e]
        by_cases z : p = 0
        · rw [if_pos z, if_pos z]
          by_cases y : q = k + 1
          · rw [if_neg (by omega), if_neg (by rw [y]; exact fun w => sk w.2)]
          · by_cases w : q ≤ k ∧ S (q - 1) = true
            · rw [if_pos w, if_pos ⟨by omega, w.2⟩]
            · rw [if_neg w, if_neg (fun v => w ⟨by omega, v.2⟩)]
        · rw [if_neg z, if_neg z]
          by_cases y0 : q = 0
          · rw [if_pos y0, if_pos y0]
            by_cases y : p = k + 1
            · rw [if_neg (by omega), if_neg (by rw [y]; exact fun w => sk w.2)]
            · by_cases w : p ≤ k ∧ S (p - 1) = true
              · rw [if_pos w, if_pos ⟨by omega, w.2⟩]
              · rw [if_neg w, if_neg (fun v => w ⟨by omega, v.2⟩)]
          · rw [if_neg y0, if_neg y0]
    · have sk : S k = true := (hS k (by omega)).mpr c
      have e1 : gbT (lzF ms (tn + 1)) su sl xo k ((0 * 13) + (k + 1)) = 1152921504606846976 := by
        rw [ih 0 (k + 1) (by omega) (by omega), if_neg (by omega), if_pos rfl, if_neg (by omega)]
      have e2 : gbT (lzF ms (tn + 1)) su sl xo k (((k + 1) * 13) + 0) = 1152921504606846976 := by
        rw [ih (k + 1) 0 (by omega) (by omega), if_neg (by omega), if_neg (by omega), if_pos rfl, if_neg (by omega)]
      rw [gbT_n c, amF_at, amF_at, amF_at, e1, e2, mnV_nb (hu k (by omega)), if_neg (show ¬ ((k + 1) * 13 + 0 = 0 * 13 + (k + 1)) by omega), mnV_nb (hl k (by omega)), ih p q hp hq]
      by_cases c1 : p = k + 1 ∧ q = 0
      · obtain ⟨rfl, rfl⟩ := c1
        rw [if_pos rfl, if_neg (by omega), if_neg (by omega), if_pos rfl, if_pos ⟨by omega, sk⟩]; rfl
      · rw [if_neg (show ¬ (p * 13 + q = (k + 1) * 13 + 0) by omega)]
        by_cases c2 : p = 0 ∧ q = k + 1
        · obtain ⟨rfl, rfl⟩ := c2
          rw [if_pos rfl, if_neg (by omega), if_pos rfl, if_pos ⟨by omega, sk⟩]; rfl
        · rw [if_neg (show ¬ (p * 13 + q = 0 * 13 + (k + 1)) by omega)]
          by_cases e : p = q
          · rw [if_pos e, if_pos e]
          · rw [if_neg e, if_neg e]
            by_cases z : p = 0
            · rw [if_pos z, if_pos z]
              by_cases w : q ≤ k ∧ S (q - 1) = true
              · rw [if_pos w, if_pos ⟨by omega, w.2⟩]
              · rw [if_neg w, if_neg (fun v => w ⟨by omega, v.2⟩)]
            · rw [if_neg z, if_neg z]
              by_cases y0 : q = 0
              · rw [if_pos y0, if_pos y0]
                by_cases w : p ≤ k ∧ S (p - 1) = true
                · rw [if_pos w, if_pos ⟨by omega, w.2⟩]
                · rw [if_neg w, if_neg (fun v => w ⟨by omega, v.2⟩)]
              · rw [if_neg y0, if_neg y0]
theorem inC_at {x y : Nat} (hy : y < 13) : inC ((13 * x) + y) = if x = y then 0 else 1152921504606846976 := by
  unfold inC
  rw [show (13 * x + y) / 13 = x by omega, show (13 * x + y) % 13 = y by omega]
/-- the reference's SPANS in the matrix -/
theorem trM_ok {e0 e1 : Nat → Int64} {st : Int32} {tn : Nat} {S : Nat → Bool} (hn : tn ≤ 12) (hu : ∀ t, t < tn → (e1 t).toInt ≤ 1152921504606846976) (hl : ∀ t, t < tn → (ngF (e0 t)).toInt ≤ 1152921504606846976) (hS : ∀ t, t < tn → (S t = true ↔ (st >>> (nI t &&& 31)) &&& 1 = 1)) :
    ∀ k, k ≤ tn → ∀ x y, x < 13 → y < 13 → trM inC e0 e1 st k ((13 * x) + y) = if x = y then 0 else if x = 12 then (if y < k ∧ S y = true then e1 y else 1152921504606846976) else if y = 12 then (if x < k ∧ S x = true then ngF (e0 x) else 1152921504606846976) else 1152921504606846976
  | 0, _, x, y, hx, hy => by
    show inC ((13 * x) + y) = _
    rw [inC_at hy]
    by_cases e : x = y
    · rw [if_pos e, if_pos e]
    · rw [if_neg e, if_neg e]
      by_cases z : x = 12
      · rw [if_pos z, if_neg (by omega)]
      · rw [if_neg z]
        by_cases w : y = 12
        · rw [if_pos w, if_neg (by omega)]
        · rw [if_neg w]
  | k + 1, hk, x, y, hx, hy => by
    have ih := trM_ok hn hu hl hS k (by omega)
    by_cases c : (st >>> (nI k &&& 31)) &&& 1 = 1
    · have sk : S k = true := (hS k (by omega)).mpr c
      have e1' : trM inC e0 e1 st k ((13 * 12) + k) = 1152921504606846976 := by
        rw [ih 12 k (by omega) (by omega), if_neg (by omega), if_pos rfl, if_neg (by omega)]
      have e2' : trM inC e0 e1 st k ((13 * k) + 12) = 1152921504606846976 := by
        rw [ih k 12 (by omega) (by omega), if_neg (by omega), if_neg (by omega), if_pos rfl, if_neg (by omega)]
      rw [trM_y c, bdM_at, bdM_at, bdM_at, e2', e1', mnV_far (hl k (by omega)), if_neg (show ¬ (13 * 12 + k = 13 * k + 12) by omega), mnV_far (hu k (by omega)), ih x y hx hy]
      by_cases c1 : x = 12 ∧ y = k
      · obtain ⟨rfl, rfl⟩ := c1
        rw [if_pos rfl, if_neg (by omega), if_pos rfl, if_pos ⟨by omega, sk⟩]
      · rw [if_neg (show ¬ (13 * x + y = 13 * 12 + k) by omega)]
        by_cases c2 : x = k ∧ y = 12
        · obtain ⟨rfl, rfl⟩ := c2
          rw [if_pos rfl, if_neg (by omega), if_neg (by omega), if_pos rfl, if_pos ⟨by omega, sk⟩]
        · rw [if_neg (show ¬ (13 * x + y = 13 * k + 12) by omega)]
          by_cases e : x = y
          · rw [if_pos e, if_pos e]
          · rw [if_neg e, if_neg e]
            by_cases z : x = 12
            · rw [if_pos z, if_pos z]
              by_cases w : y < k ∧ S y = true
              · rw [if_pos w, if_pos ⟨by omega, w.2⟩]
              · rw [if_neg w, if_neg (fun v => w ⟨by omega, v.2⟩)]
            · rw [if_neg z, if_neg z]
              by_cases y0 : y = 12
              · rw [if_pos y0, if_pos y0]
                by_cases w : x < k ∧ S x = true
                · rw [if_pos w, if_pos ⟨by omega, w.2⟩]
                · rw [if_neg w, if_neg (fun v => w ⟨by omega, v.2⟩)]
              · rw [if_neg y0, if_neg y0]
    · have sk : ¬ S k = true := fun z => c ((hS k (by omega)).mp z)
      rw [trM_n c, ih x y hx hy]
      by_cases e : x = y
      · rw [if_pos e, if_pos e]
      · rw [if_neg e, if_neg e]
        by_cases z : x = 12
        · rw [if_pos z, if_pos z]
          by_cases y1 : y = k
          · rw [if_neg (by omega), if_neg (by rw [y1]; exact fun w => sk w.2)]
          · by_cases w : y < k ∧ S y = true
            · rw [if_pos w, if_pos ⟨by omega, w.2⟩]
            · rw [if_neg w, if_neg (fun v => w ⟨by omega, v.2⟩)]
        · rw [if_neg z, if_neg z]
          by_cases y0 : y = 12
          · rw [if_pos y0, if_pos y0]
            by_cases y1 : x = k
            · rw [if_neg (by omega), if_neg (by rw [y1]; exact fun w => sk w.2)]
            · by_cases w : x < k ∧ S x = true
              · rw [if_pos w, if_pos ⟨by omega, w.2⟩]
              · rw [if_neg w, if_neg (fun v => w ⟨by omega, v.2⟩)]
          · rw [if_neg y0, if_neg y0]
/-- the class's node of a node of the reference, and back -/
def gN (x : Nat) : Nat := if x = 12 then 0 else x + 1
def fN (p : Nat) : Nat := if p = 0 then 12 else p - 1
theorem gN_f {p : Nat} (h : p < 13) : gN (fN p) = p := by
  unfold gN fN
  by_cases e : p = 0
  · rw [if_pos e, if_pos rfl, e]
  · rw [if_neg e, if_neg (by omega)]; omega
theorem fN_g {x : Nat} (h : x < 13) : fN (gN x) = x := by
  unfold gN fN
  by_cases e : x = 12
  · rw [if_pos e, if_pos rfl, e]
  · rw [if_neg e, if_neg (by omega)]; omega
theorem fN_lt {p : Nat} (h : p < 13) : fN p < 13 := by
  unfold fN; split <;> omega
theorem gN_lt {x : Nat} (h : x < 13) : gN x < 13 := by
  unfold gN; split <;> omega
/-- the class's TIES in the matrix -/
theorem gbI_v {m0 : Nat → Int64} {an bn : Nat → Nat} {ta tb td : Nat → Int32} {xo : Int32} {tn im : Nat} {S : Nat → Bool} {lo up : Nat → Option Int} {tv : Nat → Int} (hn : tn ≤ 12) (h0 : ∀ p q, p ≤ tn → q ≤ tn → mC m0 p q = w0F lo up S p q ∧ okC (m0 ((p * 13) + q)))
    (hab : ∀ i, i < im → ta i = nI (an i) ∧ tb i = nI (bn i) ∧ an i < tn ∧ bn i < tn) (htv : ∀ i, i < im → (-(td i)).toInt64.toInt = tv i ∧ -100000 ≤ tv i ∧ tv i ≤ 100000) (hS : ∀ t, t < tn → (S t = true ↔ ¬ nI t = xo)) :
    ∀ k, k ≤ im → ∀ p q, p ≤ tn → q ≤ tn → mC (gbI m0 an bn ta tb td xo k) p q = wTF lo up S an bn tv k p q ∧ okC (gbI m0 an bn ta tb td xo k ((p * 13) + q))
  | 0, _, p, q, hp, hq => h0 p q hp hq
  | k + 1, hk, p, q, hp, hq => by
    have ih := gbI_v hn h0 hab htv hS k (by omega) p q hp hq
    obtain ⟨ea, eb, la, lb⟩ := hab k (by omega)
    obtain ⟨et, t1, t2⟩ := htv k (by omega)
    rw [wTF_s]
    by_cases c1 : ta k = xo
    · rw [gbI_1 c1, if_neg (fun z => (hS _ la).mp z.1.1 (ea ▸ c1))]; exact ih
    · by_cases c2 : tb k = xo
      · rw [gbI_2 c1 c2, if_neg (fun z => (hS _ lb).mp z.1.2 (eb ▸ c2))]; exact ih
      · have s1 : S (an k) = true := (hS _ la).mpr (ea ▸ c1)
        have s2 : S (bn k) = true := (hS _ lb).mpr (eb ▸ c2)
        unfold mC
        rw [gbI_3 c1 c2, amF_at]
        by_cases e : p = bn k + 1 ∧ q = an k + 1
        · obtain ⟨rfl, rfl⟩ := e
          rw [if_pos rfl, if_pos ⟨⟨s1, s2⟩, rfl, rfl⟩]
          have := mnV_C ih.2 (v := (-(td k)).toInt64) (by rw [et]; omega)
          rw [et] at this
          have i1 := ih.1
          unfold mC at i1
          rw [← i1]; exact this
        · rw [if_neg (show ¬ (p * 13 + q = (bn k + 1) * 13 + (an k + 1)) by omega), if_neg (fun z => e z.2)]; exact ih
/-- the reference's TIES in the matrix -/
theorem tsM_v {m0 : Nat → Int64} {an bn : Nat → Nat} {ta tb td : Nat → Int32} {st : Int32} {tn im : Nat} {S : Nat → Bool} {lo up : Nat → Option Int} {tv : Nat → Int} (hn : tn ≤ 12) (h0 : ∀ x y, x < 13 → y < 13 → mM m0 x y = w0F lo up S (gN x) (gN y) ∧ okM (m0 ((13 * x) + y)))
    (hab : ∀ i, i < im → ta i = nI (an i) ∧ tb i = nI (bn i) ∧ an i < tn ∧ bn i < tn) (htv : ∀ i, i < im → (-(td i)).toInt64.toInt = tv i ∧ -100000 ≤ tv i ∧ tv i ≤ 100000) (hS : ∀ t, t < tn → (S t = true ↔ (st >>> (nI t &&& 31)) &&& 1 = 1)) :
    ∀ k, k ≤ im → ∀ x y, x < 13 → y < 13 → mM (tsM m0 an bn ta tb td st k) x y = wTF lo up S an bn tv k (gN x) (gN y) ∧ okM (tsM m0 an bn ta tb td st k ((13 * x) + y))
  | 0, _, x, y, hx, hy => h0 x y hx hy
  | k + 1, hk, x, y, hx, hy => by
    have ih := tsM_v hn h0 hab htv hS k (by omega) x y hx hy
    obtain ⟨ea, eb, la, lb⟩ := hab k (by omega)
    obtain ⟨et, t1, t2⟩ := htv k (by omega)
    rw [wTF_s]
    by_cases c1 : (st >>> (ta k &&& 31)) &&& 1 = 1
    · have s1 : S (an k) = true := (hS _ la).mpr (ea ▸ c1)
      by_cases c2 : (st >>> (tb k &&& 31)) &&& 1 = 1
      · have s2 : S (bn k) = true := (hS _ lb).mpr (eb ▸ c2)
        unfold mM
        rw [tsM_3 c1 c2, bdM_at]
        by_cases e : x = bn k ∧ y = an k
        · obtain ⟨rfl, rfl⟩ := e
          have g1 : gN (bn k) = bn k + 1 := by unfold gN; rw [if_neg (by omega)]
          have g2 : gN (an k) = an k + 1 := by unfold gN; rw [if_neg (by omega)]
          rw [if_pos rfl, if_pos ⟨⟨s1, s2⟩, g1, g2⟩]
          have := mnV_M ih.2 (v := (-(td k)).toInt64) (by rw [et]; omega)
          rw [et] at this
          have i1 := ih.1
          unfold mM at i1
          rw [← i1]; exact this
        · rw [if_neg (show ¬ (13 * x + y = 13 * bn k + an k) by omega), if_neg (fun z => e ⟨?_, ?_⟩)]
          · exact ih
          · have := z.2.1; unfold gN at this; split at this <;> omega
          · have := z.2.2; unfold gN at this; split at this <;> omega
      · rw [tsM_2 c1 c2, if_neg (fun z => c2 (eb ▸ (hS _ lb).mp z.1.2))]; exact ih
    · rw [tsM_1 c1, if_neg (fun z => c1 (ea ▸ (hS _ la).mp z.1.1))]; exact ih
