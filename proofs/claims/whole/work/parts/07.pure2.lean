/-! pure words of the bounds and of the seeker of THE QUARREL -/
theorem mmq : ∀ q, q < 14 → 1 ≤ q → (if (1 : Int32) < (if (13 : Int32) < nI q then 13 else nI q) then (if (13 : Int32) < nI q then 13 else nI q) else 1) = nI q := by decide
theorem mmz : ∀ n, n < 13 → (if (12 : Int32) < nI n then 12 else nI n) = nI n := by decide
def lzF (ms : Nat → Int64) : Nat → Nat → Int64
  | 0 => fillF 1152921504606846976 ms 169
  | k + 1 => vp_updL (lzF ms k) ((k * 13) + k) 0
theorem lzF_ok (ms : Nat → Int64) : ∀ (k : Nat), k ≤ 13 → ∀ i j, i < 13 → j < 13 → lzF ms k ((i * 13) + j) = if i = j ∧ i < k then 0 else 1152921504606846976
  | 0, _, i, j, hi, hj => by
    show fillF _ _ _ _ = _
    unfold fillF
    rw [if_pos (by omega), if_neg (by omega)]
  | k + 1, hk, i, j, hi, hj => by
    show vp_updL (lzF ms k) ((k * 13) + k) 0 ((i * 13) + j) = _
    unfold vp_updL
    by_cases q : i = k ∧ j = k
    · obtain ⟨rfl, rfl⟩ := q
      rw [if_pos rfl, if_pos ⟨rfl, by omega⟩]
    · rw [if_neg (by omega), lzF_ok ms k (by omega) i j hi hj]
      by_cases z : i = j ∧ i < k
      · rw [if_pos z, if_pos ⟨z.1, by omega⟩]
      · rw [if_neg z, if_neg (by omega)]
def amF (ms : Nat → Int64) (i : Nat) (v : Int64) : Nat → Int64 := if (ms i).toInt ≤ v.toInt then ms else vp_updL ms i v
def trS (ms : Nat → Int64) (a v : Nat) (x : Int64) (t : Nat) : Nat → Int64 :=
  if ¬ 1152921504606846976 ≤ (ms ((v * 13) + t)).toInt ∧ ¬ (ms ((a * 13) + t)).toInt ≤ (x + ms ((v * 13) + t)).toInt then vp_updL ms ((a * 13) + t) (x + ms ((v * 13) + t)) else ms
def trF (ms : Nat → Int64) (a v : Nat) (x : Int64) : Nat → Nat → Int64
  | 0 => ms
  | t + 1 => trS (trF ms a v x t) a v x t
def rwF (ms : Nat → Int64) (a v N : Nat) : Nat → Int64 := if (ms ((a * 13) + v)).toInt < 1152921504606846976 then trF ms a v (ms ((a * 13) + v)) N else ms
def viF (ms : Nat → Int64) (v N : Nat) : Nat → Nat → Int64
  | 0 => ms
  | a + 1 => rwF (viF ms v N a) a v N
def tiF (ms : Nat → Int64) (N : Nat) : Nat → Nat → Int64
  | 0 => ms
  | v + 1 => viF (tiF ms N v) v N N
def anyNeg (ms : Nat → Int64) : Nat → Bool
  | 0 => false
  | k + 1 => anyNeg ms k || decide ((ms ((k * 13) + k)).toInt < 0)
theorem anyNeg_of {ms : Nat → Int64} : ∀ {N k : Nat}, k < N → (ms ((k * 13) + k)).toInt < 0 → anyNeg ms N = true
  | 0, k, h, _ => absurd h (by omega)
  | N + 1, k, h, hz => by
    show (anyNeg ms N || decide _) = true
    rcases Nat.lt_or_ge k N with q | q
    · rw [anyNeg_of q hz]; rfl
    · have e : k = N := by omega
      subst e
      rw [decide_eq_true hz, Bool.or_true]
theorem anyNeg_no {ms : Nat → Int64} : ∀ {N : Nat}, ¬ anyNeg ms N = true → ∀ k, k < N → 0 ≤ (ms ((k * 13) + k)).toInt
  | N, h, k, hk => by
    rcases Int.lt_or_le (ms ((k * 13) + k)).toInt 0 with q | q
    · exact absurd (anyNeg_of hk q) h
    · exact q
theorem anyNeg_ex {ms : Nat → Int64} : ∀ {N : Nat}, anyNeg ms N = true → ∃ k, k < N ∧ (ms ((k * 13) + k)).toInt < 0
  | 0, h => by cases h
  | N + 1, h => by
    have h : (anyNeg ms N || decide _) = true := h
    rw [Bool.or_eq_true] at h
    rcases h with q | q
    · obtain ⟨k, a, b⟩ := anyNeg_ex q; exact ⟨k, by omega, b⟩
    · exact ⟨N, by omega, of_decide_eq_true q⟩
def tOK (ms : Nat → Int64) (N v : Nat) : Prop := ∀ w, w < v → ¬ anyNeg (tiF ms N (w + 1)) N = true
theorem tOK_0 (ms : Nat → Int64) (N : Nat) : tOK ms N 0 := fun w hw => absurd hw (by omega)
theorem tOK_s {ms : Nat → Int64} {N v : Nat} (h : tOK ms N v) (hz : ¬ anyNeg (tiF ms N (v + 1)) N = true) : tOK ms N (v + 1) := by
  intro w hw
  rcases Nat.lt_or_ge w v with q | q
  · exact h w q
  · have e : w = v := by omega
    subst e; exact hz
/-- flat rows of 12 hold a matrix -/
def AG (n : Nat) (f : Nat → Int64) (M : Nat → Nat → Int64) : Prop := ∀ i j, i < n → j < n → f ((i * 12) + j) = M i j
theorem updL_hit (f : Nat → Int64) (i : Nat) (v : Int64) : vp_updL f i v i = v := by unfold vp_updL; rw [if_pos rfl]
theorem updL_ne (f : Nat → Int64) {i j : Nat} (v : Int64) (h : j ≠ i) : vp_updL f i v j = f j := by unfold vp_updL; rw [if_neg h]
theorem ix12 {i j a b : Nat} (hj : j < 12) (hb : b < 12) (h : (i * 12) + j = (a * 12) + b) : i = a ∧ j = b := by omega
def mnL (x y : Int64) : Int64 := if y < x then y else x
def stO (ms : Nat → Int64) (i j : Nat) : Int64 :=
  if ¬ 1152921504606846976 ≤ (ms (((i + 1) * 13) + 0)).toInt ∧ ¬ 1152921504606846976 ≤ (ms ((0 * 13) + (j + 1))).toInt then ms (((i + 1) * 13) + 0) + ms ((0 * 13) + (j + 1)) else 1152921504606846976
def stM (ms : Nat → Int64) (i j : Nat) : Int64 := if i = j then 1152921504606846976 else mnL (ms (((i + 1) * 13) + (j + 1))) (stO ms i j)
def stJ (st ms : Nat → Int64) (i : Nat) : Nat → Nat → Int64
  | 0 => st
  | j + 1 => if i = j then stJ st ms i j else vp_updL (stJ st ms i j) ((i * 12) + j) (mnL (ms (((i + 1) * 13) + (j + 1))) (stO ms i j))
theorem stJ_s (st ms : Nat → Int64) (i j : Nat) : stJ st ms i (j + 1) = if i = j then stJ st ms i j else vp_updL (stJ st ms i j) ((i * 12) + j) (mnL (ms (((i + 1) * 13) + (j + 1))) (stO ms i j)) := rfl
def stI (st ms : Nat → Int64) (n : Nat) : Nat → Nat → Int64
  | 0 => fillF 1152921504606846976 st 144
  | i + 1 => stJ (stI st ms n i) ms i n
theorem stJ_ok (st ms : Nat → Int64) (i : Nat) : ∀ (k : Nat), k ≤ 12 → ∀ a b, b < 12 → stJ st ms i k ((a * 12) + b) = if a = i ∧ b < k ∧ i ≠ b then stM ms i b else st ((a * 12) + b)
  | 0, _, a, b, hb => by rw [if_neg (by omega)]; rfl
  | k + 1, hk, a, b, hb => by
    rw [stJ_s]
    by_cases e : i = k
    · rw [if_pos e, stJ_ok st ms i k (by omega) a b hb]
      by_cases z : a = i ∧ b < k ∧ i ≠ b
      · rw [if_pos z, if_pos (by omega)]
      · rw [if_neg z, if_neg (by omega)]
    · rw [if_neg e]
      by_cases q : (a * 12) + b = (i * 12) + k
      · obtain ⟨rfl, rfl⟩ := ix12 hb (by omega) q
        rw [updL_hit, if_pos ⟨rfl, by omega, e⟩]
        unfold stM; rw [if_neg e]
      · rw [updL_ne _ _ q, stJ_ok st ms i k (by omega) a b hb]
        by_cases z : a = i ∧ b < k ∧ i ≠ b
        · rw [if_pos z, if_pos (by omega)]
        · rw [if_neg z, if_neg ?_]
          rintro ⟨rfl, h2, h3⟩
          rcases Nat.lt_or_ge b k with w | w
          · exact z ⟨rfl, w, h3⟩
          · exact q (by rw [show b = k by omega])
theorem stI_ok (st ms : Nat → Int64) {n : Nat} (hn : n ≤ 12) : ∀ (k : Nat), k ≤ n → ∀ a b, a < n → b < n → stI st ms n k ((a * 12) + b) = if a < k then stM ms a b else 1152921504606846976
  | 0, _, a, b, ha, hb => by
    show fillF _ _ _ _ = _
    unfold fillF
    rw [if_pos (by omega), if_neg (by omega)]
  | k + 1, hk, a, b, ha, hb => by
    show stJ (stI st ms n k) ms k n _ = _
    rw [stJ_ok _ _ _ _ hn _ _ (by omega)]
    by_cases e : a = k
    · subst e
      by_cases z : a = b
      · subst z
        rw [if_neg (by omega), stI_ok st ms hn a (by omega) a a ha hb, if_neg (by omega), if_pos (by omega)]
        unfold stM; rw [if_pos rfl]
      · rw [if_pos ⟨rfl, hb, z⟩, if_pos (by omega)]
    · rw [if_neg (fun z => e z.1), stI_ok st ms hn k (by omega) a b ha hb]
      by_cases z : a < k
      · rw [if_pos z, if_pos (by omega)]
      · rw [if_neg z, if_neg (by omega)]
theorem stI_AG (st ms : Nat → Int64) {n : Nat} (hn : n ≤ 12) : AG n (stI st ms n n) (stM ms) := fun i j hi hj => by rw [stI_ok st ms hn n (Nat.le_refl n) i j hi hj, if_pos hi]
/-- the walks of one step among those that b allows -/
def swM (ST : Nat → Nat → Int64) (b : Int32) (i j : Nat) : Int64 := if ¬ (b >>> (nI i &&& 31)) &&& 1 = 0 ∧ ¬ (b >>> (nI j &&& 31)) &&& 1 = 0 then ST i j else 1152921504606846976
def swJ (wk st : Nat → Int64) (b : Int32) (i : Nat) : Nat → Nat → Int64
  | 0 => wk
  | j + 1 => if ¬ (b >>> (nI i &&& 31)) &&& 1 = 0 ∧ ¬ (b >>> (nI j &&& 31)) &&& 1 = 0 then vp_updL (swJ wk st b i j) ((i * 12) + j) (st ((i * 12) + j)) else swJ wk st b i j
theorem swJ_s (wk st : Nat → Int64) (b : Int32) (i j : Nat) : swJ wk st b i (j + 1) = if ¬ (b >>> (nI i &&& 31)) &&& 1 = 0 ∧ ¬ (b >>> (nI j &&& 31)) &&& 1 = 0 then vp_updL (swJ wk st b i j) ((i * 12) + j) (st ((i * 12) + j)) else swJ wk st b i j := rfl
def swI (wk st : Nat → Int64) (b : Int32) (n : Nat) : Nat → Nat → Int64
  | 0 => fillF 1152921504606846976 wk 144
  | i + 1 => swJ (swI wk st b n i) st b i n
theorem swJ_ok (wk st : Nat → Int64) (b : Int32) (i : Nat) : ∀ (k : Nat), k ≤ 12 → ∀ x y, y < 12 → swJ wk st b i k ((x * 12) + y) = if x = i ∧ y < k ∧ (¬ (b >>> (nI i &&& 31)) &&& 1 = 0 ∧ ¬ (b >>> (nI y &&& 31)) &&& 1 = 0) then st ((i * 12) + y) else wk ((x * 12) + y)
  | 0, _, x, y, hy => by rw [if_neg (by omega)]; rfl
  | k + 1, hk, x, y, hy => by
    rw [swJ_s]
    by_cases c : ¬ (b >>> (nI i &&& 31)) &&& 1 = 0 ∧ ¬ (b >>> (nI k &&& 31)) &&& 1 = 0
    · rw [if_pos c]
      by_cases q : (x * 12) + y = (i * 12) + k
      · obtain ⟨rfl, rfl⟩ := ix12 hy (by omega) q
        rw [updL_hit, if_pos ⟨rfl, by omega, c⟩]
      · rw [updL_ne _ _ q, swJ_ok wk st b i k (by omega) x y hy]
        by_cases z : x = i ∧ y < k ∧ (¬ (b >>> (nI i &&& 31)) &&& 1 = 0 ∧ ¬ (b >>> (nI y &&& 31)) &&& 1 = 0)
        · rw [if_pos z, if_pos ⟨z.1, by omega, z.2.2⟩]
        · rw [if_neg z, if_neg ?_]
          rintro ⟨rfl, h2, h3⟩
          rcases Nat.lt_or_ge y k with w | w
          · exact z ⟨rfl, w, h3⟩
          · exact q (by rw [show y = k by omega])
    · rw [if_neg c, swJ_ok wk st b i k (by omega) x y hy]
      by_cases z : x = i ∧ y < k ∧ (¬ (b >>> (nI i &&& 31)) &&& 1 = 0 ∧ ¬ (b >>> (nI y &&& 31)) &&& 1 = 0)
      · rw [if_pos z, if_pos ⟨z.1, by omega, z.2.2⟩]
      · rw [if_neg z, if_neg ?_]
        rintro ⟨rfl, h2, h3⟩
        rcases Nat.lt_or_ge y k with w | w
        · exact z ⟨rfl, w, h3⟩
        · exact c (by rw [show k = y by omega]; exact h3)
theorem swI_ok (wk st : Nat → Int64) (b : Int32) {n : Nat} (hn : n ≤ 12) : ∀ (k : Nat), k ≤ n → ∀ x y, x < n → y < n → swI wk st b n k ((x * 12) + y) = if x < k ∧ (¬ (b >>> (nI x &&& 31)) &&& 1 = 0 ∧ ¬ (b >>> (nI y &&& 31)) &&& 1 = 0) then st ((x * 12) + y) else 1152921504606846976
  | 0, _, x, y, hx, hy => by
    show fillF _ _ _ _ = _
    unfold fillF
    rw [if_pos (by omega), if_neg (by omega)]
  | k + 1, hk, x, y, hx, hy => by
    show swJ (swI wk st b n k) st b k n _ = _
    rw [swJ_ok _ _ _ _ _ hn _ _ (by omega)]
    by_cases e : x = k
    · subst e
      by_cases z : ¬ (b >>> (nI x &&& 31)) &&& 1 = 0 ∧ ¬ (b >>> (nI y &&& 31)) &&& 1 = 0
      · rw [if_pos ⟨rfl, hy, z⟩, if_pos ⟨by omega, z⟩]
      · rw [if_neg (fun w => z w.2.2), swI_ok wk st b hn x (by omega) x y hx hy, if_neg (by omega), if_neg (fun w => z w.2)]
    · rw [if_neg (fun z => e z.1), swI_ok wk st b hn k (by omega) x y hx hy]
      by_cases z : x < k ∧ (¬ (b >>> (nI x &&& 31)) &&& 1 = 0 ∧ ¬ (b >>> (nI y &&& 31)) &&& 1 = 0)
      · rw [if_pos z, if_pos ⟨by omega, z.2⟩]
      · rw [if_neg z, if_neg (fun w => z ⟨by omega, w.2⟩)]
theorem swI_AG {wk st : Nat → Int64} {b : Int32} {n : Nat} {ST : Nat → Nat → Int64} (hn : n ≤ 12) (h : AG n st ST) : AG n (swI wk st b n n) (swM ST b) := fun i j hi hj => by
  rw [swI_ok wk st b hn n (Nat.le_refl n) i j hi hj]
  unfold swM
  by_cases z : ¬ (b >>> (nI i &&& 31)) &&& 1 = 0 ∧ ¬ (b >>> (nI j &&& 31)) &&& 1 = 0
  · rw [if_pos ⟨hi, z⟩, if_pos z, h i j hi hj]
  · rw [if_neg (fun w => z w.2), if_neg z]
/-- one step more -/
def lwS (cur w stp : Int64) (b : Int32) (t : Nat) : Int64 := if ¬ (b >>> (nI t &&& 31)) &&& 1 = 0 ∧ ¬ 1152921504606846976 ≤ stp.toInt ∧ ¬ cur.toInt ≤ (w + stp).toInt then w + stp else cur
def lwE (W ST : Nat → Nat → Int64) (b : Int32) (a t : Nat) : Nat → Int64
  | 0 => 1152921504606846976
  | v + 1 => if 1152921504606846976 ≤ (W a v).toInt then lwE W ST b a t v else lwS (lwE W ST b a t v) (W a v) (ST v t) b t
def lwM (ST : Nat → Nat → Int64) (b : Int32) (n : Nat) (W : Nat → Nat → Int64) (a t : Nat) : Int64 := lwE W ST b a t n
def asF (lg st : Nat → Int64) (a v : Nat) (w : Int64) (b : Int32) : Nat → Nat → Int64
  | 0 => lg
  | t + 1 => if ¬ (b >>> (nI t &&& 31)) &&& 1 = 0 ∧ ¬ 1152921504606846976 ≤ (st ((v * 12) + t)).toInt ∧ ¬ (asF lg st a v w b t ((a * 12) + t)).toInt ≤ (w + st ((v * 12) + t)).toInt then vp_updL (asF lg st a v w b t) ((a * 12) + t) (w + st ((v * 12) + t)) else asF lg st a v w b t
theorem asF_s (lg st : Nat → Int64) (a v : Nat) (w : Int64) (b : Int32) (t : Nat) : asF lg st a v w b (t + 1) = if ¬ (b >>> (nI t &&& 31)) &&& 1 = 0 ∧ ¬ 1152921504606846976 ≤ (st ((v * 12) + t)).toInt ∧ ¬ (asF lg st a v w b t ((a * 12) + t)).toInt ≤ (w + st ((v * 12) + t)).toInt then vp_updL (asF lg st a v w b t) ((a * 12) + t) (w + st ((v * 12) + t)) else asF lg st a v w b t := rfl
theorem asF_ok (lg st : Nat → Int64) (a v : Nat) (w : Int64) (b : Int32) : ∀ (k : Nat), k ≤ 12 → ∀ x y, y < 12 → asF lg st a v w b k ((x * 12) + y) = if x = a ∧ y < k then lwS (lg ((x * 12) + y)) w (st ((v * 12) + y)) b y else lg ((x * 12) + y)
  | 0, _, x, y, hy => by rw [if_neg (by omega)]; rfl
  | k + 1, hk, x, y, hy => by
    have ih := asF_ok lg st a v w b k (by omega)
    rw [asF_s]
    by_cases q : (x * 12) + y = (a * 12) + k
    · obtain ⟨rfl, rfl⟩ := ix12 hy (by omega) q
      have e := ih x y hy
      rw [if_neg (by omega)] at e
      rw [show (if x = x ∧ y < y + 1 then lwS (lg ((x * 12) + y)) w (st ((v * 12) + y)) b y else lg ((x * 12) + y)) = lwS (lg ((x * 12) + y)) w (st ((v * 12) + y)) b y from if_pos ⟨rfl, by omega⟩, e]
      unfold lwS
      by_cases c : ¬ (b >>> (nI y &&& 31)) &&& 1 = 0 ∧ ¬ 1152921504606846976 ≤ (st ((v * 12) + y)).toInt ∧ ¬ (lg ((x * 12) + y)).toInt ≤ (w + st ((v * 12) + y)).toInt
      · rw [if_pos c, if_pos c, updL_hit]
      · rw [if_neg c, if_neg c, e]
    · have e2 : (if x = a ∧ y < k + 1 then lwS (lg ((x * 12) + y)) w (st ((v * 12) + y)) b y else lg ((x * 12) + y)) = if x = a ∧ y < k then lwS (lg ((x * 12) + y)) w (st ((v * 12) + y)) b y else lg ((x * 12) + y) := by
        by_cases z : x = a ∧ y < k
        · rw [if_pos z, if_pos ⟨z.1, by omega⟩]
        · rw [if_neg z, if_neg ?_]
          rintro ⟨rfl, h2⟩
          rcases Nat.lt_or_ge y k with w | w
          · exact z ⟨rfl, w⟩
          · exact q (by rw [show y = k by omega])
      rw [e2, ← ih x y hy]
      split
      · exact updL_ne _ _ q
      · rfl
def lwV (lg wk st : Nat → Int64) (b : Int32) (a n : Nat) : Nat → Nat → Int64
  | 0 => lg
  | v + 1 => if 1152921504606846976 ≤ (wk ((a * 12) + v)).toInt then lwV lg wk st b a n v else asF (lwV lg wk st b a n v) st a v (wk ((a * 12) + v)) b n
theorem lwV_s (lg wk st : Nat → Int64) (b : Int32) (a n v : Nat) : lwV lg wk st b a n (v + 1) = if 1152921504606846976 ≤ (wk ((a * 12) + v)).toInt then lwV lg wk st b a n v else asF (lwV lg wk st b a n v) st a v (wk ((a * 12) + v)) b n := rfl
def lwA (lg wk st : Nat → Int64) (b : Int32) (n : Nat) : Nat → Nat → Int64
  | 0 => fillF 1152921504606846976 lg 144
  | a + 1 => lwV (lwA lg wk st b n a) wk st b a n n
theorem lwV_ok {lg wk st : Nat → Int64} {b : Int32} {a n : Nat} {W ST : Nat → Nat → Int64} (hn : n ≤ 12) (ha : a < n) (hW : AG n wk W) (hST : AG n st ST) (h0 : ∀ y, y < n → lg ((a * 12) + y) = 1152921504606846976) : ∀ (k : Nat), k ≤ n → ∀ x y, x < n → y < n → lwV lg wk st b a n k ((x * 12) + y) = if x = a then lwE W ST b a y k else lg ((x * 12) + y)
  | 0, _, x, y, hx, hy => by
    by_cases e : x = a
    · subst e; rw [if_pos rfl]; exact h0 y hy
    · rw [if_neg e]; rfl
  | k + 1, hk, x, y, hx, hy => by
    have ih := lwV_ok (b := b) hn ha hW hST h0 k (by omega)
    rw [lwV_s, hW a k ha (by omega)]
    by_cases c : 1152921504606846976 ≤ (W a k).toInt
    · rw [if_pos c, ih x y hx hy]
      by_cases e : x = a
      · rw [if_pos e, if_pos e]
        show _ = if _ then _ else _
        rw [if_pos c]
      · rw [if_neg e, if_neg e]
    · rw [if_neg c, asF_ok _ _ _ _ _ _ _ hn _ _ (by omega)]
      by_cases e : x = a
      · subst e
        rw [if_pos ⟨rfl, hy⟩, if_pos rfl, ih x y hx hy, if_pos rfl, hST k y (by omega) hy]
        show _ = if _ then _ else _
        rw [if_neg c]
      · rw [if_neg (fun z => e z.1), if_neg e, ih x y hx hy, if_neg e]
theorem lwA_ok {lg wk st : Nat → Int64} {b : Int32} {n : Nat} {W ST : Nat → Nat → Int64} (hn : n ≤ 12) (hW : AG n wk W) (hST : AG n st ST) : ∀ (k : Nat), k ≤ n → ∀ x y, x < n → y < n → lwA lg wk st b n k ((x * 12) + y) = if x < k then lwM ST b n W x y else 1152921504606846976
  | 0, _, x, y, hx, hy => by
    show fillF _ _ _ _ = _
    unfold fillF
    rw [if_pos (by omega), if_neg (by omega)]
  | k + 1, hk, x, y, hx, hy => by
    have ih := lwA_ok hn hW hST k (by omega) (lg := lg) (b := b)
    show lwV (lwA lg wk st b n k) wk st b k n n _ = _
    rw [lwV_ok hn (by omega) hW hST (fun y hy => by rw [ih k y (by omega) hy, if_neg (by omega)]) n (Nat.le_refl n) x y hx hy]
    by_cases e : x = k
    · subst e; rw [if_pos rfl, if_pos (by omega)]; rfl
    · rw [if_neg e, ih x y hx hy]
      by_cases z : x < k
      · rw [if_pos z, if_pos (by omega)]
      · rw [if_neg z, if_neg (by omega)]
theorem lwA_AG {lg wk st : Nat → Int64} {b : Int32} {n : Nat} {W ST : Nat → Nat → Int64} (hn : n ≤ 12) (hW : AG n wk W) (hST : AG n st ST) : AG n (lwA lg wk st b n n) (lwM ST b n W) := fun i j hi hj => by rw [lwA_ok hn hW hST n (Nat.le_refl n) i j hi hj, if_pos hi]
def wkP (ST : Nat → Nat → Int64) (b : Int32) (n : Nat) : Nat → Nat → Nat → Int64
  | 0 => swM ST b
  | d + 1 => lwM ST b n (wkP ST b n d)
def sbM (M : Nat → Nat → Int64) : Nat → Int32
  | 0 => 0
  | i + 1 => if (M i i).toInt < 0 then sbM M i ||| (1 <<< (nI i &&& 31)) else sbM M i
theorem sbM_s (M : Nat → Nat → Int64) (i : Nat) : sbM M (i + 1) = if (M i i).toInt < 0 then sbM M i ||| (1 <<< (nI i &&& 31)) else sbM M i := rfl
def oraM (ST : Nat → Nat → Int64) (n : Nat) (b : Int32) (d : Nat) : Int32 := sbM (wkP ST b n d) n
/-- of the rings of length d + 1 the least -/
def lrM (ST : Nat → Nat → Int64) (n : Nat) (d : Nat) : Nat → Int32 → Int32
  | 0, kept => kept
  | j + 1, kept => if (popc kept).toInt ≤ ((d + 1 : Nat) : Int) then kept else if (kept >>> (nI j &&& 31)) &&& 1 = 0 then lrM ST n d j kept else
      if oraM ST n (kept &&& ((1 <<< (nI j &&& 31)) ^^^ (-1))) d = 0 then lrM ST n d j kept else lrM ST n d j (oraM ST n (kept &&& ((1 <<< (nI j &&& 31)) ^^^ (-1))) d)
theorem lrM_s (ST : Nat → Nat → Int64) (n d j : Nat) (kept : Int32) : lrM ST n d (j + 1) kept = if (popc kept).toInt ≤ ((d + 1 : Nat) : Int) then kept else if (kept >>> (nI j &&& 31)) &&& 1 = 0 then lrM ST n d j kept else
      if oraM ST n (kept &&& ((1 <<< (nI j &&& 31)) ^^^ (-1))) d = 0 then lrM ST n d j kept else lrM ST n d j (oraM ST n (kept &&& ((1 <<< (nI j &&& 31)) ^^^ (-1))) d) := rfl
theorem lrM_1 {ST : Nat → Nat → Int64} {n d j : Nat} {kept r : Int32} (h : lrM ST n d (j + 1) kept = r) (h1 : (popc kept).toInt ≤ ((d + 1 : Nat) : Int)) : kept = r := by rw [lrM_s, if_pos h1] at h; exact h
theorem lrM_2 {ST : Nat → Nat → Int64} {n d j : Nat} {kept r : Int32} (h : lrM ST n d (j + 1) kept = r) (h1 : ¬ (popc kept).toInt ≤ ((d + 1 : Nat) : Int)) (h2 : (kept >>> (nI j &&& 31)) &&& 1 = 0) : lrM ST n d j kept = r := by rw [lrM_s, if_neg h1, if_pos h2] at h; exact h
theorem lrM_3 {ST : Nat → Nat → Int64} {n d j : Nat} {kept r : Int32} (h : lrM ST n d (j + 1) kept = r) (h1 : ¬ (popc kept).toInt ≤ ((d + 1 : Nat) : Int)) (h2 : ¬ (kept >>> (nI j &&& 31)) &&& 1 = 0) (h3 : oraM ST n (kept &&& ((1 <<< (nI j &&& 31)) ^^^ (-1))) d = 0) : lrM ST n d j kept = r := by rw [lrM_s, if_neg h1, if_neg h2, if_pos h3] at h; exact h
theorem lrM_4 {ST : Nat → Nat → Int64} {n d j : Nat} {kept r : Int32} (h : lrM ST n d (j + 1) kept = r) (h1 : ¬ (popc kept).toInt ≤ ((d + 1 : Nat) : Int)) (h2 : ¬ (kept >>> (nI j &&& 31)) &&& 1 = 0) (h3 : ¬ oraM ST n (kept &&& ((1 <<< (nI j &&& 31)) ^^^ (-1))) d = 0) : lrM ST n d j (oraM ST n (kept &&& ((1 <<< (nI j &&& 31)) ^^^ (-1))) d) = r := by rw [lrM_s, if_neg h1, if_neg h2, if_neg h3] at h; exact h
/-- the first length (of those from d + 1 on, j of them) that has rings: its least ring; none: 0 -/
def skM (ST : Nat → Nat → Int64) (n : Nat) (b : Int32) : Nat → Nat → Int32
  | 0, _ => 0
  | j + 1, d => if oraM ST n b d = 0 then skM ST n b j (d + 1) else lrM ST n d n (oraM ST n b d)
theorem skM_s (ST : Nat → Nat → Int64) (n : Nat) (b : Int32) (j d : Nat) : skM ST n b (j + 1) d = if oraM ST n b d = 0 then skM ST n b j (d + 1) else lrM ST n d n (oraM ST n b d) := rfl
def allB (n : Nat) : Int32 := (1 <<< (nI n &&& 31)) - 1
theorem iinc_m1 (x : Int32) : x + Int32.ofInt (-1) = x - 1 := by rw [Int32.sub_eq_add_neg]; rfl
