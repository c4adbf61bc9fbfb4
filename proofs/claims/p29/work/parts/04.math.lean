/-! What a state is as numbers, and what is read off it. -/
/-- what closeGap leaves: from i on, up to k, each place has the next one's number -/
def gapk (g : Nat → Int32) (i k : Nat) : Nat → Int32 := fun j => if i ≤ j ∧ j < k then g (j + 1) else g j
theorem gapk_0 (g : Nat → Int32) (i : Nat) : gapk g i i = g := by
  funext j; unfold gapk; rw [if_neg (by omega)]
theorem gapk_s (g : Nat → Int32) {i k : Nat} (h : i ≤ k) : upd (gapk g i k) k (gapk g i k (k + 1)) = gapk g i (k + 1) := by
  funext j; unfold upd gapk
  by_cases e : j = k
  · subst e; rw [if_pos rfl, if_neg (by omega), if_pos (by omega)]
  · rw [if_neg e]
    by_cases q : i ≤ j ∧ j < k
    · rw [if_pos q, if_pos (by omega)]
    · rw [if_neg q, if_neg (by omega)]
/-- what copyFrom leaves -/
def cpk (g g2 : Nat → Int32) (k : Nat) : Nat → Int32 := fun j => if j < k then g2 j else g j
theorem cpk_0 (g g2 : Nat → Int32) : cpk g g2 0 = g := by
  funext j; unfold cpk; rw [if_neg (by omega)]
theorem cpk_s (g g2 : Nat → Int32) (k : Nat) : upd (cpk g g2 k) k (g2 k) = cpk g g2 (k + 1) := by
  funext j; unfold upd cpk
  by_cases e : j = k
  · subst e; rw [if_pos rfl, if_pos (by omega)]
  · rw [if_neg e]
    by_cases q : j < k
    · rw [if_pos q, if_pos (by omega)]
    · rw [if_neg q, if_neg (by omega)]
theorem cpk_at {g g2 : Nat → Int32} {k j : Nat} (h : j < k) : cpk g g2 k j = g2 j := if_pos h
def sumI (g : Nat → Int32) : Nat → Int32
  | 0 => nI 0
  | n + 1 => sumI g n + g n
theorem gap_end {g : Nat → Int32} {i e k : Nat} (h1 : i ≤ k) (h2 : ¬ k < e - 1) (h3 : k ≤ e - 1 ∨ k = i) : gapk g i k = gapk g i (e - 1) := by
  funext j; unfold gapk
  by_cases q : i ≤ j ∧ j < k
  · rw [if_pos q, if_pos (by omega)]
  · rw [if_neg q, if_neg (by omega)]
/-- a filled array -/
def filk (v : Int32) (k : Nat) : Nat → Int32 := fun j => if j < k then v else 0
theorem filk_0 (v : Int32) : filk v 0 = fun _ => 0 := by
  funext j; unfold filk; rw [if_neg (by omega)]
theorem filk_s (v : Int32) (k : Nat) : upd (filk v k) k v = filk v (k + 1) := by
  funext j; unfold upd filk
  by_cases e : j = k
  · subst e; rw [if_pos rfl, if_pos (by omega)]
  · rw [if_neg e]
    by_cases q : j < k
    · rw [if_pos q, if_pos (by omega)]
    · rw [if_neg q, if_neg (by omega)]
/-- the JDK's bitCount, as it is written -/
def us (x k : Int32) : Int32 := (x.toUInt32 >>> (k.toUInt32 &&& Int32.toUInt32 31)).toInt32
def bc1 (x : Int32) : Int32 := x - (us x (nI 1) &&& 1431655765)
def bc2 (x : Int32) : Int32 := (bc1 x &&& 858993459) + (us (bc1 x) (nI 2) &&& 858993459)
def bc3 (x : Int32) : Int32 := (bc2 x + us (bc2 x) (nI 4)) &&& 252645135
def bc4 (x : Int32) : Int32 := bc3 x + us (bc3 x) (nI 8)
def bc5 (x : Int32) : Int32 := bc4 x + us (bc4 x) (nI 16)
def bcI (x : Int32) : Int32 := bc5 x &&& nI 63
/-- a row that a question is for -/
def mtch (pl : Int32) (q v lo hi : Nat) : Bool := (decide (pl = -1) || decide (nI q = pl)) && (decide (lo ≤ v) && decide (v ≤ hi))
theorem mtch_iff {pl : Int32} {q v lo hi : Nat} : mtch pl q v lo hi = true ↔ (pl = -1 ∨ nI q = pl) ∧ lo ≤ v ∧ v ≤ hi := by
  unfold mtch; simp only [Bool.and_eq_true, Bool.or_eq_true, decide_eq_true_eq]
/-- does some remembered mask differ by one row -/
def gvI (g : Nat → Int32) (p : Nat) (x : Int32) : Nat → Bool
  | 0 => false
  | k + 1 => gvI g p x k || decide (bcI (g (p * 6 + k) ^^^ x) = nI 1)
theorem gvI_mono {g : Nat → Int32} {p : Nat} {x : Int32} {k : Nat} : ∀ {n : Nat}, k ≤ n → gvI g p x k = true → gvI g p x n = true
  | 0, h, q => by rw [show k = 0 by omega] at q; exact q
  | n + 1, h, q => by
    rcases Nat.lt_or_ge k (n + 1) with r | r
    · show (gvI g p x n || _) = true
      rw [gvI_mono (by omega) q]; rfl
    · rw [show n + 1 = k by omega]; exact q
/-- what keep leaves -/
def kpM (g : Nat → Int32) (p K : Nat) (v : Int32) : Nat → Int32 := if K < 6 then upd g (p * 6 + K) v else upd (gapk g (p * 6) (p * 6 + 6 - 1)) (p * 6 + 5) v
def kpN (K : Nat) : Nat := if K < 6 then K + 1 else 6
theorem kpM_some {g : Nat → Int32} {p K : Nat} {v : Int32} (h : K < 6) : upd g (p * 6 + K) v = kpM g p K v := (if_pos h).symm
theorem kpM_full {g : Nat → Int32} {p K : Nat} {v : Int32} (h : ¬ K < 6) : upd (gapk g (p * 6) (p * 6 + 6 - 1)) (p * 6 + 5) v = kpM g p K v := (if_neg h).symm
theorem kpN_some {K : Nat} (h : K < 6) : kpN K = K + 1 := if_pos h
theorem kpN_full {K : Nat} (h : ¬ K < 6) : kpN K = 6 := if_neg h
/-- what takeOut leaves of the masks -/
def tkb (i : Nat) : Int32 := (nI 1 <<< (nI i &&& 31)) - nI 1
def tkI (b m : Int32) : Int32 := (m &&& b) ||| ((m >>> (nI 1 &&& 31)) &&& (b ^^^ (-1)))
def tkk (b : Int32) (g : Nat → Int32) (k : Nat) : Nat → Int32 := fun j => if j < k then tkI b (g j) else g j
theorem tkk_0 (b : Int32) (g : Nat → Int32) : tkk b g 0 = g := by
  funext j; unfold tkk; rw [if_neg (by omega)]
theorem tkk_at (b : Int32) (g : Nat → Int32) (k : Nat) : tkk b g k k = g k := by unfold tkk; rw [if_neg (by omega)]
theorem tkk_s (b : Int32) (g : Nat → Int32) (k : Nat) : upd (tkk b g k) k (tkI b (g k)) = tkk b g (k + 1) := by
  funext j; unfold upd tkk
  by_cases e : j = k
  · subst e; rw [if_pos rfl, if_pos (by omega)]
  · rw [if_neg e]
    by_cases q : j < k
    · rw [if_pos q, if_pos (by omega)]
    · rw [if_neg q, if_neg (by omega)]
def cnt (p : Nat → Bool) : Nat → Nat
  | 0 => 0
  | n + 1 => cnt p n + (if p n then 1 else 0)
theorem cnt_le (p : Nat → Bool) : ∀ n, cnt p n ≤ n
  | 0 => Nat.le_refl _
  | n + 1 => by
    have := cnt_le p n
    show cnt p n + _ ≤ _
    split <;> omega
theorem cnt_t {p : Nat → Bool} {n : Nat} (h : p n = true) : cnt p (n + 1) = cnt p n + 1 := by show cnt p n + _ = _; rw [h]; rfl
theorem cnt_f {p : Nat → Bool} {n : Nat} (h : p n = false) : cnt p (n + 1) = cnt p n := by show cnt p n + _ = _; rw [h]; rfl
theorem cnt_cong {p q : Nat → Bool} : ∀ {n : Nat}, (∀ k, k < n → p k = q k) → cnt p n = cnt q n
  | 0, _ => rfl
  | n + 1, h => by
    show cnt p n + _ = cnt q n + _
    rw [cnt_cong (fun k hk => h k (by omega)), h n (by omega)]
