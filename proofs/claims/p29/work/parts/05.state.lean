/-! A state as 130 numbers, laid as the reference lays them; what is read off it. -/
def oR (σ : Nat → Nat) (r w : Nat) : Nat := σ (6 + 4 * r + w)
def oP (σ : Nat → Nat) (p w : Nat) : Nat := σ (70 + 5 * p + w)
def oK (σ : Nat → Nat) (p : Nat) : Nat := σ (95 + 7 * p)
def oM (σ : Nat → Nat) (p k : Nat) : Nat := σ (96 + 7 * p + k)
/-- the state is one that calls can make -/
def Inv (σ : Nat → Nat) : Prop := σ 0 ≤ 16 ∧ σ 1 < 16 ∧ (1 ≤ σ 2 ∧ σ 2 ≤ 9) ∧ (1 ≤ σ 3 ∧ σ 3 ≤ 9) ∧ σ 4 ≤ 1 ∧
  (∀ r, r < σ 0 → oR σ r 0 < 5 ∧ oR σ r 1 < 4 ∧ oR σ r 2 < 100 ∧ oR σ r 3 < 4) ∧
  (∀ p, p < 5 → oP σ p 0 < 4 ∧ oP σ p 1 < 4 ∧ oP σ p 2 ≤ 5) ∧ (∀ p, p < 5 → oK σ p ≤ 6 ∧ ∀ k, k < oK σ p → oM σ p k < 65536)
theorem Inv.n {σ : Nat → Nat} (h : Inv σ) : σ 0 ≤ 16 := h.1
theorem Inv.rules {σ : Nat → Nat} (h : Inv σ) : σ 1 < 16 := h.2.1
theorem Inv.least {σ : Nat → Nat} (h : Inv σ) : 1 ≤ σ 2 ∧ σ 2 ≤ 9 := h.2.2.1
theorem Inv.coarse {σ : Nat → Nat} (h : Inv σ) : 1 ≤ σ 3 ∧ σ 3 ≤ 9 := h.2.2.2.1
theorem Inv.diff {σ : Nat → Nat} (h : Inv σ) : σ 4 ≤ 1 := h.2.2.2.2.1
theorem Inv.row {σ : Nat → Nat} (h : Inv σ) {r : Nat} (hr : r < σ 0) : oR σ r 0 < 5 ∧ oR σ r 1 < 4 ∧ oR σ r 2 < 100 ∧ oR σ r 3 < 4 := h.2.2.2.2.2.1 r hr
theorem Inv.person {σ : Nat → Nat} (h : Inv σ) {p : Nat} (hp : p < 5) : oP σ p 0 < 4 ∧ oP σ p 1 < 4 ∧ oP σ p 2 ≤ 5 := h.2.2.2.2.2.2.1 p hp
theorem Inv.kept {σ : Nat → Nat} (h : Inv σ) {p : Nat} (hp : p < 5) : oK σ p ≤ 6 := (h.2.2.2.2.2.2.2 p hp).1
theorem Inv.mask {σ : Nat → Nat} (h : Inv σ) {p k : Nat} (hp : p < 5) (hk : k < oK σ p) : oM σ p k < 65536 := (h.2.2.2.2.2.2.2 p hp).2 k hk
/-- a master as the class holds it: less by one, none is -1 -/
def mI (k : Nat) : Int32 := nI k - 1
theorem mI_0 : mI 0 = -1 := by decide
theorem mI_s (k : Nat) : mI (k + 1) = nI k := by
  unfold mI; rw [nI_succ]; apply Int32.toBitVec_inj.mp; simp
theorem mI_none {k : Nat} (h : k ≤ 5) : mI k = -1 ↔ k = 0 := by
  rcases k with _ | k
  · exact ⟨fun _ => rfl, fun _ => mI_0⟩
  · refine ⟨fun q => ?_, fun q => absurd q (by omega)⟩
    rw [mI_s] at q
    have : ∀ j : Nat, j < 5 → ¬ nI j = -1 := by decide
    exact absurd q (this k (by omega))
theorem mI_eq {k a : Nat} (h : k ≤ 5) (ha : a < 5) : nI a = mI k ↔ k = a + 1 := by
  have : ∀ k : Nat, k < 6 → ∀ a : Nat, a < 5 → (nI a = mI k ↔ k = a + 1) := by decide
  exact this k (by omega) a ha
/-- the class's cells hold the state -/
def Rep (σ : Nat → Nat) (f : Nat → Nat → Int32) (z : Nat → Int32) : Prop :=
  z 0 = nI (σ 0) ∧ z 1 = nI (σ 1) ∧ z 2 = nI (σ 5) ∧
  (∀ r, r < σ 0 → f 0 r = nI (oR σ r 0) ∧ f 1 r = nI (oR σ r 1) ∧ f 2 r = nI (oR σ r 2) ∧ f 3 r = nI (oR σ r 3)) ∧
  (∀ p, p < 5 → f 4 p = nI (oP σ p 0) ∧ f 5 p = nI (oP σ p 1) ∧ f 6 p = mI (oP σ p 2) ∧ f 9 p = nI (oP σ p 3) ∧ f 10 p = nI (oP σ p 4)) ∧
  (∀ p, p < 5 → f 8 p = nI (oK σ p) ∧ ∀ k, k < oK σ p → f 7 (p * 6 + k) = nI (oM σ p k)) ∧
  (∀ i, i < 3 → f 11 i = nI (σ (2 + i)))
section RP
variable {σ : Nat → Nat} {f : Nat → Nat → Int32} {z : Nat → Int32}
theorem Rep.n (h : Rep σ f z) : z 0 = nI (σ 0) := h.1
theorem Rep.rules (h : Rep σ f z) : z 1 = nI (σ 1) := h.2.1
theorem Rep.given (h : Rep σ f z) : z 2 = nI (σ 5) := h.2.2.1
theorem Rep.own (h : Rep σ f z) {r : Nat} (hr : r < σ 0) : f 0 r = nI (oR σ r 0) := (h.2.2.2.1 r hr).1
theorem Rep.pla (h : Rep σ f z) {r : Nat} (hr : r < σ 0) : f 1 r = nI (oR σ r 1) := (h.2.2.2.1 r hr).2.1
theorem Rep.val (h : Rep σ f z) {r : Nat} (hr : r < σ 0) : f 2 r = nI (oR σ r 2) := (h.2.2.2.1 r hr).2.2.1
theorem Rep.sec (h : Rep σ f z) {r : Nat} (hr : r < σ 0) : f 3 r = nI (oR σ r 3) := (h.2.2.2.1 r hr).2.2.2
theorem Rep.rank (h : Rep σ f z) {p : Nat} (hp : p < 5) : f 4 p = nI (oP σ p 0) := (h.2.2.2.2.1 p hp).1
theorem Rep.home (h : Rep σ f z) {p : Nat} (hp : p < 5) : f 5 p = nI (oP σ p 1) := (h.2.2.2.2.1 p hp).2.1
theorem Rep.master (h : Rep σ f z) {p : Nat} (hp : p < 5) : f 6 p = mI (oP σ p 2) := (h.2.2.2.2.1 p hp).2.2.1
theorem Rep.asked (h : Rep σ f z) {p : Nat} (hp : p < 5) : f 9 p = nI (oP σ p 3) := (h.2.2.2.2.1 p hp).2.2.2.1
theorem Rep.refused (h : Rep σ f z) {p : Nat} (hp : p < 5) : f 10 p = nI (oP σ p 4) := (h.2.2.2.2.1 p hp).2.2.2.2
theorem Rep.kept (h : Rep σ f z) {p : Nat} (hp : p < 5) : f 8 p = nI (oK σ p) := (h.2.2.2.2.2.1 p hp).1
theorem Rep.mask (h : Rep σ f z) {p k : Nat} (hp : p < 5) (hk : k < oK σ p) : f 7 (p * 6 + k) = nI (oM σ p k) := (h.2.2.2.2.2.1 p hp).2 k hk
theorem Rep.set (h : Rep σ f z) {i : Nat} (hi : i < 3) : f 11 i = nI (σ (2 + i)) := h.2.2.2.2.2.2 i hi
end RP
/-- a set of places below n, as a number -/
def bset (p : Nat → Bool) : Nat → Nat
  | 0 => 0
  | n + 1 => bset p n + (if p n then 2 ^ n else 0)
theorem bset_lt (p : Nat → Bool) : ∀ n, bset p n < 2 ^ n
  | 0 => Nat.zero_lt_one
  | n + 1 => by
    have := bset_lt p n
    show bset p n + _ < _
    rw [Nat.pow_succ]
    split <;> omega
theorem bset_t {p : Nat → Bool} {n : Nat} (h : p n = true) : bset p (n + 1) = bset p n + 2 ^ n := by show bset p n + _ = _; rw [h]; rfl
theorem bset_f {p : Nat → Bool} {n : Nat} (h : p n = false) : bset p (n + 1) = bset p n := by show bset p n + _ = _; rw [h]; rfl
theorem bset_cong {p q : Nat → Bool} : ∀ {n : Nat}, (∀ k, k < n → p k = q k) → bset p n = bset q n
  | 0, _ => rfl
  | n + 1, h => by
    show bset p n + _ = bset q n + _
    rw [bset_cong (fun k hk => h k (by omega)), h n (by omega)]
theorem bset_bit (p : Nat → Bool) : ∀ (n k : Nat), (bset p n).testBit k = (decide (k < n) && p k)
  | 0, k => by show Nat.testBit 0 k = _; simp
  | n + 1, k => by
    have ih := bset_bit p n
    have hlt := bset_lt p n
    cases hp : p n with
    | false =>
      rw [bset_f hp, ih]
      by_cases e : k = n
      · subst e; simp [hp]
      · have : (k < n + 1) = (k < n) := by apply propext; omega
        simp only [this]
    | true =>
      rw [bset_t hp]
      rcases Nat.lt_trichotomy k n with q | q | q
      · rw [show bset p n + 2 ^ n = 2 ^ n * 1 + bset p n by omega, Nat.testBit_two_pow_mul_add _ hlt, if_pos q, ih]
        have : (k < n + 1) = (k < n) := by apply propext; omega
        simp only [this]
      · subst q
        rw [show bset p k + 2 ^ k = 2 ^ k * 1 + bset p k by omega, Nat.testBit_two_pow_mul_add _ hlt, if_neg (by omega)]
        simp [hp]
      · rw [show bset p n + 2 ^ n = 2 ^ n * 1 + bset p n by omega, Nat.testBit_two_pow_mul_add _ hlt, if_neg (by omega)]
        have h1 : (1 : Nat).testBit (k - n) = false := by
          apply Nat.testBit_lt_two_pow
          have : 2 ^ 1 ≤ 2 ^ (k - n) := Nat.pow_le_pow_right (by decide) (by omega)
          omega
        rw [h1]
        simp; omega
theorem nI_or (a b : Nat) : nI a ||| nI b = nI (a ||| b) := by
  apply Int32.toBitVec_inj.mp
  show BitVec.ofNat 32 a ||| BitVec.ofNat 32 b = BitVec.ofNat 32 (a ||| b)
  exact (BitVec.ofNat_or).symm
theorem nI_and (a b : Nat) : nI a &&& nI b = nI (a &&& b) := by
  apply Int32.toBitVec_inj.mp
  show BitVec.ofNat 32 a &&& BitVec.ofNat 32 b = BitVec.ofNat 32 (a &&& b)
  exact (BitVec.ofNat_and).symm
theorem nI_xor (a b : Nat) : nI a ^^^ nI b = nI (a ^^^ b) := by
  apply Int32.toBitVec_inj.mp
  show BitVec.ofNat 32 a ^^^ BitVec.ofNat 32 b = BitVec.ofNat 32 (a ^^^ b)
  exact (BitVec.ofNat_xor).symm
theorem bset_or {p : Nat → Bool} {n : Nat} (h : p n = true) : bset p n ||| 2 ^ n = bset p (n + 1) := by
  rw [bset_t h]
  have := Nat.two_pow_add_eq_or_of_lt (bset_lt p n) 1
  rw [Nat.mul_one] at this
  rw [Nat.or_comm, ← this, Nat.add_comm]
theorem bo_t {p : Nat → Bool} {k : Nat} (h : p k = true) : nI (bset p k) ||| nI (2 ^ k) = nI (bset p (k + 1)) := by rw [nI_or, bset_or h]
theorem bo_f {p : Nat → Bool} {k : Nat} (h : p k = false) : nI (bset p k) = nI (bset p (k + 1)) := by rw [bset_f h]
theorem sh1 {k : Nat} (h : k < 31) : nI 1 <<< (nI k &&& 31) = nI (2 ^ k) := by
  have : ∀ k, k < 31 → nI 1 <<< (nI k &&& 31) = nI (2 ^ k) := by decide
  exact this k h
theorem bo_s {p : Nat → Bool} {k : Nat} (hk : k < 31) (h : p k = true) : nI (bset p k) ||| (nI 1 <<< (nI k &&& 31)) = nI (bset p (k + 1)) := by rw [sh1 hk, bo_t h]
/-- is a row veiled from an asker by a rule, if that is in force, and if it isn't the asker's own -/
def vm (σ : Nat → Nat) (a r : Nat) : Nat → Bool
  | 0 => decide (oP σ a 0 < oR σ r 3)
  | 1 => decide (2 ≤ oR σ r 3) && decide (¬ oR σ r 1 = oP σ a 1)
  | 2 => decide (90 ≤ oR σ r 2)
  | _ => decide (oR σ r 3 = 3) && (decide (oP σ (oR σ r 0) 2 = a + 1) || (decide (¬ oP σ (oR σ r 0) 2 = 0) && decide (oP σ (oP σ (oR σ r 0) 2 - 1) 2 = a + 1)))
theorem vm0_iff {σ : Nat → Nat} {a r : Nat} : vm σ a r 0 = true ↔ oP σ a 0 < oR σ r 3 := by simp [vm]
theorem vm1_iff {σ : Nat → Nat} {a r : Nat} : vm σ a r 1 = true ↔ 2 ≤ oR σ r 3 ∧ ¬ oR σ r 1 = oP σ a 1 := by simp [vm]
theorem vm2_iff {σ : Nat → Nat} {a r : Nat} : vm σ a r 2 = true ↔ 90 ≤ oR σ r 2 := by simp [vm]
theorem vm3_iff {σ : Nat → Nat} {a r : Nat} : vm σ a r 3 = true ↔ oR σ r 3 = 3 ∧ (oP σ (oR σ r 0) 2 = a + 1 ∨ (¬ oP σ (oR σ r 0) 2 = 0 ∧ oP σ (oP σ (oR σ r 0) 2 - 1) 2 = a + 1)) := by
  simp only [vm, Bool.and_eq_true, Bool.or_eq_true, decide_eq_true_eq]
/-- the rules in force by which a row is veiled, as a mask -/
def vmk (σ : Nat → Nat) (a r : Nat) : Nat := if oR σ r 0 = a then 0 else bset (vm σ a r) 4 &&& σ 1
theorem vmk_lt (σ : Nat → Nat) (a r : Nat) : vmk σ a r < 16 := by
  unfold vmk
  split
  · decide
  · exact Nat.lt_of_le_of_lt Nat.and_le_left (bset_lt _ 4)
theorem vmk_own {σ : Nat → Nat} {a r : Nat} (h : oR σ r 0 = a) : vmk σ a r = 0 := if_pos h
theorem vmk_ne {σ : Nat → Nat} {a r : Nat} (h : ¬ oR σ r 0 = a) : vmk σ a r = bset (vm σ a r) 4 &&& σ 1 := if_neg h
/-- the master's master, as the class has it -/
def mmI (σ : Nat → Nat) (o : Nat) : Int32 := if oP σ o 2 = 0 then -1 else mI (oP σ (oP σ o 2 - 1) 2)
theorem mI_pos {k : Nat} (h : ¬ k = 0) : mI k = nI (k - 1) := by
  obtain ⟨j, rfl⟩ : ∃ j, k = j + 1 := ⟨k - 1, by omega⟩
  exact mI_s j
theorem nI_m1 {a : Nat} (h : a < 5) : ¬ nI a = -1 := by
  have : ∀ j : Nat, j < 5 → ¬ nI j = -1 := by decide
  exact this a h
theorem mm_eq {σ : Nat → Nat} {o a : Nat} (ha : a < 5) (h1 : oP σ o 2 ≤ 5) (h2 : ∀ p, p < 5 → oP σ p 2 ≤ 5) : nI a = mmI σ o ↔ ¬ oP σ o 2 = 0 ∧ oP σ (oP σ o 2 - 1) 2 = a + 1 := by
  unfold mmI
  by_cases e : oP σ o 2 = 0
  · rw [if_pos e]
    exact ⟨fun q => absurd q (nI_m1 ha), fun q => absurd e q.1⟩
  · rw [if_neg e, mI_eq (h2 _ (by omega)) ha]
    exact ⟨fun q => ⟨e, q⟩, fun q => q.2⟩
/-- the rows of a question -/
def skP (σ : Nat → Nat) (a : Nat) (pl : Int32) (lo hi : Nat) : Nat → Bool := fun r => mtch pl (oR σ r 1) (oR σ r 2) lo hi && decide (vmk σ a r = 0)
def seenQ (σ : Nat → Nat) (a : Nat) (pl : Int32) (lo hi : Nat) : Nat := bset (skP σ a pl lo hi) (σ 0)
def sAll (σ : Nat → Nat) (a : Nat) : Nat := seenQ σ a (-1) 0 99
theorem skP_t {σ : Nat → Nat} {a : Nat} {pl : Int32} {lo hi r : Nat} (h : mtch pl (oR σ r 1) (oR σ r 2) lo hi = true) (h2 : vmk σ a r = 0) : skP σ a pl lo hi r = true := by unfold skP; rw [h, decide_eq_true h2]; rfl
theorem skP_f1 {σ : Nat → Nat} {a : Nat} {pl : Int32} {lo hi r : Nat} (h : mtch pl (oR σ r 1) (oR σ r 2) lo hi = false) : skP σ a pl lo hi r = false := by unfold skP; rw [h]; rfl
theorem skP_f2 {σ : Nat → Nat} {a : Nat} {pl : Int32} {lo hi r : Nat} (h2 : ¬ vmk σ a r = 0) : skP σ a pl lo hi r = false := by unfold skP; rw [decide_eq_false h2, Bool.and_false]
theorem seenQ_lt {σ : Nat → Nat} (hI : Inv σ) (a : Nat) (pl : Int32) (lo hi : Nat) : seenQ σ a pl lo hi < 65536 :=
  Nat.lt_of_lt_of_le (bset_lt _ _) (show 2 ^ σ 0 ≤ 2 ^ 16 from Nat.pow_le_pow_right (by decide) hI.n)
/-- how many bits of 16 are set -/
def ones (x : Nat) : Nat := cnt (fun k => x.testBit k) 16
theorem ones_le (x : Nat) : ones x ≤ 16 := cnt_le _ 16
theorem ones_bset (p : Nat → Bool) {n : Nat} (hn : n ≤ 16) : ones (bset p n) = cnt p n := by
  unfold ones
  have key : ∀ m, cnt (fun k => (bset p n).testBit k) (n + m) = cnt p n := by
    intro m
    induction m with
    | zero => exact cnt_cong (fun k hk => by show (bset p n).testBit k = p k; rw [bset_bit, decide_eq_true (show k < n from hk), Bool.true_and])
    | succ m ih =>
      rw [← Nat.add_assoc, cnt_f, ih]
      show (bset p n).testBit (n + m) = false
      rw [bset_bit, decide_eq_false (by omega), Bool.false_and]
  have := key (16 - n)
  rwa [show n + (16 - n) = 16 by omega] at this
theorem onN_cnt (x : Nat) : ∀ n, onN x n = cnt (fun k => x.testBit k) n
  | 0 => rfl
  | n + 1 => by
    show onN x n + Nat.land (Nat.shiftRight x n) 1 = _
    rw [onN_cnt x n]
    show _ = cnt _ n + _
    congr 1
    have h1 : Nat.land (Nat.shiftRight x n) 1 = (x >>> n) % 2 := by
      show (x >>> n) &&& 1 = _
      exact Nat.and_one_is_mod _
    rw [h1]
    simp only [Nat.testBit, Nat.one_and_eq_mod_two]
    rcases Nat.mod_two_eq_zero_or_one (x >>> n) with q | q <;> simp [q]
theorem bcN_ones {x : Nat} (h : x < 65536) : bcN x = ones x := (bcN_on h).trans (onN_cnt x 16)
theorem us_n {n : Nat} (hn : n < 2 ^ 32) (k : Nat) (hs : (((nI k).toUInt32 &&& Int32.toUInt32 31).toBitVec % 32).toNat = k) : us (nI n) (nI k) = nI (Nat.shiftRight n k) := by
  unfold us
  rw [pk_ushrN hn (nI k) k hs]
  show nI (n / 2 ^ k) = nI (n >>> k)
  rw [Nat.shiftRight_eq_div_pow]
theorem land_le' (a b : Nat) : Nat.land a b ≤ a := Nat.and_le_left
theorem shr_le (a k : Nat) : Nat.shiftRight a k ≤ a := by
  show a >>> k ≤ a
  rw [Nat.shiftRight_eq_div_pow]; exact Nat.div_le_self _ _
theorem bcI_n {x : Nat} (h : x < 65536) : bcI (nI x) = nI (bcN x) := by
  obtain ⟨a, ha⟩ : ∃ a, a = x - Nat.land (Nat.shiftRight x 1) 1431655765 := ⟨_, rfl⟩
  obtain ⟨b, hb⟩ : ∃ b, b = Nat.land a 858993459 + Nat.land (Nat.shiftRight a 2) 858993459 := ⟨_, rfl⟩
  obtain ⟨c, hc⟩ : ∃ c, c = Nat.land (b + Nat.shiftRight b 4) 252645135 := ⟨_, rfl⟩
  obtain ⟨d, hd⟩ : ∃ d, d = c + Nat.shiftRight c 8 := ⟨_, rfl⟩
  obtain ⟨e, he⟩ : ∃ e, e = d + Nat.shiftRight d 16 := ⟨_, rfl⟩
  have la : a < 65536 := by omega
  have lb : b < 2 * 65536 := by
    have h1 := land_le' a 858993459
    have h2 := land_le' (Nat.shiftRight a 2) 858993459
    have h3 := shr_le a 2
    omega
  have lc : c < 4 * 65536 := by
    have h1 := land_le' (b + Nat.shiftRight b 4) 252645135
    have h3 := shr_le b 4
    omega
  have ld : d < 8 * 65536 := by
    have h3 := shr_le c 8
    omega
  have e1 : bc1 (nI x) = nI a := by
    unfold bc1
    rw [us_n (by omega) 1 (by decide), show (1431655765 : Int32) = nI 1431655765 from rfl, nI_and, ha]
    exact pk_sub (Nat.le_trans (land_le' _ _) (shr_le _ _))
  have e2 : bc2 (nI x) = nI b := by
    unfold bc2
    rw [e1, us_n (by omega) 2 (by decide), show (858993459 : Int32) = nI 858993459 from rfl, nI_and, nI_and, nI_add, hb]; rfl
  have e3 : bc3 (nI x) = nI c := by
    unfold bc3
    rw [e2, us_n (by omega) 4 (by decide), show (252645135 : Int32) = nI 252645135 from rfl, nI_add, nI_and, hc]; rfl
  have e4 : bc4 (nI x) = nI d := by
    unfold bc4
    rw [e3, us_n (by omega) 8 (by decide), nI_add, hd]
  have e5 : bc5 (nI x) = nI e := by
    unfold bc5
    rw [e4, us_n (by omega) 16 (by decide), nI_add, he]
  unfold bcI
  rw [e5, nI_and, he, hd, hc, hb, ha]
  rfl
theorem bc_ones {x : Nat} (h : x < 65536) : bcI (nI x) = nI (ones x) := by rw [bcI_n h, bcN_ones h]
/-- would an answer give a row away -/
def gvS (σ : Nat → Nat) (p x : Nat) : Nat → Bool
  | 0 => false
  | k + 1 => gvS σ p x k || decide (ones (oM σ p k ^^^ x) = 1)
def givesQ (σ : Nat → Nat) (p x : Nat) : Bool := gvS σ p x (oK σ p)
theorem xor_lt {a b : Nat} (ha : a < 65536) (hb : b < 65536) : a ^^^ b < 65536 := Nat.xor_lt_two_pow (n := 16) ha hb
theorem gvI_S {σ : Nat → Nat} {f : Nat → Int32} {p x : Nat} (hx : x < 65536) : ∀ {n : Nat}, (∀ k, k < n → f (p * 6 + k) = nI (oM σ p k) ∧ oM σ p k < 65536) → gvI f p (nI x) n = gvS σ p x n
  | 0, _ => rfl
  | n + 1, h => by
    show (gvI f p (nI x) n || _) = (gvS σ p x n || _)
    rw [gvI_S hx (fun k hk => h k (by omega)), (h n (by omega)).1, nI_xor, bc_ones (xor_lt (h n (by omega)).2 hx)]
    congr 1
    have := ones_le (oM σ p n ^^^ x)
    apply decide_eq_decide.mpr
    exact nI_eq (by omega) (by decide)
def small (σ : Nat → Nat) (x : Nat) : Bool := decide (¬ x = 0) && decide (ones x < σ 2)
def cRef (σ : Nat → Nat) (p x : Nat) : Bool := small σ x || (decide (σ 4 = 1) && givesQ σ p x)
/-- what a count is told as -/
def cAns (σ : Nat → Nat) (p x : Nat) : Int32 := if cRef σ p x = true then -1 else nI (ones x - ones x % σ 3)
/-- sums over the rows of a set -/
def sumS (σ : Nat → Nat) (x : Nat) : Nat → Nat
  | 0 => 0
  | k + 1 => sumS σ x k + (if x.testBit k then oR σ k 2 else 0)
def topS (σ : Nat → Nat) (x : Nat) : Nat → Nat
  | 0 => 0
  | k + 1 => max (topS σ x k) (if x.testBit k then oR σ k 2 else 0)
theorem sumS_le {σ : Nat → Nat} (hI : Inv σ) (x : Nat) : ∀ {n : Nat}, n ≤ σ 0 → sumS σ x n ≤ n * 99
  | 0, _ => Nat.zero_le _
  | n + 1, h => by
    have h1 := sumS_le hI x (n := n) (by omega)
    have h2 := (hI.row (r := n) (by omega)).2.2.1
    show sumS σ x n + _ ≤ _
    split <;> omega
theorem topS_le {σ : Nat → Nat} (hI : Inv σ) (x : Nat) : ∀ {n : Nat}, n ≤ σ 0 → topS σ x n ≤ 99
  | 0, _ => Nat.zero_le _
  | n + 1, h => by
    have h1 := topS_le hI x (n := n) (by omega)
    have h2 := (hI.row (r := n) (by omega)).2.2.1
    show max _ _ ≤ _
    split <;> omega
def sAns (σ : Nat → Nat) (x : Nat) : Int32 := if small σ x = true ∨ sumS σ x (σ 0) < 2 * topS σ x (σ 0) then -1 else nI (sumS σ x (σ 0))
/-- rows of a place, or of all, with a value in a range -/
def rowQ (σ : Nat → Nat) (pl : Int32) (lo hi : Nat) : Nat → Bool := fun r => mtch pl (oR σ r 1) (oR σ r 2) lo hi
def rowM (σ : Nat → Nat) (pl : Int32) (lo hi : Nat) : Nat := cnt (rowQ σ pl lo hi) (σ 0)
/-- the first n below 10, from k on, with a quotient alike -/
def needF (x y : Nat) : Nat → Nat → Int32
  | 0, _ => -1
  | d + 1, k => if x / k = y / k then nI k else needF x y d (k + 1)
def needQ (σ : Nat → Nat) (a : Nat) (pl : Int32) : Int32 := needF (rowM σ pl 0 99) (ones (seenQ σ a pl 0 99)) 9 1
def seers (σ : Nat → Nat) (r : Nat) : Nat := bset (fun p => decide (vmk σ p r = 0)) 5
/-- pairs of a person and a row with a property, persons first -/
def prsR (P : Nat → Nat → Bool) (n : Nat) : Nat → Nat
  | 0 => 0
  | p + 1 => prsR P n p + cnt (P p) n
/-- the same, rows first -/
def prsC (P : Nat → Nat → Bool) (k : Nat) : Nat → Nat
  | 0 => 0
  | r + 1 => prsC P k r + cnt (fun p => P p r) k
theorem prsC_0 (P : Nat → Nat → Bool) : ∀ n, prsC P 0 n = 0
  | 0 => rfl
  | n + 1 => by show prsC P 0 n + 0 = 0; rw [prsC_0 P n]
theorem prsC_s (P : Nat → Nat → Bool) (k : Nat) : ∀ n, prsC P (k + 1) n = prsC P k n + cnt (P k) n
  | 0 => rfl
  | n + 1 => by
    show prsC P (k + 1) n + (cnt (fun p => P p n) k + (if P k n then 1 else 0)) = (prsC P k n + cnt (fun p => P p n) k) + (cnt (P k) n + (if P k n then 1 else 0))
    rw [prsC_s P k n]; omega
theorem prs_RC (P : Nat → Nat → Bool) (n : Nat) : ∀ k, prsR P n k = prsC P k n
  | 0 => (prsC_0 P n).symm
  | k + 1 => by
    show prsR P n k + cnt (P k) n = _
    rw [prs_RC P n k, prsC_s]
def hidQ (σ : Nat → Nat) (rule : Nat) : Nat := prsR (fun p r => decide (vmk σ p r = 2 ^ rule)) (σ 0) 5
def seenN (σ : Nat → Nat) (p : Nat) : Nat := ones (sAll σ p)
/-- who sees fewest, of the first k -/
def blF (g : Nat → Nat) : Nat → Nat
  | 0 => 0
  | k + 1 => if k = 0 then 0 else if g k < g (blF g k) then k else blF g k
def pairS (σ : Nat → Nat) : Nat → Nat
  | 0 => 0
  | k + 1 => pairS σ k + seenN σ k
theorem shr_n {x k : Nat} (hx : x < 2 ^ 31) (hk : k < 32) : nI x >>> (nI k &&& 31) = nI (x >>> k) := by
  have hs : ∀ k, k < 32 → ((nI k &&& 31).toBitVec.smod 32).toNat = k := by decide
  rw [pk_shrN hx _ k (hs k hk), Nat.shiftRight_eq_div_pow]
theorem max_n {a b : Nat} (ha : a < 2 ^ 31) (hb : b < 2 ^ 31) : (if nI a < nI b then nI b else nI a) = nI (max a b) := by
  by_cases h : a < b
  · rw [if_pos ((nI_ltI ha hb).mpr h), Nat.max_eq_right (by omega)]
  · rw [if_neg (fun q => h ((nI_ltI ha hb).mp q)), Nat.max_eq_left (by omega)]
theorem tb_t {x k : Nat} (h : (x >>> k) % 2 = 1) : x.testBit k = true := by
  simp only [Nat.testBit, Nat.one_and_eq_mod_two]; rw [h]; rfl
theorem tb_f {x k : Nat} (h : ¬ (x >>> k) % 2 = 1) : x.testBit k = false := by
  simp only [Nat.testBit, Nat.one_and_eq_mod_two]
  rw [show (x >>> k) % 2 = 0 from by rcases Nat.mod_two_eq_zero_or_one (x >>> k) with q | q; exact q; exact absurd q h]; rfl
theorem needF_s {x y k : Nat} (hk : k < 10) (h : ¬ x / k = y / k) : needF x y (10 - k) k = needF x y (10 - (k + 1)) (k + 1) := by
  rw [show 10 - k = (10 - (k + 1)) + 1 from by omega]
  exact if_neg h
theorem needF_t {x y k : Nat} (hk : k < 10) (h : x / k = y / k) : needF x y (10 - k) k = nI k := by
  rw [show 10 - k = (10 - (k + 1)) + 1 from by omega]
  exact if_pos h
theorem dm_k (y k : Nat) : y - y % k = k * (y / k) := by
  have := Nat.mod_add_div y k
  omega
theorem dm_c {x y k : Nat} (h : x / k = y / k) : y - y % k = x - x % k := by rw [dm_k, dm_k, h]
theorem dm_d {x y k : Nat} (hk : 0 < k) (h : y - y % k = x - x % k) : x / k = y / k := by
  rw [dm_k, dm_k] at h
  exact (Nat.eq_of_mul_eq_mul_left hk h).symm
def rowN (σ : Nat → Nat) (r w : Nat) : Nat := if w = 4 then seers σ r else oR σ r w
def perN (σ : Nat → Nat) (p w : Nat) : Int32 := match w with
  | 0 => nI (oP σ p 0)
  | 1 => nI (oP σ p 1)
  | 2 => mI (oP σ p 2)
  | 3 => nI (ones (sAll σ p))
  | 4 => nI (sAll σ p)
  | 5 => nI (oK σ p)
  | 6 => nI (oP σ p 3)
  | _ => nI (oP σ p 4)
def fwF (g : Nat → Nat) (k : Nat) : Nat := if k = 0 then 17 else g (blF g k)
theorem fwF_le {g : Nat → Nat} (h : ∀ p, g p ≤ 16) (k : Nat) : fwF g k ≤ 17 := by
  unfold fwF; split
  · exact Nat.le_refl _
  · exact Nat.le_trans (h _) (by decide)
theorem blF_s (g : Nat → Nat) (k : Nat) : blF g (k + 1) = if k = 0 then 0 else if g k < g (blF g k) then k else blF g k := rfl
theorem bl_t {g : Nat → Nat} {k : Nat} (h : ¬ fwF g k ≤ g k) : blF g (k + 1) = k := by
  rw [blF_s]; unfold fwF at h
  by_cases e : k = 0
  · rw [if_pos e]; exact e.symm
  · rw [if_neg e] at h ⊢; rw [if_pos (by omega)]
theorem bl_f {g : Nat → Nat} {k : Nat} (h : fwF g k ≤ g k) (hg : g k ≤ 16) : blF g (k + 1) = blF g k := by
  rw [blF_s]; unfold fwF at h
  by_cases e : k = 0
  · rw [if_pos e] at h; omega
  · rw [if_neg e] at h ⊢; rw [if_neg (by omega)]
theorem fw_t {g : Nat → Nat} {k : Nat} (h : ¬ fwF g k ≤ g k) : fwF g (k + 1) = g k := by
  have : fwF g (k + 1) = g (blF g (k + 1)) := if_neg (by omega)
  rw [this, bl_t h]
theorem fw_f {g : Nat → Nat} {k : Nat} (h : fwF g k ≤ g k) (hg : g k ≤ 16) : fwF g (k + 1) = fwF g k := by
  have e1 : fwF g (k + 1) = g (blF g (k + 1)) := if_neg (by omega)
  have e2 : fwF g k = g (blF g k) := by
    apply if_neg
    intro e
    unfold fwF at h; rw [if_pos e] at h; omega
  rw [e1, e2, bl_f h hg]
theorem pairS_le (σ : Nat → Nat) : ∀ k, pairS σ k ≤ k * 16
  | 0 => Nat.le_refl _
  | k + 1 => by
    have h1 := pairS_le σ k
    have h2 := ones_le (sAll σ k)
    show pairS σ k + ones (sAll σ k) ≤ _
    omega
def shr (n s : Nat) : UInt64 := FP.ddiv (FP.i2d (nI s)) (FP.i2d (nI (n * 5)))
def shareQ (σ : Nat → Nat) : UInt64 := if σ 0 = 0 then 4607182418800017408 else shr (σ 0) (pairS σ 5)
theorem share_all : allb (fun n => allb (fun s => Nat.ble ((shr (n + 1) s &&& 0x7fffffffffffffff).toNat) 0x7ff0000000000000) 81) 16 = true := by decide +kernel
theorem share_ok {n s : Nat} (h1 : 0 < n) (hn : n ≤ 16) (hs : s ≤ 5 * 16) : vf_n64 (FP.ddiv (FP.i2d (nI s)) (FP.i2d (nI (n * 5)))) := by
  have h2 := allb_spec (allb_spec share_all (n - 1) (by omega)) s (by omega)
  rw [show n - 1 + 1 = n by omega] at h2
  exact UInt64.le_iff_toNat_le.mpr (Nat.le_of_ble_eq_true h2)
