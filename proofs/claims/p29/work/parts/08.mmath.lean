/-! For the reference: its cells and small facts. -/
/-- the reference's array holds the state -/
def RepM (σ : Nat → Nat) (g : Nat → Int32) : Prop := ∀ i, i < 130 → g i = nI (σ i)
def inI (x lo hi : Int32) : Bool := decide (lo ≤ x) && decide (x ≤ hi)
theorem inI_t' {x lo hi : Int32} : inI x lo hi = true ↔ lo ≤ x ∧ x ≤ hi := by unfold inI; simp only [Bool.and_eq_true, decide_eq_true_eq]
theorem inI_t {x lo hi : Int32} (h : lo ≤ x ∧ x ≤ hi) : inI x lo hi = true := inI_t'.mpr h
theorem in_nl {x lo : Int32} (h : ¬ x < lo) : lo ≤ x := Int32.not_lt.mp h
theorem in_ng {x hi : Int32} (h : ¬ hi < x) : x ≤ hi := Int32.not_lt.mp h
theorem in_l {x lo : Int32} (h : x < lo) : ¬ lo ≤ x := Int32.not_le.mpr h
theorem in_g {x hi : Int32} (h : hi < x) : ¬ x ≤ hi := Int32.not_le.mpr h
theorem inI_n {v lo hi : Nat} (hv : v < 2 ^ 31) (hl : lo < 2 ^ 31) (hh : hi < 2 ^ 31) : inI (nI v) (nI lo) (nI hi) = (decide (lo ≤ v) && decide (v ≤ hi)) := by
  unfold inI
  rw [decide_eq_decide.mpr (nI_leI hl hv), decide_eq_decide.mpr (nI_leI hv hh)]
def movQ (σ : Nat → Nat) (a o : Nat) : Bool := decide (oP σ o 2 = a + 1) || (decide (¬ oP σ o 2 = 0) && decide (oP σ (oP σ o 2 - 1) 2 = a + 1))
theorem movQ_iff {σ : Nat → Nat} {a o : Nat} : movQ σ a o = true ↔ oP σ o 2 = a + 1 ∨ (¬ oP σ o 2 = 0 ∧ oP σ (oP σ o 2 - 1) 2 = a + 1) := by
  unfold movQ; simp only [Bool.and_eq_true, Bool.or_eq_true, decide_eq_true_eq]
theorem movQ_eq {σ : Nat → Nat} {a o : Nat} : movQ σ a o = decide (oP σ o 2 = a + 1 ∨ (¬ oP σ o 2 = 0 ∧ oP σ (oP σ o 2 - 1) 2 = a + 1)) := by
  apply Bool.eq_iff_iff.mpr; rw [movQ_iff, decide_eq_true_eq]
def pvQ (σ : Nat → Nat) (a r : Nat) : Nat → Bool := fun k => (σ 1).testBit k && vm σ a r k
theorem bo_z {p : Nat → Bool} {k : Nat} (h : p k = false) : nI (bset p k) ||| nI 0 = nI (bset p (k + 1)) := by
  rw [nI_or, Nat.or_zero, bset_f h]
theorem bset_and (p q : Nat → Bool) (n : Nat) : bset p n &&& bset q n = bset (fun k => p k && q k) n := by
  apply Nat.eq_of_testBit_eq
  intro i
  rw [Nat.testBit_and, bset_bit, bset_bit, bset_bit]
  cases decide (i < n) <;> simp
theorem pv_and {σ : Nat → Nat} {a r : Nat} (hu : σ 1 < 16) : bset (pvQ σ a r) 4 = bset (vm σ a r) 4 &&& σ 1 := by
  apply Nat.eq_of_testBit_eq
  intro i
  rw [Nat.testBit_and, bset_bit, bset_bit]
  unfold pvQ
  cases decide (i < 4) <;> simp [Bool.and_comm]
theorem cnt_bit (x k : Nat) : cnt (fun j => x.testBit j) k + (x >>> k) % 2 = cnt (fun j => x.testBit j) (k + 1) := by
  rcases Nat.mod_two_eq_zero_or_one (x >>> k) with q | q
  · rw [q, cnt_f (p := fun j => x.testBit j) (tb_f (by omega))]; rfl
  · rw [q, cnt_t (p := fun j => x.testBit j) (tb_t q)]
theorem sAll_b {σ : Nat → Nat} (hI : Inv σ) {a : Nat} : sAll σ a = bset (fun r => decide (vmk σ a r = 0)) (σ 0) := by
  unfold sAll seenQ
  apply bset_cong
  intro k hk
  have h := hI.row hk
  unfold skP
  rw [mtch_iff.mpr ⟨Or.inl rfl, Nat.zero_le _, by omega⟩]; rfl
theorem cnt_0 {p : Nat → Bool} : ∀ {n : Nat}, cnt p n = 0 ↔ ∀ k, k < n → p k = false
  | 0 => ⟨fun _ k h => absurd h (Nat.not_lt_zero k), fun _ => rfl⟩
  | n + 1 => by
    cases h : p n with
    | true =>
      rw [cnt_t h]
      exact ⟨fun q => absurd q (by omega), fun q => by rw [q n (by omega)] at h; cases h⟩
    | false =>
      rw [cnt_f h, cnt_0]
      exact ⟨fun q k hk => by rcases Nat.lt_or_ge k n with r | r; exact q k r; rw [show k = n by omega]; exact h, fun q k hk => q k (by omega)⟩
theorem ones_pos {x : Nat} (h : x < 65536) : 0 < ones x ↔ ¬ x = 0 := by
  constructor
  · intro q e
    subst e
    have : ones 0 = 0 := by decide
    omega
  · intro q
    refine Nat.pos_of_ne_zero (fun e => q ?_)
    have h1 := cnt_0.mp e
    apply Nat.eq_of_testBit_eq
    intro i
    rw [Nat.zero_testBit]
    rcases Nat.lt_or_ge i 16 with r | r
    · exact h1 i r
    · exact Nat.testBit_lt_two_pow (Nat.lt_of_lt_of_le h (show 2 ^ 16 ≤ 2 ^ i from Nat.pow_le_pow_right (by decide) r))
/-- pairs that are veiled -/
def pvP (σ : Nat → Nat) : Nat → Nat → Bool := fun p r => decide (¬ vmk σ p r = 0)
def p1P (σ : Nat → Nat) (rule : Nat) : Nat → Nat → Bool := fun p r => decide (vmk σ p r = 2 ^ rule)
def veilN (σ : Nat → Nat) : Nat := prsC (pvP σ) 5 (σ 0)
theorem hid_C (σ : Nat → Nat) (rule : Nat) : hidQ σ rule = prsC (p1P σ rule) 5 (σ 0) := prs_RC _ _ _
theorem vmk_bit {σ : Nat → Nat} {p r rule : Nat} (h : (σ 1).testBit rule = false) : ¬ vmk σ p r = 2 ^ rule := by
  intro e
  have h1 : (vmk σ p r).testBit rule = false := by
    unfold vmk; split
    · exact Nat.zero_testBit _
    · rw [Nat.testBit_and, h, Bool.and_false]
  rw [e, Nat.testBit_two_pow_self] at h1
  cases h1
theorem prsC_none {P : Nat → Nat → Bool} (h : ∀ p r, P p r = false) (k : Nat) : ∀ n, prsC P k n = 0
  | 0 => rfl
  | n + 1 => by
    show prsC P k n + cnt (fun p => P p n) k = 0
    rw [prsC_none h k n, cnt_0.mpr (fun q _ => h q n)]
theorem hid_0 {σ : Nat → Nat} {rule : Nat} (h : (σ 1).testBit rule = false) : hidQ σ rule = 0 := by
  rw [hid_C]
  exact prsC_none (fun p r => decide_eq_false (vmk_bit h)) 5 _
theorem cnt_not (p q : Nat → Bool) (h : ∀ k, q k = !p k) : ∀ n, cnt p n + cnt q n = n
  | 0 => rfl
  | n + 1 => by
    have ih := cnt_not p q h n
    cases e : p n with
    | true => rw [cnt_t e, cnt_f (by rw [h, e]; rfl)]; omega
    | false => rw [cnt_f e, cnt_t (by rw [h, e]; rfl)]; omega
theorem seenN_cnt {σ : Nat → Nat} (hI : Inv σ) (p : Nat) : ones (sAll σ p) = cnt (fun r => decide (vmk σ p r = 0)) (σ 0) := by
  rw [sAll_b hI, ones_bset _ hI.n]
theorem pairS_R {σ : Nat → Nat} (hI : Inv σ) : ∀ k, prsR (pvP σ) (σ 0) k + pairS σ k = σ 0 * k
  | 0 => rfl
  | k + 1 => by
    have ih := pairS_R hI k
    show (prsR (pvP σ) (σ 0) k + cnt (pvP σ k) (σ 0)) + (pairS σ k + ones (sAll σ k)) = _
    rw [seenN_cnt hI]
    have h2 := cnt_not (fun r => decide (vmk σ k r = 0)) (pvP σ k) (fun r => by unfold pvP; rw [decide_not]) (σ 0)
    rw [Nat.mul_succ]; omega
theorem veil_pair {σ : Nat → Nat} (hI : Inv σ) : veilN σ + pairS σ 5 = σ 0 * 5 := by
  unfold veilN; rw [← prs_RC]; exact pairS_R hI 5
/-- sums over the persons -/
def sumP (σ : Nat → Nat) (w : Nat) : Nat → Nat
  | 0 => 0
  | k + 1 => sumP σ w k + oP σ k w
def cntQ (σ : Nat → Nat) (c : Int32) (w : Nat) : Int32 := if w < 5 then nI (σ w) else if w < 7 then nI (sumP σ (w - 2) 5) else if w = 7 then nI (σ 5) else if w = 8 then nI (veilN σ) else c
def wouQ (σ : Nat → Nat) (p : Nat) (pl : Int32) (lo hi w : Nat) : Int32 := match w with
  | 0 => cAns σ p (seenQ σ p pl lo hi)
  | 1 => sAns σ (seenQ σ p pl lo hi)
  | 2 => bI (givesQ σ p (seenQ σ p pl lo hi))
  | _ => nI (rowM σ pl lo hi)
theorem rowM_ones {σ : Nat → Nat} (hI : Inv σ) (pl : Int32) (lo hi : Nat) : ones (bset (rowQ σ pl lo hi) (σ 0)) = rowM σ pl lo hi := ones_bset _ hI.n
theorem blF_lt (g : Nat → Nat) : ∀ {k : Nat}, 1 ≤ k → blF g k < k
  | 0, h => absurd h (by omega)
  | k + 1, _ => by
    rw [blF_s]
    by_cases e : k = 0
    · rw [if_pos e]; omega
    · rw [if_neg e]
      have := blF_lt g (k := k) (by omega)
      split <;> omega
theorem bl_lt {g : Nat → Nat} {k : Nat} (h : 1 ≤ k) (h2 : g k < g (blF g k)) : blF g (k + 1) = k := by rw [blF_s, if_neg (by omega), if_pos h2]
theorem bl_ge {g : Nat → Nat} {k : Nat} (h : 1 ≤ k) (h2 : g (blF g k) ≤ g k) : blF g (k + 1) = blF g k := by rw [blF_s, if_neg (by omega), if_neg (by omega)]
theorem bI_if (b : Bool) : bI b = if b = true then nI 1 else nI 0 := rfl
