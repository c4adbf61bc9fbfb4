/-! What the law asks of a state, as numbers. -/
theorem bitq {p : Nat → Bool} {n k : Nat} (hk : k < n) (hn : n ≤ 16) : ((nI (bset p n) >>> (nI k &&& 31)) &&& nI 1) = nI 1 ↔ p k = true := by
  have hlt : bset p n < 2 ^ 31 := Nat.lt_of_lt_of_le (bset_lt p n) (Nat.pow_le_pow_right (by decide) (by omega))
  have h1 : bset p n >>> k &&& 1 = (bset p n >>> k) % 2 := Nat.and_one_is_mod _
  have hm : (bset p n >>> k) % 2 < 2 := Nat.mod_lt _ (by decide)
  rw [shr_n hlt (by omega), nI_and, h1, nI_eq (by omega) (by decide)]
  have hb := bset_bit p n k
  rw [decide_eq_true hk, Bool.true_and] at hb
  constructor
  · intro q
    rw [tb_t q] at hb
    exact hb.symm
  · intro q
    rcases Nat.mod_two_eq_zero_or_one (bset p n >>> k) with e | e
    · rw [tb_f (by omega), q] at hb; cases hb
    · exact e
section HN
variable {σ : Nat → Nat} {a k : Nat}
theorem is_a (hI : Inv σ) (hk : k < σ 0) : ((nI (sAll σ a) >>> (nI k &&& 31)) &&& nI 1) = nI 1 ↔ decide (vmk σ a k = 0) = true := by
  rw [sAll_b hI]
  exact bitq (p := fun r => decide (vmk σ a r = 0)) hk hI.n
theorem is_s (ha : a < 5) : ((nI (seers σ k) >>> (nI a &&& 31)) &&& nI 1) = nI 1 ↔ decide (vmk σ a k = 0) = true :=
  bitq (p := fun p => decide (vmk σ p k = 0)) (n := 5) ha (by decide)
theorem is_o {x y : Nat} (hx : x < 2 ^ 31) (hy : y < 2 ^ 31) : nI x = nI y ↔ decide (x = y) = true := (nI_eq hx hy).trans decide_eq_true_iff.symm
theorem plz {j : Nat} (h : j < 5) : (nI j - nI 1 < 0 ↔ nI j - nI 1 = -1) := (show ∀ j : Nat, j < 5 → (nI j - nI 1 < 0 ↔ nI j - nI 1 = -1) by decide) j h
theorem sk_t1 {j lo : Nat} (hI : Inv σ) (hk : k < σ 0) (hv : decide (vmk σ a k = 0) = true) (hj : j < 5) (hpl : nI j - nI 1 < 0) (hlo : lo ≤ oR σ k 2) : skP σ a (nI j - nI 1) lo 99 k = true :=
  skP_t (mtch_iff.mpr ⟨Or.inl ((plz hj).mp hpl), hlo, by have := (hI.row hk).2.2.1; omega⟩) (of_decide_eq_true hv)
theorem sk_t2 {lo : Nat} {pl : Int32} (hI : Inv σ) (hk : k < σ 0) (hv : decide (vmk σ a k = 0) = true) (hpl : nI (oR σ k 1) = pl) (hlo : lo ≤ oR σ k 2) : skP σ a pl lo 99 k = true :=
  skP_t (mtch_iff.mpr ⟨Or.inr hpl, hlo, by have := (hI.row hk).2.2.1; omega⟩) (of_decide_eq_true hv)
theorem sk_f0 {lo : Nat} {pl : Int32} (hv : decide (vmk σ a k = 0) = false) : skP σ a pl lo 99 k = false := skP_f2 (of_decide_eq_false hv)
theorem sk_f1 {j lo : Nat} (hj : j < 5) (hpl : ¬ nI j - nI 1 < 0) (hne : ¬ nI (oR σ k 1) = nI j - nI 1) : skP σ a (nI j - nI 1) lo 99 k = false :=
  skP_f1 (Bool.eq_false_iff.mpr (fun h => by
    rcases (mtch_iff.mp h).1 with q | q
    · exact hpl ((plz hj).mpr q)
    · exact hne q))
theorem sk_f2 {lo : Nat} {pl : Int32} (h : oR σ k 2 < lo) : skP σ a pl lo 99 k = false :=
  skP_f1 (Bool.eq_false_iff.mpr (fun q => by have := (mtch_iff.mp q).2.1; omega))
theorem vor (σ : Nat → Nat) (a k : Nat) : nI (vmk σ a k) ||| nI (σ 1) = nI (σ 1) := by
  rw [nI_or]
  congr 1
  unfold vmk
  split
  · exact Nat.zero_or _
  · apply Nat.eq_of_testBit_eq
    intro i
    rw [Nat.testBit_or, Nat.testBit_and]
    cases (σ 1).testBit i <;> simp
theorem cnt_mono {p q : Nat → Bool} (h : ∀ k, p k = true → q k = true) : ∀ n, cnt p n ≤ cnt q n
  | 0 => Nat.le_refl _
  | n + 1 => by
    have ih := cnt_mono h n
    cases e : p n with
    | true => rw [cnt_t e, cnt_t (h n e)]; omega
    | false =>
      rw [cnt_f e]
      cases e2 : q n with
      | true => rw [cnt_t e2]; omega
      | false => rw [cnt_f e2]; exact ih
theorem seen_cnt (hI : Inv σ) (pl : Int32) (lo hi : Nat) : cnt (skP σ a pl lo hi) (σ 0) = ones (seenQ σ a pl lo hi) := (ones_bset _ hI.n).symm
theorem rowM_ge (hI : Inv σ) (pl : Int32) (lo hi : Nat) : ones (seenQ σ a pl lo hi) ≤ rowM σ pl lo hi := by
  rw [← seen_cnt hI]
  exact cnt_mono (fun k h => by
    have h : (mtch pl (oR σ k 1) (oR σ k 2) lo hi && decide (vmk σ a k = 0)) = true := h
    rw [Bool.and_eq_true] at h
    exact h.1) _
theorem rowM_le (hI : Inv σ) (pl : Int32) (lo hi : Nat) : rowM σ pl lo hi ≤ 16 := Nat.le_trans (cnt_le _ _) hI.n
theorem sums_le {n : Nat} (hG : GI n σ) : ∀ {j : Nat}, j ≤ 5 → sumP σ 4 j ≤ sumP σ 3 j ∧ sumP σ 3 j ≤ n * j
  | 0, _ => ⟨Nat.le_refl _, Nat.zero_le _⟩
  | j + 1, hj => by
    have h1 := sums_le hG (j := j) (by omega)
    have h2 := hG.1 j (by omega)
    show sumP σ 4 j + oP σ j 4 ≤ sumP σ 3 j + oP σ j 3 ∧ sumP σ 3 j + oP σ j 3 ≤ n * (j + 1)
    rw [Nat.mul_succ]
    omega
theorem cnt4 {A B C D Q : Nat → Bool} (h : ∀ k, (if A k = true then 1 else 0) + (if B k = true then 1 else 0) + (if C k = true then 1 else 0) + (if D k = true then 1 else 0) ≤ (if Q k = true then 1 else 0)) : ∀ n, cnt A n + cnt B n + cnt C n + cnt D n ≤ cnt Q n
  | 0 => Nat.le_refl _
  | n + 1 => by
    have ih := cnt4 h n
    have hn := h n
    show (cnt A n + (if A n = true then 1 else 0)) + (cnt B n + (if B n = true then 1 else 0)) + (cnt C n + (if C n = true then 1 else 0)) + (cnt D n + (if D n = true then 1 else 0)) ≤ cnt Q n + (if Q n = true then 1 else 0)
    omega
theorem prs4 {A B C D Q : Nat → Nat → Bool} (h : ∀ p k, (if A p k = true then 1 else 0) + (if B p k = true then 1 else 0) + (if C p k = true then 1 else 0) + (if D p k = true then 1 else 0) ≤ (if Q p k = true then 1 else 0)) (n : Nat) : ∀ p, prsR A n p + prsR B n p + prsR C n p + prsR D n p ≤ prsR Q n p
  | 0 => Nat.le_refl _
  | p + 1 => by
    have ih := prs4 h n p
    have hn := cnt4 (h p) n
    show (prsR A n p + cnt (A p) n) + (prsR B n p + cnt (B p) n) + (prsR C n p + cnt (C p) n) + (prsR D n p + cnt (D p) n) ≤ prsR Q n p + cnt (Q p) n
    omega
theorem one4 (x : Nat) : (if decide (x = 2 ^ 0) = true then 1 else 0) + (if decide (x = 2 ^ 1) = true then 1 else 0) + (if decide (x = 2 ^ 2) = true then 1 else 0) + (if decide (x = 2 ^ 3) = true then 1 else 0) ≤ (if decide (¬ x = 0) = true then 1 else 0) := by
  simp only [decide_eq_true_eq]
  repeat' split
  all_goals omega
theorem hid_le (σ : Nat → Nat) : hidQ σ 0 + hidQ σ 1 + hidQ σ 2 + hidQ σ 3 ≤ veilN σ := by
  unfold veilN
  rw [← prs_RC]
  exact prs4 (A := fun p r => decide (vmk σ p r = 2 ^ 0)) (B := fun p r => decide (vmk σ p r = 2 ^ 1)) (C := fun p r => decide (vmk σ p r = 2 ^ 2)) (D := fun p r => decide (vmk σ p r = 2 ^ 3)) (Q := pvP σ) (fun p r => one4 (vmk σ p r)) (σ 0) 5
theorem m1_lt {j : Nat} (h : j < 2 ^ 31) : (-1 : Int32) < nI j := Int32.lt_iff_toInt_lt.mpr (by rw [nI_toInt h, show (-1 : Int32).toInt = -1 by decide]; omega)
theorem m1_ne {j : Nat} (h : j < 2 ^ 31) : ¬ nI j = -1 := fun q => by
  have h1 := m1_lt h
  rw [q] at h1
  exact absurd h1 (by decide)
theorem rem_b {n : Nat} (hI : Inv σ) (hG : GI n σ) (hk : k < 5) : remV σ k 0 < nI (2 ^ σ 0) := by
  have hp : 2 ^ σ 0 ≤ 2 ^ 16 := Nat.pow_le_pow_right (by decide) hI.n
  unfold remV
  split
  · rename_i h
    have h2 := hG.2 k hk 0 h
    exact (nI_ltI (by omega) (by omega)).mpr h2
  · exact m1_lt (by omega)
theorem rem_l (hI : Inv σ) (hk : k < 5) (h : ¬ oK σ k ≤ 0) : ¬ remV σ k (oK σ k - 1) = -1 := by
  unfold remV
  rw [if_pos (by omega)]
  have := hI.mask hk (k := oK σ k - 1) (by omega)
  exact m1_ne (by omega)
theorem rem_n : remV σ k (oK σ k) = -1 := if_neg (Nat.lt_irrefl _)
theorem told_v {p x : Nat} (h : ¬ cAns σ p x = -1) : cAns σ p x = nI (ones x - ones x % σ 3) := by
  unfold cAns at h ⊢
  split
  · rename_i q; rw [if_pos q] at h; exact absurd rfl h
  · rfl
theorem shr_all : allb (fun n => allb (fun s => (!Nat.ble s ((n + 1) * 5)) || (decide (¬ Op.cmpValue (FP.dcmp (shr (n + 1) s) 0) .l < 0) && decide (¬ 0 < Op.cmpValue (FP.dcmp (shr (n + 1) s) 4607182418800017408) .g))) 81) 16 = true := by decide +kernel
theorem shr_in {n s : Nat} (h1 : 0 < n) (hn : n ≤ 16) (hs : s ≤ n * 5) : ¬ Op.cmpValue (FP.dcmp (shr n s) 0) .l < 0 ∧ ¬ 0 < Op.cmpValue (FP.dcmp (shr n s) 4607182418800017408) .g := by
  have h2 := allb_spec (allb_spec shr_all (n - 1) (by omega)) s (by omega)
  rw [show n - 1 + 1 = n by omega] at h2
  have h3 : Nat.ble s (n * 5) = true := Nat.ble_eq_true_of_le hs
  simp only [h3, Bool.not_true, Bool.false_or, Bool.and_eq_true, decide_eq_true_eq] at h2
  exact h2
theorem share_in (hI : Inv σ) : ¬ Op.cmpValue (FP.dcmp (shareQ σ) 0) .l < 0 ∧ ¬ 0 < Op.cmpValue (FP.dcmp (shareQ σ) 4607182418800017408) .g := by
  unfold shareQ
  split
  · decide +kernel
  · have hv := veil_pair hI
    exact shr_in (by omega) hI.n (by omega)
theorem sh_1 (hI : Inv σ) : nI 1 <<< (nI (σ 0) &&& 31) = nI (2 ^ σ 0) := sh1 (by have := hI.n; omega)
end HN
