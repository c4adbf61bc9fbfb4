/-! RowVeils' own helpers and looks. -/
theorem sumI_P {σ : Nat → Nat} {g : Nat → Int32} {w : Nat} (h : ∀ p, p < 5 → g p = nI (oP σ p w)) : ∀ {n : Nat}, n ≤ 5 → sumI g n = nI (sumP σ w n)
  | 0, _ => rfl
  | n + 1, hn => by
    show sumI g n + g n = nI (sumP σ w n + oP σ n w)
    rw [sumI_P h (by omega), h n (by omega), nI_add]
/-- a number in a range is a small one -/
theorem in_small {x : Int32} {n : Nat} (hn : n < 2 ^ 31) (h : inI x (nI 0) (nI n) = true) : ∃ j, j ≤ n ∧ x = nI j := by
  obtain ⟨h1, h2⟩ := inI_t'.mp h
  have h3 : ¬ x < 0 := Int32.not_lt.mpr h1
  exact nI_of2 (M := nI n) (nI_toInt hn) h3 h2
theorem in_lt {x : Int32} {n : Nat} (hn : n < 2 ^ 31) (h : inI x (nI 0) (nI n) = true) : ∃ j, j < n + 1 ∧ x = nI j := by
  obtain ⟨j, h1, h2⟩ := in_small hn h
  exact ⟨j, by omega, h2⟩
theorem in_row {x : Int32} {n : Nat} (hn : n ≤ 16) (h : inI x (nI 0) (nI n - nI 1) = true) : ∃ j, j < n ∧ x = nI j := by
  rcases Nat.eq_zero_or_pos n with e | e
  · subst e
    obtain ⟨h1, h2⟩ := inI_t'.mp h
    have h3 : ¬ x < 0 := Int32.not_lt.mpr h1
    obtain ⟨j, hj, rfl⟩ := nI_of h3
    exfalso
    have h4 : (nI j).toInt ≤ (nI 0 - nI 1).toInt := Int32.le_iff_toInt_le.mp h2
    rw [nI_toInt hj] at h4
    have h5 : (nI 0 - nI 1).toInt = -1 := by decide
    omega
  · rw [pk_sub (by omega)] at h
    obtain ⟨j, h1, h2⟩ := in_small (by omega) h
    exact ⟨j, by omega, h2⟩
def plQ (x : Int32) : Bool := decide (x = -1) || inI x (nI 0) (nI 3)
/-- what a question throws: 0 nothing, 1 no such asker or place, 2 a range -/
def qCode (p pl lo hi : Int32) : Nat := if (inI p (nI 0) (nI 4) && plQ pl) = false then 1 else if (inI lo (nI 0) (nI 99) && inI hi lo (nI 99)) = false then 2 else 0
theorem qCode_ok {p pl lo hi : Int32} (h : qCode p pl lo hi = 0) : ∃ a l h2 : Nat, a < 5 ∧ l ≤ 99 ∧ l ≤ h2 ∧ h2 ≤ 99 ∧ p = nI a ∧ plQ pl = true ∧ lo = nI l ∧ hi = nI h2 := by
  unfold qCode at h
  split at h
  · cases h
  · split at h
    · cases h
    · rename_i h1 h2
      have h1' := (Bool.not_eq_false _).mp h1
      have h2' := (Bool.not_eq_false _).mp h2
      rw [Bool.and_eq_true] at h1' h2'
      obtain ⟨a, ha, rfl⟩ := in_small (by decide) h1'.1
      obtain ⟨l, hl, rfl⟩ := in_small (by decide) h2'.1
      obtain ⟨q1, q2⟩ := inI_t'.mp h2'.2
      have q3 : ¬ hi < 0 := fun z => by
        have h5 : (nI 0).toInt ≤ (nI l).toInt := by rw [nI_toInt (by decide), nI_toInt (by omega)]; omega
        have h6 := Int32.le_iff_toInt_le.mp q1
        have h7 := Int32.lt_iff_toInt_lt.mp z
        have h8 : (0 : Int32).toInt = 0 := by decide
        rw [nI_toInt (by omega)] at h6
        omega
      obtain ⟨k, hk, rfl⟩ := nI_of2 (M := nI 99) (nI_toInt (by decide)) q3 q2
      exact ⟨a, l, k, by omega, hl, (nI_leI (by omega) (by omega)).mp q1, hk, rfl, h1'.2, rfl, rfl⟩
