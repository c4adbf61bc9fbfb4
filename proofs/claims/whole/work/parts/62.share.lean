/-! The share that is seen is no less than a fifth. -/
theorem cnt_miss {p : Nat → Bool} : ∀ {n k : Nat}, k < n → p k = false → cnt p n + 1 ≤ n
  | 0, _, h, _ => absurd h (Nat.not_lt_zero _)
  | n + 1, k, h, hp => by
    by_cases e : k = n
    · rw [cnt_f (by rw [← e]; exact hp)]
      have := cnt_le p n
      omega
    · have h1 := cnt_miss (p := p) (n := n) (k := k) (by omega) hp
      show cnt p n + _ + 1 ≤ n + 1
      split <;> omega
theorem prsC_4 {σ : Nat → Nat} (hI : Inv σ) : ∀ {n : Nat}, n ≤ σ 0 → prsC (pvP σ) 5 n ≤ n * 4
  | 0, _ => Nat.zero_le _
  | n + 1, h => by
    have h1 := prsC_4 hI (n := n) (by omega)
    have h2 := cnt_miss (p := fun p => pvP σ p n) (n := 5) (k := oR σ n 0) (hI.row (by omega)).1 (by
      show decide (¬ vmk σ (oR σ n 0) n = 0) = false
      rw [vmk_own rfl]; rfl)
    show prsC (pvP σ) 5 n + cnt (fun p => pvP σ p n) 5 ≤ _
    omega
theorem pair_ge {σ : Nat → Nat} (hI : Inv σ) : σ 0 ≤ pairS σ 5 := by
  have h1 := veil_pair hI
  have h2 : veilN σ ≤ σ 0 * 4 := prsC_4 hI (Nat.le_refl _)
  omega
