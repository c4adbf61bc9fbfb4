/-! The JDK's bitCount, on 16 bits: by trial of all. -/
/-- the JDK's way to count, over numbers -/
def bcN (x : Nat) : Nat :=
  let a := x - (Nat.land (Nat.shiftRight x 1) 1431655765)
  let b := (Nat.land a 858993459) + (Nat.land (Nat.shiftRight a 2) 858993459)
  let c := Nat.land (b + Nat.shiftRight b 4) 252645135
  let d := c + Nat.shiftRight c 8
  let e := d + Nat.shiftRight d 16
  Nat.land e 63
def onN (x : Nat) : Nat → Nat
  | 0 => 0
  | n + 1 => onN x n + Nat.land (Nat.shiftRight x n) 1
def allb (p : Nat → Bool) : Nat → Bool
  | 0 => true
  | n + 1 => p n && allb p n
theorem allb_spec {p : Nat → Bool} : ∀ {n : Nat}, allb p n = true → ∀ k, k < n → p k = true
  | 0, _, k, h => absurd h (Nat.not_lt_zero k)
  | n + 1, q, k, h => by
    have q' : (p n && allb p n) = true := q
    rw [Bool.and_eq_true] at q'
    rcases Nat.lt_or_ge k n with r | r
    · exact allb_spec q'.2 k r
    · rw [show k = n by omega]; exact q'.1
def bcC (h : Nat) : Bool := allb (fun m => allb (fun l => Nat.beq (bcN (h * 4096 + (m * 64 + l))) (onN (h * 4096 + (m * 64 + l)) 16)) 64) 64
theorem bcN_c0 : bcC 0 = true := by decide +kernel
theorem bcN_c1 : bcC 1 = true := by decide +kernel
theorem bcN_c2 : bcC 2 = true := by decide +kernel
theorem bcN_c3 : bcC 3 = true := by decide +kernel
theorem bcN_c4 : bcC 4 = true := by decide +kernel
theorem bcN_c5 : bcC 5 = true := by decide +kernel
theorem bcN_c6 : bcC 6 = true := by decide +kernel
theorem bcN_c7 : bcC 7 = true := by decide +kernel
theorem bcN_c8 : bcC 8 = true := by decide +kernel
theorem bcN_c9 : bcC 9 = true := by decide +kernel
theorem bcN_c10 : bcC 10 = true := by decide +kernel
theorem bcN_c11 : bcC 11 = true := by decide +kernel
theorem bcN_c12 : bcC 12 = true := by decide +kernel
theorem bcN_c13 : bcC 13 = true := by decide +kernel
theorem bcN_c14 : bcC 14 = true := by decide +kernel
theorem bcN_c15 : bcC 15 = true := by decide +kernel
theorem bcN_on {x : Nat} (h : x < 65536) : bcN x = onN x 16 := by
  have key : ∀ q, q < 16 → bcC q = true := by
    intro q hq
    rcases (by omega : q = 0 ∨ q = 1 ∨ q = 2 ∨ q = 3 ∨ q = 4 ∨ q = 5 ∨ q = 6 ∨ q = 7 ∨ q = 8 ∨ q = 9 ∨ q = 10 ∨ q = 11 ∨ q = 12 ∨ q = 13 ∨ q = 14 ∨ q = 15) with rfl | rfl | rfl | rfl | rfl | rfl | rfl | rfl | rfl | rfl | rfl | rfl | rfl | rfl | rfl | rfl
    · exact bcN_c0
    · exact bcN_c1
    · exact bcN_c2
    · exact bcN_c3
    · exact bcN_c4
    · exact bcN_c5
    · exact bcN_c6
    · exact bcN_c7
    · exact bcN_c8
    · exact bcN_c9
    · exact bcN_c10
    · exact bcN_c11
    · exact bcN_c12
    · exact bcN_c13
    · exact bcN_c14
    · exact bcN_c15
  have h1 := allb_spec (allb_spec (key (x / 4096) (by omega)) (x % 4096 / 64) (by omega)) (x % 64) (by omega)
  rw [show x / 4096 * 4096 + (x % 4096 / 64 * 64 + x % 64) = x by omega] at h1
  exact Nat.eq_of_beq_eq_true h1
