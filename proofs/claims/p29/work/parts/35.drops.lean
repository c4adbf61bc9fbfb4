/-! Dropped rows; rows out of a text. -/
/-- a mask without a place -/
def tkN (q x : Nat) : Nat := (x &&& (2 ^ q - 1)) ||| ((x >>> (q + 1)) <<< q)
theorem shl_le (q x : Nat) : (x >>> (q + 1)) <<< q ≤ x := by
  rw [Nat.shiftLeft_eq, Nat.shiftRight_eq_div_pow]
  refine Nat.le_trans (Nat.mul_le_mul_left _ (Nat.pow_le_pow_right (by decide) (Nat.le_succ q))) (Nat.div_mul_le_self x (2 ^ (q + 1)))
theorem tkN_lt {q x : Nat} (h : x < 65536) : tkN q x < 65536 := by
  unfold tkN
  exact Nat.or_lt_two_pow (n := 16) (Nat.lt_of_le_of_lt Nat.and_le_left h) (Nat.lt_of_le_of_lt (shl_le q x) h)
theorem tk_bits {q x : Nat} (h : x < 65536) (hq : q < 16) : (x >>> 1) &&& ((2 ^ q - 1) ^^^ (2 ^ 32 - 1)) = (x >>> (q + 1)) <<< q := by
  apply Nat.eq_of_testBit_eq
  intro i
  rw [Nat.testBit_and, Nat.testBit_xor, Nat.testBit_two_pow_sub_one, Nat.testBit_two_pow_sub_one, Nat.testBit_shiftRight, Nat.testBit_shiftLeft, Nat.testBit_shiftRight]
  by_cases c : i < q
  · have h1 : i < 32 := by omega
    have h2 : ¬ i ≥ q := by omega
    simp [c, h1, h2]
  · by_cases d : i < 32
    · have h2 : i ≥ q := by omega
      simp only [c, d, h2, decide_true, decide_false, Bool.true_and]
      rw [show q + 1 + (i - q) = 1 + i by omega]
      simp
    · have h2 : i ≥ q := by omega
      have hx : x.testBit (1 + i) = false := Nat.testBit_lt_two_pow (Nat.lt_of_lt_of_le h (show 2 ^ 16 ≤ 2 ^ (1 + i) from Nat.pow_le_pow_right (by decide) (by omega)))
      rw [show q + 1 + (i - q) = 1 + i by omega, hx]
      simp
theorem tk_n {q x : Nat} (h : x < 65536) (hq : q < 16) : tkI (tkb q) (nI x) = nI (tkN q x) := by
  have hb : tkb q = nI (2 ^ q - 1) := by
    unfold tkb
    rw [sh1 (by omega), pk_sub (Nat.one_le_two_pow)]
  unfold tkI
  rw [hb, nI_and, show (-1 : Int32) = nI (2 ^ 32 - 1) from rfl, nI_xor, show (nI 1 &&& 31) = nI 1 &&& 31 from rfl, shr_n (by omega) (by decide), nI_and, nI_or, tk_bits h hq]
  rfl
section DS
variable {σ τ : Nat → Nat} {f : Nat → Nat → Int32} {z : Nat → Int32}
def drpS (σ : Nat → Nat) (q : Nat) : Nat → Nat := fun j => if j = 0 then σ 0 - 1 else if j < 6 then σ j else if j < 70 then (if j < 6 + 4 * q then σ j else if j < 6 + 4 * (σ 0 - 1) then σ (j + 4) else if j < 6 + 4 * σ 0 then 0 else σ j) else if j < 95 then σ j else if (j - 95) % 7 = 0 then σ j else if (j - 96) % 7 < σ (95 + 7 * ((j - 95) / 7)) then tkN q (σ j) else σ j
theorem drp_e {q j : Nat} (h : (0 < j ∧ j < 6) ∨ (70 ≤ j ∧ j < 95)) : drpS σ q j = σ j := by
  unfold drpS
  rcases h with h | h
  · rw [if_neg (by omega), if_pos h.2]
  · rw [if_neg (by omega), if_neg (by omega), if_neg (by omega), if_pos h.2]
theorem drp_r {q r w : Nat} (h0 : σ 0 ≤ 16) (hq : q < σ 0) (hr : r < σ 0 - 1) (hw : w < 4) : oR (drpS σ q) r w = if r < q then oR σ r w else oR σ (r + 1) w := by
  show drpS σ q (6 + 4 * r + w) = _
  unfold drpS
  rw [if_neg (by omega), if_neg (by omega), if_pos (by omega)]
  by_cases c : r < q
  · rw [if_pos (by omega), if_pos c]; rfl
  · rw [if_neg (by omega), if_pos (by omega), if_neg c]
    show σ _ = σ _
    congr 1; omega
theorem drp_K {q p : Nat} (hp : p < 5) : oK (drpS σ q) p = oK σ p := by
  show drpS σ q (95 + 7 * p) = _
  unfold drpS
  rw [if_neg (by omega), if_neg (by omega), if_neg (by omega), if_neg (by omega), if_pos (by omega)]; rfl
theorem drp_M {q p k : Nat} (hp : p < 5) (hk : k < oK σ p) (h6 : oK σ p ≤ 6) : oM (drpS σ q) p k = tkN q (oM σ p k) := by
  show drpS σ q (96 + 7 * p + k) = _
  unfold drpS
  rw [if_neg (by omega), if_neg (by omega), if_neg (by omega), if_neg (by omega), if_neg (by omega)]
  rw [show (96 + 7 * p + k - 96) % 7 = k by omega, show (96 + 7 * p + k - 95) / 7 = p by omega]
  exact if_pos hk
theorem drp_I (hI : Inv σ) {q : Nat} (hq : q < σ 0) : Inv (drpS σ q) := by
  have hn := hI.n
  have e0 : drpS σ q 0 = σ 0 - 1 := rfl
  refine ⟨by rw [e0]; omega, by rw [drp_e (by omega)]; exact hI.rules, by rw [drp_e (by omega)]; exact hI.least, by rw [drp_e (by omega)]; exact hI.coarse, by rw [drp_e (by omega)]; exact hI.diff, fun r hr => ?_, persI (fun j _ _ => drp_e (by omega)) hI, fun p hp => ?_⟩
  · rw [e0] at hr
    rw [drp_r hn hq hr (by omega), drp_r hn hq hr (by omega), drp_r hn hq hr (by omega), drp_r hn hq hr (by omega)]
    by_cases c : r < q
    · rw [if_pos c, if_pos c, if_pos c, if_pos c]; exact hI.row (by omega)
    · rw [if_neg c, if_neg c, if_neg c, if_neg c]; exact hI.row (by omega)
  · rw [drp_K hp]
    refine ⟨hI.kept hp, fun k hk => ?_⟩
    rw [drp_M hp hk (hI.kept hp)]
    exact tkN_lt (hI.mask hp hk)
def drpF (f : Nat → Nat → Int32) (n q : Nat) : Nat → Nat → Int32 := va_up (va_up (va_up (va_up (va_up f 0 (gapk (f 0) q (n - 1))) 1 (gapk (f 1) q (n - 1))) 2 (gapk (f 2) q (n - 1))) 3 (gapk (f 3) q (n - 1))) 7 (tkk (tkb q) (f 7) 30)
theorem gap_at {g : Nat → Int32} {q n r : Nat} (hr : r < n) : gapk g q n r = if r < q then g r else g (r + 1) := by
  unfold gapk
  by_cases c : r < q
  · rw [if_neg (by omega), if_pos c]
  · rw [if_pos (by omega), if_neg c]
theorem drp_R (hR : Rep σ f z) (hI : Inv σ) {q : Nat} (hq : q < σ 0) : Rep (drpS σ q) (drpF f (σ 0) q) (va_up z 0 (nI (σ 0 - 1))) := by
  have hn := hI.n
  have e0 : drpS σ q 0 = σ 0 - 1 := rfl
  have hP := persR (τ := drpS σ q) (fun j _ _ => drp_e (by omega)) hR
  refine ⟨rfl, by rw [drp_e (by omega)]; exact hR.rules, by rw [drp_e (by omega)]; exact hR.given, fun r hr => ?_, hP, fun p hp => ?_, fun i hi => setsR (fun j _ _ => drp_e (by omega)) hR i hi⟩
  · rw [e0] at hr
    show gapk (f 0) q (σ 0 - 1) r = _ ∧ gapk (f 1) q (σ 0 - 1) r = _ ∧ gapk (f 2) q (σ 0 - 1) r = _ ∧ gapk (f 3) q (σ 0 - 1) r = _
    rw [drp_r hn hq hr (by omega), drp_r hn hq hr (by omega), drp_r hn hq hr (by omega), drp_r hn hq hr (by omega), gap_at hr, gap_at hr, gap_at hr, gap_at hr]
    by_cases c : r < q
    · simp only [if_pos c]; exact ⟨hR.own (by omega), hR.pla (by omega), hR.val (by omega), hR.sec (by omega)⟩
    · simp only [if_neg c]; exact ⟨hR.own (by omega), hR.pla (by omega), hR.val (by omega), hR.sec (by omega)⟩
  · show f 8 p = _ ∧ ∀ k, k < _ → tkk (tkb q) (f 7) 30 (p * 6 + k) = _
    rw [drp_K hp]
    refine ⟨hR.kept hp, fun k hk => ?_⟩
    have h6 := hI.kept hp
    rw [drp_M hp hk h6]
    unfold tkk
    rw [if_pos (by omega), hR.mask hp hk]
    exact tk_n (hI.mask hp hk) (by omega)
/-- rows added, one behind another -/
def addN (σ : Nat → Nat) (T : Nat → Nat → Nat) : Nat → Nat → Nat
  | 0 => σ
  | k + 1 => rowS (addN σ T k) (T k 0) (T k 1) (T k 2) (T k 3)
theorem addN_0 (σ : Nat → Nat) (T : Nat → Nat → Nat) : ∀ k, addN σ T k 0 = σ 0 + k
  | 0 => rfl
  | k + 1 => by
    show addN σ T k 0 + 1 = _
    rw [addN_0 σ T k]; rfl
def adF (f : Nat → Nat → Int32) (n : Nat) (T : Nat → Nat → Nat) (k : Nat) : Nat → Nat → Int32 := va_up (va_up (va_up (va_up f 0 (adI (f 0) n T 0 k)) 1 (adI (f 1) n T 1 k)) 2 (adI (f 2) n T 2 k)) 3 (adI (f 3) n T 3 k)
theorem adF_s (f : Nat → Nat → Int32) (n : Nat) (T : Nat → Nat → Nat) (k : Nat) : rowF (adF f n T k) (n + k) (T k 0) (T k 1) (T k 2) (T k 3) = adF f n T (k + 1) := by
  have h0 : upd (adI (f 0) n T 0 k) (n + k) (nI (T k 0)) = adI (f 0) n T 0 (k + 1) := ad_s rfl
  have h1 : upd (adI (f 1) n T 1 k) (n + k) (nI (T k 1)) = adI (f 1) n T 1 (k + 1) := ad_s rfl
  have h2 : upd (adI (f 2) n T 2 k) (n + k) (nI (T k 2)) = adI (f 2) n T 2 (k + 1) := ad_s rfl
  have h3 : upd (adI (f 3) n T 3 k) (n + k) (nI (T k 3)) = adI (f 3) n T 3 (k + 1) := ad_s rfl
  funext i
  unfold rowF
  show va_up (va_up (va_up (va_up (adF f n T k) 0 (upd (adI (f 0) n T 0 k) (n + k) (nI (T k 0)))) 1 (upd (adI (f 1) n T 1 k) (n + k) (nI (T k 1)))) 2 (upd (adI (f 2) n T 2 k) (n + k) (nI (T k 2)))) 3 (upd (adI (f 3) n T 3 k) (n + k) (nI (T k 3))) i = _
  rw [h0, h1, h2, h3]
  unfold adF va_up
  by_cases c3 : i = 3
  · simp [c3]
  · by_cases c2 : i = 2
    · simp [c2]
    · by_cases c1 : i = 1
      · simp [c1]
      · by_cases c0 : i = 0
        · simp [c0]
        · simp [c0, c1, c2, c3]
theorem adF_0 (f : Nat → Nat → Int32) (n : Nat) (T : Nat → Nat → Nat) : adF f n T 0 = f := by
  funext i
  unfold adF va_up
  rw [ad_0, ad_0, ad_0, ad_0]
  by_cases c3 : i = 3
  · rw [if_pos c3, c3]
  · rw [if_neg c3]
    by_cases c2 : i = 2
    · rw [if_pos c2, c2]
    · rw [if_neg c2]
      by_cases c1 : i = 1
      · rw [if_pos c1, c1]
      · rw [if_neg c1]
        by_cases c0 : i = 0
        · rw [if_pos c0, c0]
        · rw [if_neg c0]
theorem va_up2 (z : Nat → Int32) (v w : Int32) : va_up (va_up z 0 v) 0 w = va_up z 0 w := by
  funext i; unfold va_up
  by_cases c : i = 0
  · rw [if_pos c, if_pos c]
  · rw [if_neg c, if_neg c, if_neg c]
theorem va_same {z : Nat → Int32} {v : Int32} (h : z 0 = v) : va_up z 0 v = z := by
  funext i; unfold va_up
  by_cases c : i = 0
  · rw [if_pos c, c, h]
  · rw [if_neg c]
theorem addN_ok (hR : Rep σ f z) (hI : Inv σ) {T : Nat → Nat → Nat} : ∀ {k : Nat}, σ 0 + k ≤ 16 → (∀ j, j < k → T j 0 < 5 ∧ T j 1 < 4 ∧ T j 2 < 100 ∧ T j 3 < 4) → Inv (addN σ T k) ∧ Rep (addN σ T k) (adF f (σ 0) T k) (va_up z 0 (nI (σ 0 + k)))
  | 0, _, _ => by
    rw [adF_0, va_same (by rw [hR.n]; rfl)]
    exact ⟨hI, hR⟩
  | k + 1, h, hT => by
    obtain ⟨h1, h2⟩ := addN_ok hR hI (T := T) (k := k) (by omega) (fun j hj => hT j (by omega))
    have e0 := addN_0 σ T k
    have t := hT k (by omega)
    have r1 := row_I (σ := addN σ T k) h1 (by omega) t.1 t.2.1 t.2.2.1 t.2.2.2
    have r2 := row_R (σ := addN σ T k) (o := T k 0) (p := T k 1) (v := T k 2) (w := T k 3) h2 h1 (by omega)
    rw [e0, adF_s, va_up2] at r2
    exact ⟨r1, r2⟩
end DS
