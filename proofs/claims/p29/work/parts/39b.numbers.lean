/-! What the law speaks of, as numbers. -/
def lz_f (g : Nat → Int64) (h : Int64) : Nat → Int64
  | 0 => h
  | k + 1 => 31 * lz_f g h k + g k
def lz_C (σ : Nat → Nat) (k : Nat) : Int64 := (cntQ σ 0 k).toInt64
def lz_R (σ : Nat → Nat) (r k : Nat) : Int64 := (nI (rowN σ r k)).toInt64
def lz_P (σ : Nat → Nat) (p k : Nat) : Int64 := (perN σ p k).toInt64
def lz_M (σ : Nat → Nat) (p k : Nat) : Int64 := (remV σ p k).toInt64
def lz_rows (σ : Nat → Nat) (h : Int64) : Nat → Int64
  | 0 => h
  | k + 1 => lz_f (lz_R σ k) (lz_rows σ h k) 5
def lz_pers (σ : Nat → Nat) (h : Int64) : Nat → Int64
  | 0 => h
  | k + 1 => lz_f (lz_M σ k) (lz_f (lz_P σ k) (lz_pers σ h k) 8) 6
def lz_told (σ : Nat → Nat) : Int64 := lz_pers σ (lz_rows σ (lz_f (lz_C σ) 3 9) (σ 0)) 5
theorem cntQ_c {σ : Nat → Nat} {c d : Int32} {w : Nat} (h : w < 9) : cntQ σ c w = cntQ σ d w := by
  unfold cntQ
  by_cases h1 : w < 5
  · rw [if_pos h1, if_pos h1]
  · rw [if_neg h1, if_neg h1]
    by_cases h2 : w < 7
    · rw [if_pos h2, if_pos h2]
    · rw [if_neg h2, if_neg h2]
      by_cases h3 : w = 7
      · rw [if_pos h3, if_pos h3]
      · rw [if_neg h3, if_neg h3, if_pos (by omega), if_pos (by omega)]
/-! Calls with arguments in range are not refused. -/
theorem in0 {v hi : Nat} (h : v ≤ hi) (hh : hi < 2 ^ 31) : inI (nI v) (nI 0) (nI hi) = true := by
  rw [inI_n (by omega) (by decide) hh, decide_eq_true (Nat.zero_le _), decide_eq_true h]; rfl
theorem ir0 {k n : Nat} (h : k < n) (hn : n ≤ 16) : inI (nI k) (nI 0) (nI n - nI 1) = true := by
  rw [pk_sub (by omega)]; exact in0 (by omega) (by omega)
theorem co0 {w : Nat} (h : w < 10) : coC (nI w) = 0 := by unfold coC; rw [in0 (show w ≤ 9 by omega) (by decide)]; rfl
theorem rw0 {σ : Nat → Nat} {k w : Nat} (hk : k < σ 0) (hn : σ 0 ≤ 16) (h : w < 5) : rwC σ (nI k) (nI w) = 0 := by
  unfold rwC; rw [ir0 hk hn, in0 (show w ≤ 4 by omega) (by decide)]; rfl
theorem pe0 {k w : Nat} (hk : k < 5) (h : w < 8) : peC (nI k) (nI w) = 0 := by
  unfold peC; rw [in0 (show k ≤ 4 by omega) (by decide), in0 (show w ≤ 7 by omega) (by decide)]; rfl
theorem ve0 {σ : Nat → Nat} {k w : Nat} (hk : k < 5) (h : w < σ 0) (hn : σ 0 ≤ 16) : veC σ (nI k) (nI w) = 0 := by
  unfold veC; rw [in0 (show k ≤ 4 by omega) (by decide), ir0 h hn]; rfl
theorem re0 {k w : Nat} (hk : k < 5) (h : w < 2 ^ 31) : reC (nI k) (nI w) = 0 := by
  unfold reC; rw [in0 (show k ≤ 4 by omega) (by decide), if_neg (by decide), if_neg (nI_pos h)]
theorem plq0 {j : Nat} (h : j < 5) : plQ (nI j - nI 1) = true := (show ∀ j : Nat, j < 5 → plQ (nI j - nI 1) = true by decide) j h
theorem qc0 {a j lo hi : Nat} (ha : a < 5) (hj : j < 5) (hlo : lo ≤ hi) (hhi : hi ≤ 99) : qCode (nI a) (nI j - nI 1) (nI lo) (nI hi) = 0 := by
  unfold qCode
  rw [in0 (show a ≤ 4 by omega) (by decide), plq0 hj, in0 (show lo ≤ 99 by omega) (by decide), inI_n (by omega) (by omega) (by decide), decide_eq_true hlo, decide_eq_true hhi]; rfl
theorem if0 {a j lo hi w : Nat} (ha : a < 5) (hj : j < 5) (hlo : lo ≤ hi) (hhi : hi ≤ 99) (hw : w < 4) : ifC (nI a) (nI j - nI 1) (nI lo) (nI hi) (nI w) = 0 := by
  unfold ifC; rw [if_pos (qc0 ha hj hlo hhi), in0 (show w ≤ 3 by omega) (by decide)]; rfl
theorem hi0 {w : Nat} (h : w < 4) : hiC (nI w) = 0 := by unfold hiC; rw [in0 (show w ≤ 3 by omega) (by decide)]; rfl
theorem dr0 {σ : Nat → Nat} {k : Nat} (hk : k < σ 0) (hn : σ 0 ≤ 16) : drC σ (nI k) = 0 := by unfold drC; rw [ir0 hk hn]; rfl
theorem ch0 {σ : Nat → Nat} {k v : Nat} (hk : k < σ 0) (hn : σ 0 ≤ 16) (hv : v < 100) : chC σ (nI k) (nI v) = 0 := by
  unfold chC; rw [ir0 hk hn, in0 (show v ≤ 99 by omega) (by decide)]; rfl
theorem ps0 {p k h : Nat} (hp : p < 5) (hk : k < 4) (hh : h < 4) : psC (nI p) (nI k) (nI h) = 0 := by
  unfold psC; rw [in0 (show p ≤ 4 by omega) (by decide), in0 (show h ≤ 3 by omega) (by decide), in0 (show k ≤ 3 by omega) (by decide)]; rfl
theorem ma0 {p : Nat} (hp : p < 5) : maC (nI p) (-1) = 0 := (show ∀ p : Nat, p < 5 → maC (nI p) (-1) = 0 by decide) p hp
theorem ma1 {p q : Nat} (hp : p < 5) (hq : q < 5) (h : ¬ p = q) : maC (nI p) (nI q) = 0 := (show ∀ p : Nat, p < 5 → ∀ q : Nat, q < 5 → ¬ p = q → maC (nI p) (nI q) = 0 by decide) p hp q hq h
theorem fo0 {w : Nat} (h : w < 4) : foC (nI w) = 0 := by unfold foC; rw [in0 (show w ≤ 3 by omega) (by decide)]; rfl
theorem se0 {i v : Nat} (hi : i < 2) (h1 : 1 ≤ v) (h9 : v ≤ 9) : seC (nI i) (nI v) = 0 := (show ∀ i : Nat, i < 2 → ∀ v : Nat, v < 10 → 1 ≤ v → seC (nI i) (nI v) = 0 by decide) i hi v (by omega) h1
theorem se2 {v : Nat} (h : v ≤ 1) : seC (nI 2) (nI v) = 0 := (show ∀ v : Nat, v < 2 → seC (nI 2) (nI v) = 0 by decide) v (by omega)
theorem fg0 {p : Nat} (h : p < 5) : fgC (nI p) = 0 := by unfold fgC; rw [in0 (show p ≤ 4 by omega) (by decide)]; rfl
theorem ro0 {σ : Nat → Nat} {o a v w : Nat} (ho : o < 5) (ha : a < 4) (hv : v < 100) (hw : w < 4) (hn : ¬ σ 0 = 16) : roC σ (nI o) (nI a) (nI v) (nI w) = 0 := by
  unfold roC; rw [in0 (show o ≤ 4 by omega) (by decide), in0 (show a ≤ 3 by omega) (by decide), in0 (show v ≤ 99 by omega) (by decide), in0 (show w ≤ 3 by omega) (by decide)]
  rw [if_neg (by decide), if_neg (by decide), if_neg hn]
theorem un0 {sc : Nat} (h : ¬ sc = 0) : unC sc = 0 := if_neg h
/-! Numbers out of the script. -/
def andN (x : Int32) (M : Nat) : Nat := (x &&& nI M).toUInt32.toNat
theorem and_toI {x : Int32} (h : x.toUInt32.toNat < 2 ^ 31) : x.toInt = (x.toUInt32.toNat : Int) := BitVec.toInt_eq_toNat_of_lt (x := x.toBitVec) (by show 2 * x.toUInt32.toNat < 2 ^ 32; omega)
theorem andN_le (x : Int32) {M : Nat} (hM : M < 2 ^ 31) : andN x M ≤ M := by
  unfold andN
  have h : (x &&& nI M).toUInt32 = x.toUInt32 &&& (nI M).toUInt32 := rfl
  have h2 : (nI M).toUInt32.toNat = M := by
    show (BitVec.ofNat 32 M).toNat = M
    rw [BitVec.toNat_ofNat]; omega
  rw [h, UInt32.toNat_and, h2]
  exact Nat.and_le_right
theorem andN_e (x : Int32) {M : Nat} (hM : M < 2 ^ 31) : x &&& nI M = nI (andN x M) := by
  have h := andN_le x hM
  apply Int32.toInt_inj.mp
  rw [nI_toInt (by omega)]
  exact and_toI (Nat.lt_of_le_of_lt h hM)
def lowN (x : Int32) (n : Nat) : Nat := andN x 2147483647 % n
theorem lowN_lt (x : Int32) {n : Nat} (h : 0 < n) : lowN x n < n := Nat.mod_lt _ h
abbrev sr (x : Int32) (k : Nat) : Int32 := x >>> (nI k &&& 31)
def aC (v : Int32) : Nat := andN v 15
def aP (v : Int32) : Nat := lowN (sr v 4) 5
def aL (w : Int32) : Nat := lowN (sr w 3) (if sr w 20 &&& nI 1 = 0 then 1 else 60)
theorem aP_lt (v : Int32) : aP v < 5 := lowN_lt _ (by decide)
theorem aL_le (w : Int32) : aL w < 60 := by
  unfold aL
  split
  · exact Nat.lt_of_lt_of_le (lowN_lt _ (by decide)) (by decide)
  · exact lowN_lt _ (by decide)
/-! What an act answers, and what it leaves: whether a call was made, the answer, the state behind. -/
def acC (c p lo : Nat) (σ : Nat → Nat) (w : Int32) : Bool × Int32 × (Nat → Nat) := match c with
  | 0 => if σ 0 = 0 then (false, -9, σ) else (true, nI (σ 0 - 1), drpS σ (lowN w (σ 0)))
  | 1 => if σ 0 = 0 then (false, -9, σ) else (true, nI (oR σ (lowN w (σ 0)) 2), chgS σ (lowN w (σ 0)) (lowN (sr w 4) 100))
  | 2 => (true, nI (oP σ p 0), perS σ p (lowN w 4) (lowN (sr w 2) 4))
  | 3 => (true, mI (oP σ p 2), masS σ p (if w &&& nI 3 = 0 then 0 else (p + 1 + lowN (sr w 2) 4) % 5 + 1))
  | 4 => (true, nI ((σ 1 >>> lowN w 4) % 2), frcS σ (frcN (σ 1) (lowN w 4) (decide (sr w 2 &&& nI 1 = 0))))
  | 5 => (true, nI (σ (2 + lowN w 2)), setS σ (lowN w 2) (1 + lowN (sr w 1) 9))
  | 6 => if w &&& nI 3 = 0 then (true, nI (oK σ p), fgtS σ p) else (true, nI (σ 4), setS σ 2 (andN (sr w 2) 1))
  | 7 => (true, sAns σ (seenQ σ p (nI (lowN w 5) - nI 1) lo 99), asmS σ p (nI (lowN w 5) - nI 1) lo 99)
  | 8 => (true, cAns σ p (seenQ σ p (nI (lowN w 5) - nI 1) lo (99 - lowN (sr w 9) 40)), askS σ p (nI (lowN w 5) - nI 1) lo (99 - lowN (sr w 9) 40))
  | 9 => (true, cAns σ p (seenQ σ p (nI (lowN w 5) - nI 1) lo (99 - lowN (sr w 9) 40)), askS σ p (nI (lowN w 5) - nI 1) lo (99 - lowN (sr w 9) 40))
  | 10 => (true, cAns σ p (seenQ σ p (nI (lowN w 5) - nI 1) lo (99 - lowN (sr w 9) 40)), askS σ p (nI (lowN w 5) - nI 1) lo (99 - lowN (sr w 9) 40))
  | 11 => (true, cAns σ p (seenQ σ p (nI (lowN w 5) - nI 1) lo (99 - lowN (sr w 9) 40)), askS σ p (nI (lowN w 5) - nI 1) lo (99 - lowN (sr w 9) 40))
  | _ => if σ 0 = 16 then (false, -9, σ) else (true, nI (σ 0), rowS σ (lowN w 5) (lowN (sr w 3) 4) (lowN (sr w 5) 100) (lowN (sr w 12) 4))
def acQ (σ : Nat → Nat) (v w : Int32) : Bool × Int32 × (Nat → Nat) := acC (aC v) (aP v) (aL w) σ w
/-! What stays true of the numbers: questions refused are not more than those asked; a remembered mask has rows alone. -/
def GI (n : Nat) (σ : Nat → Nat) : Prop := (∀ p, p < 5 → oP σ p 4 ≤ oP σ p 3 ∧ oP σ p 3 ≤ n) ∧ ∀ p, p < 5 → ∀ k, k < oK σ p → oM σ p k < 2 ^ σ 0
theorem GI.up {n n' : Nat} {σ : Nat → Nat} (h : GI n σ) (hn : n ≤ n') : GI n' σ := ⟨fun p hp => ⟨(h.1 p hp).1, Nat.le_trans (h.1 p hp).2 hn⟩, h.2⟩
theorem GI.same {n : Nat} {σ τ : Nat → Nat} (hI : Inv σ) (hG : GI n σ) (h0 : σ 0 ≤ τ 0) (hP : ∀ p, p < 5 → oP τ p 3 = oP σ p 3 ∧ oP τ p 4 = oP σ p 4) (hK : ∀ j, 95 ≤ j → j < 130 → τ j = σ j) : GI n τ := by
  refine ⟨fun p hp => ?_, fun p hp k hk => ?_⟩
  · rw [(hP p hp).1, (hP p hp).2]; exact hG.1 p hp
  · have h6 := hI.kept hp
    have e1 : oK τ p = oK σ p := hK _ (by omega) (by omega)
    rw [e1] at hk
    have e2 : oM τ p k = oM σ p k := hK _ (by omega) (by omega)
    rw [e2]
    exact Nat.lt_of_lt_of_le (hG.2 p hp k hk) (Nat.pow_le_pow_right (by decide) h0)
section GS
variable {n : Nat} {σ : Nat → Nat}
theorem chg_G (hI : Inv σ) (hG : GI n σ) {q v : Nat} (hq : q < σ 0) : GI n (chgS σ q v) := by
  have hn := hI.n
  have e : ∀ j, ¬ j = 6 + 4 * q + 2 → chgS σ q v j = σ j := fun j hj => nup_e hj
  exact hG.same hI (Nat.le_of_eq (e 0 (by omega)).symm) (fun p hp => ⟨e _ (by omega), e _ (by omega)⟩) (fun j h1 h2 => e j (by omega))
theorem row_G (hI : Inv σ) (hG : GI n σ) {o p v w : Nat} (hn : σ 0 < 16) : GI n (rowS σ o p v w) := by
  have e0 : rowS σ o p v w 0 = σ 0 + 1 := rfl
  exact hG.same hI (by rw [e0]; omega) (fun p hp => ⟨rowS_e (by omega) (by omega), rowS_e (by omega) (by omega)⟩) (fun j h1 h2 => rowS_e (by omega) (by omega))
theorem per_G (hI : Inv σ) (hG : GI n σ) {p k h : Nat} (hp : p < 5) : GI n (perS σ p k h) :=
  hG.same hI (Nat.le_of_eq (per_x (by omega)).symm) (fun q hq => ⟨per_x (by omega), per_x (by omega)⟩) (fun j h1 h2 => per_x (by omega))
theorem mas_G (hI : Inv σ) (hG : GI n σ) {p k : Nat} (hp : p < 5) : GI n (masS σ p k) := by
  have e : ∀ j, ¬ j = 70 + 5 * p + 2 → masS σ p k j = σ j := fun j hj => nup_e hj
  exact hG.same hI (Nat.le_of_eq (e 0 (by omega)).symm) (fun q hq => ⟨e _ (by omega), e _ (by omega)⟩) (fun j h1 h2 => e j (by omega))
theorem frc_G (hI : Inv σ) (hG : GI n σ) {v : Nat} : GI n (frcS σ v) := by
  have e : ∀ j, ¬ j = 1 → frcS σ v j = σ j := fun j hj => nup_e hj
  exact hG.same hI (Nat.le_of_eq (e 0 (by omega)).symm) (fun q hq => ⟨e _ (by omega), e _ (by omega)⟩) (fun j h1 h2 => e j (by omega))
theorem set_G (hI : Inv σ) (hG : GI n σ) {i v : Nat} (hi : i < 3) : GI n (setS σ i v) := by
  have e : ∀ j, ¬ j = 2 + i → setS σ i v j = σ j := fun j hj => nup_e hj
  exact hG.same hI (Nat.le_of_eq (e 0 (by omega)).symm) (fun q hq => ⟨e _ (by omega), e _ (by omega)⟩) (fun j h1 h2 => e j (by omega))
theorem giv_G (hI : Inv σ) (hG : GI n σ) : GI n (givS σ) := by
  have e : ∀ j, ¬ j = 5 → givS σ j = σ j := fun j hj => nup_e hj
  exact hG.same hI (Nat.le_of_eq (e 0 (by omega)).symm) (fun q hq => ⟨e _ (by omega), e _ (by omega)⟩) (fun j h1 h2 => e j (by omega))
theorem fgt_G (hI : Inv σ) (hG : GI n σ) {p : Nat} (hp : p < 5) : GI n (fgtS σ p) := by
  refine ⟨fun q hq => ?_, fun q hq k hk => ?_⟩
  · rw [show oP (fgtS σ p) q 4 = oP σ q 4 from fgt_e (by omega), show oP (fgtS σ p) q 3 = oP σ q 3 from fgt_e (by omega)]; exact hG.1 q hq
  · by_cases c : q = p
    · rw [c, fgt_v] at hk; exact absurd hk (Nat.not_lt_zero k)
    · have h6 := hI.kept hq
      rw [show oK (fgtS σ p) q = oK σ q from fgt_e (by omega)] at hk
      rw [show oM (fgtS σ p) q k = oM σ q k from fgt_e (by omega), show fgtS σ p 0 = σ 0 from fgt_e (by omega)]
      exact hG.2 q hq k hk
theorem cnt_G (hI : Inv σ) (hG : GI n σ) {p k : Nat} (hp : p < 5) (hk : k ≤ 1) : GI (n + 1) (cntS σ p k) := by
  refine ⟨fun q hq => ?_, fun q hq j hj => ?_⟩
  · have h := hG.1 q hq
    by_cases c : q = p
    · rw [c, cnt_3, cnt_4]; rw [c] at h; omega
    · rw [show oP (cntS σ p k) q 4 = oP σ q 4 from cnt_x (by omega), show oP (cntS σ p k) q 3 = oP σ q 3 from cnt_x (by omega)]; omega
  · have h6 := hI.kept hq
    rw [show oK (cntS σ p k) q = oK σ q from cnt_x (by omega)] at hj
    rw [show oM (cntS σ p k) q j = oM σ q j from cnt_x (by omega), show cntS σ p k 0 = σ 0 from cnt_x (by omega)]
    exact hG.2 q hq j hj
theorem rem_G (hI : Inv σ) (hG : GI n σ) {p x : Nat} (hp : p < 5) (hx : x < 2 ^ σ 0) : GI n (remS σ p x) := by
  refine ⟨fun q hq => ?_, fun q hq k hk => ?_⟩
  · rw [show oP (remS σ p x) q 4 = oP σ q 4 from rem_e (by omega), show oP (remS σ p x) q 3 = oP σ q 3 from rem_e (by omega)]; exact hG.1 q hq
  · rw [show remS σ p x 0 = σ 0 from rem_e (by omega)]
    have h6 := hI.kept hq
    by_cases c : q = p
    · subst c
      rw [rem_K] at hk
      have hk6 := kpN_le h6
      rw [rem_M (by omega)]
      by_cases d : oK σ q < 6
      · rw [kpN_some d] at hk
        rw [if_pos d]
        by_cases d2 : k = oK σ q
        · rw [if_pos d2]; exact hx
        · rw [if_neg d2]; exact hG.2 q hq k (by omega)
      · rw [kpN_full d] at hk
        rw [if_neg d]
        by_cases d2 : k = 5
        · rw [if_pos d2]; exact hx
        · rw [if_neg d2]; exact hG.2 q hq (k + 1) (by omega)
    · rw [show oK (remS σ p x) q = oK σ q from rem_e (by omega)] at hk
      rw [show oM (remS σ p x) q k = oM σ q k from rem_e (by omega)]
      exact hG.2 q hq k hk
theorem tkN_2 {q m x : Nat} (hq : q < m) (hx : x < 2 ^ m) : tkN q x < 2 ^ (m - 1) := by
  unfold tkN
  refine Nat.or_lt_two_pow ?_ ?_
  · have h1 : x &&& (2 ^ q - 1) ≤ 2 ^ q - 1 := Nat.and_le_right
    have h2 : 2 ^ q ≤ 2 ^ (m - 1) := Nat.pow_le_pow_right (by decide) (by omega)
    have h3 : 0 < 2 ^ q := Nat.two_pow_pos q
    omega
  · rw [Nat.shiftLeft_eq, Nat.shiftRight_eq_div_pow]
    have h1 : x / 2 ^ (q + 1) < 2 ^ (m - 1 - q) := by
      rw [Nat.div_lt_iff_lt_mul (Nat.two_pow_pos _), ← Nat.pow_add]
      rw [show m - 1 - q + (q + 1) = m by omega]; exact hx
    have h2 : 2 ^ (m - 1) = 2 ^ (m - 1 - q) * 2 ^ q := by rw [← Nat.pow_add, show m - 1 - q + q = m - 1 by omega]
    rw [h2]
    exact Nat.mul_lt_mul_of_pos_right h1 (Nat.two_pow_pos q)
theorem drp_G (hI : Inv σ) (hG : GI n σ) {q : Nat} (hq : q < σ 0) : GI n (drpS σ q) := by
  have e0 : drpS σ q 0 = σ 0 - 1 := rfl
  refine ⟨fun p hp => ?_, fun p hp k hk => ?_⟩
  · rw [show oP (drpS σ q) p 4 = oP σ p 4 from drp_e (by omega), show oP (drpS σ q) p 3 = oP σ p 3 from drp_e (by omega)]; exact hG.1 p hp
  · rw [drp_K hp] at hk
    rw [drp_M hp hk (hI.kept hp), e0]
    exact tkN_2 hq (hG.2 p hp k hk)
theorem seenQ_2 (σ : Nat → Nat) (a : Nat) (pl : Int32) (lo hi : Nat) : seenQ σ a pl lo hi < 2 ^ σ 0 := bset_lt _ _
theorem asm_G (hI : Inv σ) (hG : GI n σ) {p : Nat} (hp : p < 5) {pl : Int32} {lo hi : Nat} : GI (n + 1) (asmS σ p pl lo hi) := by
  unfold asmS
  exact cnt_G hI hG hp (by split <;> decide)
theorem ask_Gi (hI : Inv σ) (hG : GI n σ) {p : Nat} (hp : p < 5) {pl : Int32} {lo hi : Nat} : GI (n + 1) (askS σ p pl lo hi) := by
  unfold askS
  by_cases c : cAns σ p (seenQ σ p pl lo hi) = -1
  · rw [if_pos c]; exact cnt_G hI hG hp (Nat.le_refl 1)
  · rw [if_neg c]
    have i1 := cnt_I (k := 0) hI hp
    have g1 := cnt_G (k := 0) hI hG hp (by decide)
    have hx := seenQ_2 σ p pl lo hi
    by_cases g : givesQ σ p (seenQ σ p pl lo hi) = true
    · rw [if_pos g]
      exact rem_G (giv_I i1) (giv_G i1 g1) hp (by rw [show givS (cntS σ p 0) 0 = σ 0 from (nup_e (by omega)).trans (cnt_x (by omega))]; exact hx)
    · rw [if_neg g]
      exact rem_G i1 g1 hp (by rw [show cntS σ p 0 0 = σ 0 from cnt_x (by omega)]; exact hx)
theorem ask_5 {p : Nat} (hp : p < 5) {pl : Int32} {lo hi : Nat} (h4 : σ 4 = 1) : askS σ p pl lo hi 5 = σ 5 := by
  unfold askS
  by_cases c : cAns σ p (seenQ σ p pl lo hi) = -1
  · rw [if_pos c]; exact cnt_x (by omega)
  · rw [if_neg c]
    by_cases g : givesQ σ p (seenQ σ p pl lo hi) = true
    · exfalso
      apply c
      unfold cAns
      rw [if_pos]
      unfold cRef
      rw [decide_eq_true h4, g]
      exact Bool.or_true _
    · rw [if_neg g, rem_e (by omega)]
      exact cnt_x (by omega)
end GS
/-! An act: what is true of it. -/
theorem ge9 {j : Nat} (h : j < 2 ^ 31) : ¬ nI j ≤ (-9 : Int32) := fun q => by
  have h1 := Int32.le_iff_toInt_le.mp q
  rw [nI_toInt h] at h1
  have h2 : (-9 : Int32).toInt = -9 := by decide
  omega
theorem cAns_9 (σ : Nat → Nat) (p x : Nat) : ¬ cAns σ p x ≤ (-9 : Int32) := by
  unfold cAns
  have h := ones_le x
  split
  · decide
  · exact ge9 (by omega)
theorem sAns_9 {σ : Nat → Nat} (hI : Inv σ) (x : Nat) : ¬ sAns σ x ≤ (-9 : Int32) := by
  have h := sumS_le hI x (n := σ 0) (Nat.le_refl _)
  have hn := hI.n
  unfold sAns
  split
  · decide
  · exact ge9 (by omega)
theorem mI_9 {k : Nat} (h : k ≤ 5) : ¬ mI k ≤ (-9 : Int32) := (show ∀ k : Nat, k < 6 → ¬ mI k ≤ (-9 : Int32) by decide) k (by omega)
def AQ (σ : Nat → Nat) (n : Nat) (q : Bool × Int32 × (Nat → Nat)) : Prop := GI (n + 1) q.2.2 ∧ (q.1 = true → ¬ q.2.1 ≤ (-9 : Int32)) ∧ (q.1 = false → q.2.1 = (-9 : Int32) ∧ q.2.2 = σ) ∧ (σ 4 = 1 → q.2.2 5 = σ 5)
theorem AQ.of {σ τ : Nat → Nat} {n : Nat} {r : Int32} (h1 : GI (n + 1) τ) (h2 : ¬ r ≤ (-9 : Int32)) (h3 : σ 4 = 1 → τ 5 = σ 5) : AQ σ n (true, r, τ) := ⟨h1, fun _ => h2, fun h => absurd (show true = false from h) (by decide), h3⟩
theorem AQ.no {σ : Nat → Nat} {n : Nat} (h1 : GI n σ) : AQ σ n (false, -9, σ) := ⟨h1.up (Nat.le_succ n), fun h => absurd (show false = true from h) (by decide), fun _ => ⟨rfl, rfl⟩, fun _ => rfl⟩
theorem ac_ask {σ : Nat → Nat} {n : Nat} (hI : Inv σ) (hG : GI n σ) {p lo : Nat} (hp : p < 5) (w : Int32) : AQ σ n (true, cAns σ p (seenQ σ p (nI (lowN w 5) - nI 1) lo (99 - lowN (sr w 9) 40)), askS σ p (nI (lowN w 5) - nI 1) lo (99 - lowN (sr w 9) 40)) :=
  AQ.of (ask_Gi hI hG hp) (cAns_9 _ _ _) (fun h => ask_5 hp h)
theorem ac_row {σ : Nat → Nat} {n : Nat} (hI : Inv σ) (hG : GI n σ) (w : Int32) : AQ σ n (if σ 0 = 16 then (false, -9, σ) else (true, nI (σ 0), rowS σ (lowN w 5) (lowN (sr w 3) 4) (lowN (sr w 5) 100) (lowN (sr w 12) 4))) := by
  have hn := hI.n
  by_cases h : σ 0 = 16
  · rw [if_pos h]; exact AQ.no hG
  · rw [if_neg h]
    exact AQ.of ((row_G hI hG (by omega)).up (Nat.le_succ n)) (ge9 (by omega)) (fun _ => rowS_e (by omega) (by omega))
theorem ac_ok {σ : Nat → Nat} {n : Nat} (hI : Inv σ) (hG : GI n σ) {p lo : Nat} (hp : p < 5) (w : Int32) : ∀ c : Nat, AQ σ n (acC c p lo σ w)
  | 0 => by
    show AQ σ n (if σ 0 = 0 then (false, -9, σ) else (true, nI (σ 0 - 1), drpS σ (lowN w (σ 0))))
    have hn := hI.n
    by_cases h : σ 0 = 0
    · rw [if_pos h]; exact AQ.no hG
    · rw [if_neg h]
      exact AQ.of ((drp_G hI hG (lowN_lt w (by omega))).up (Nat.le_succ n)) (ge9 (by omega)) (fun _ => drp_e (by omega))
  | 1 => by
    show AQ σ n (if σ 0 = 0 then (false, -9, σ) else (true, nI (oR σ (lowN w (σ 0)) 2), chgS σ (lowN w (σ 0)) (lowN (sr w 4) 100)))
    have hn := hI.n
    by_cases h : σ 0 = 0
    · rw [if_pos h]; exact AQ.no hG
    · rw [if_neg h]
      have hq := lowN_lt w (n := σ 0) (by omega)
      have hr := hI.row hq
      exact AQ.of ((chg_G hI hG hq).up (Nat.le_succ n)) (ge9 (by omega)) (fun _ => nup_e (by omega))
  | 2 => by
    have h := hI.person hp
    exact AQ.of ((per_G hI hG hp).up (Nat.le_succ n)) (ge9 (by omega)) (fun _ => per_x (by omega))
  | 3 => by
    have h := hI.person hp
    exact AQ.of ((mas_G hI hG hp).up (Nat.le_succ n)) (mI_9 h.2.2) (fun _ => nup_e (by omega))
  | 4 => AQ.of ((frc_G hI hG).up (Nat.le_succ n)) (ge9 (by omega)) (fun _ => nup_e (by omega))
  | 5 => by
    have h2 := lowN_lt w (n := 2) (by decide)
    have hs : σ (2 + lowN w 2) ≤ 9 := by
      rcases (by omega : lowN w 2 = 0 ∨ lowN w 2 = 1) with e | e <;> rw [e]
      · exact hI.least.2
      · exact hI.coarse.2
    exact AQ.of ((set_G hI hG (by omega)).up (Nat.le_succ n)) (ge9 (by omega)) (fun _ => nup_e (by omega))
  | 6 => by
    show AQ σ n (if w &&& nI 3 = 0 then (true, nI (oK σ p), fgtS σ p) else (true, nI (σ 4), setS σ 2 (andN (sr w 2) 1)))
    have h6 := hI.kept hp
    have h4 := hI.diff
    by_cases h : w &&& nI 3 = 0
    · rw [if_pos h]
      exact AQ.of ((fgt_G hI hG hp).up (Nat.le_succ n)) (ge9 (by omega)) (fun _ => fgt_e (by omega))
    · rw [if_neg h]
      exact AQ.of ((set_G hI hG (by decide)).up (Nat.le_succ n)) (ge9 (by omega)) (fun _ => nup_e (by omega))
  | 7 => AQ.of (asm_G hI hG hp) (sAns_9 hI _) (fun _ => cnt_x (by omega))
  | 8 => ac_ask hI hG hp w
  | 9 => ac_ask hI hG hp w
  | 10 => ac_ask hI hG hp w
  | 11 => ac_ask hI hG hp w
  | _ + 12 => ac_row hI hG w
theorem acQ_ok {σ : Nat → Nat} {n : Nat} (hI : Inv σ) (hG : GI n σ) (v w : Int32) : AQ σ n (acQ σ v w) := ac_ok hI hG (aP_lt v) w (aC v)
/-! What the looks answer, at small numbers. -/
section VL
variable {σ : Nat → Nat} {z : Nat → Int32} {r : Int32}
theorem vl_cnt {w : Nat} (hw : w < 9) (h : coC (nI w) = 0 ∧ r = cntQ σ (z 4) (nI w).toNatClampNeg) : r = cntQ σ 0 w := h.2.trans (by rw [nI_clamp (by omega)]; exact cntQ_c hw)
theorem vl_c9 (h : coC (nI 9) = 0 ∧ r = cntQ σ (z 4) (nI 9).toNatClampNeg) : r = z 4 := h.2.trans (by rw [nI_clamp (by decide)]; rfl)
theorem vl_row {k w : Nat} (hk : k < 2 ^ 31) (hw : w < 5) (h : rwC σ (nI k) (nI w) = 0 ∧ r = nI (rowN σ (nI k).toNatClampNeg (nI w).toNatClampNeg)) : r = nI (rowN σ k w) := h.2.trans (by rw [nI_clamp hk, nI_clamp (by omega)])
theorem vl_per {k w : Nat} (hk : k < 5) (hw : w < 8) (h : peC (nI k) (nI w) = 0 ∧ r = perN σ (nI k).toNatClampNeg (nI w).toNatClampNeg) : r = perN σ k w := h.2.trans (by rw [nI_clamp (by omega), nI_clamp (by omega)])
theorem vl_rem {k w : Nat} (hk : k < 5) (hw : w < 2 ^ 31) (h : reC (nI k) (nI w) = 0 ∧ r = remV σ (nI k).toNatClampNeg (nI w).toNatClampNeg) : r = remV σ k w := h.2.trans (by rw [nI_clamp (by omega), nI_clamp hw])
theorem vl_vei {k w : Nat} (hk : k < 5) (hw : w < 2 ^ 31) (h : veC σ (nI k) (nI w) = 0 ∧ r = nI (vmk σ (nI k).toNatClampNeg (nI w).toNatClampNeg)) : r = nI (vmk σ k w) := h.2.trans (by rw [nI_clamp (by omega), nI_clamp hw])
theorem vl_hid {w : Nat} (hw : w < 4) (h : hiC (nI w) = 0 ∧ r = nI (hidQ σ (nI w).toNatClampNeg)) : r = nI (hidQ σ w) := h.2.trans (by rw [nI_clamp (by omega)])
theorem vl_ifa {a lo hi w : Nat} {pl : Int32} (ha : a < 5) (hlo : lo < 2 ^ 31) (hhi : hi < 2 ^ 31) (hw : w < 4) (h : ifC (nI a) pl (nI lo) (nI hi) (nI w) = 0 ∧ r = wouQ σ (nI a).toNatClampNeg pl (nI lo).toNatClampNeg (nI hi).toNatClampNeg (nI w).toNatClampNeg) : r = wouQ σ a pl lo hi w := h.2.trans (by rw [nI_clamp (by omega), nI_clamp hlo, nI_clamp hhi, nI_clamp (by omega)])
end VL
theorem sk_add (p : Nat → Bool) (k : Nat) : nI (cnt p k) + bI (p k) = nI (cnt p (k + 1)) := by
  cases h : p k with
  | true => rw [cnt_t h]; exact nI_add _ _
  | false => rw [cnt_f h]; exact nI_add _ 0
theorem masN_n {q : Nat} (h : q < 5) : masN (nI q) = q + 1 := (show ∀ q : Nat, q < 5 → masN (nI q) = q + 1 by decide) q h
theorem act_end {σ τ : Nat → Nat} {v w r V : Int32} {sc nb : Nat} {ss : Nat → Nat → Nat} {bb : Nat → Nat} {f : Nat → Nat → Int32} {z : Nat → Int32} {F : Nat → Nat → Nat → Int32} {Z : Nat → Nat → Int32} (hq : acQ σ v w = (true, V, τ)) (h1 : r = V) (h2 : XR τ (svC sc) (svS sc ss σ) nb bb f z F Z) :
    r = (acQ σ v w).2.1 ∧ XR (acQ σ v w).2.2 (cond (acQ σ v w).1 (svC sc) sc) (cond (acQ σ v w).1 (svS sc ss σ) ss) nb bb f z F Z := by
  rw [hq]; exact ⟨h1, h2⟩
theorem act_no {σ : Nat → Nat} {v w : Int32} {sc nb : Nat} {ss : Nat → Nat → Nat} {bb : Nat → Nat} {f : Nat → Nat → Int32} {z : Nat → Int32} {F : Nat → Nat → Nat → Int32} {Z : Nat → Nat → Int32} (hq : acQ σ v w = (false, -9, σ)) (h2 : XR σ sc ss nb bb f z F Z) :
    (-9 : Int32) = (acQ σ v w).2.1 ∧ XR (acQ σ v w).2.2 (cond (acQ σ v w).1 (svC sc) sc) (cond (acQ σ v w).1 (svS sc ss σ) ss) nb bb f z F Z := by
  rw [hq]; exact ⟨rfl, h2⟩
