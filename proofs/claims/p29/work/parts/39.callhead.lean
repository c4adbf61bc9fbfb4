/-! RowVeils' calls that write. -/
theorem Rep.zz {σ : Nat → Nat} {f : Nat → Nat → Int32} {z z' : Nat → Int32} (h : Rep σ f z) (e0 : z' 0 = z 0) (e1 : z' 1 = z 1) (e2 : z' 2 = z 2) : Rep σ f z' := ⟨e0.trans h.n, e1.trans h.rules, e2.trans h.given, h.2.2.2⟩
theorem XR.sv {σ σ' : Nat → Nat} {f f' : Nat → Nat → Int32} {z z' z9 : Nat → Int32} {F : Nat → Nat → Nat → Int32} {Z : Nat → Nat → Int32} {nx sc nb : Nat} {ss : Nat → Nat → Nat} {bb : Nat → Nat} (hc : sc ≤ 6) (hnx : nx < 6) (hH : HR nx sc ss F Z) (hR : Rep σ f z) (hI : Inv σ)
    (hR' : Rep σ' f' z9) (hI' : Inv σ') (e0 : z' 0 = z9 0) (e1 : z' 1 = z9 1) (e2 : z' 2 = z9 2) (e3 : z' 3 = nI (nxtR nx)) (e4 : z' 4 = nI (min (sc + 1) 6)) (e5 : z' 5 = nI nb) (hB : BR nb bb (f' 12)) :
    XR σ' (svC sc) (svS sc ss σ) nb bb f' z' (va_up F nx (cpS (F nx) f)) (va_up Z nx z) :=
  ⟨hR'.zz e0 e1 e2, hI', Nat.min_le_right _ _, e4, e5, hB, nxtR nx, nxtR_lt hnx, e3, HR.save hnx hc hH hR hI⟩
abbrev WtX : Type := (Nat → Nat → Int32) × (Nat → Int32) × (Nat → Nat → Nat → Int32) × (Nat → Nat → Int32)
def chC (σ : Nat → Nat) (ix iv : Int32) : Nat := if inI ix (nI 0) (nI (σ 0) - nI 1) = false then 1 else if inI iv (nI 0) (nI 99) = false then 2 else 0
def drC (σ : Nat → Nat) (ix : Int32) : Nat := if inI ix (nI 0) (nI (σ 0) - nI 1) = false then 1 else 0
def roC (σ : Nat → Nat) (io ia iv iw : Int32) : Nat := if (inI io (nI 0) (nI 4) && inI ia (nI 0) (nI 3)) = false then 1 else if (inI iv (nI 0) (nI 99) && inI iw (nI 0) (nI 3)) = false then 2 else if σ 0 = 16 then 3 else 0
def psC (ip ik ih : Int32) : Nat := if (inI ip (nI 0) (nI 4) && inI ih (nI 0) (nI 3)) = false then 1 else if inI ik (nI 0) (nI 3) = false then 2 else 0
def msQ (im : Int32) : Bool := decide (im = -1) || inI im (nI 0) (nI 4)
def maC (ip im : Int32) : Nat := if (inI ip (nI 0) (nI 4) && msQ im) = false then 1 else if ip = im then 2 else 0
def masN (im : Int32) : Nat := (im + 1).toNatClampNeg
theorem mas_v {im : Int32} (h : msQ im = true) : mI (masN im) = im ∧ masN im ≤ 5 := by
  unfold msQ at h
  rw [Bool.or_eq_true, decide_eq_true_eq] at h
  rcases h with rfl | h
  · decide
  · obtain ⟨k, hk, rfl⟩ := in_small (by decide) h
    exact (show ∀ k : Nat, k < 5 → mI (masN (nI k)) = nI k ∧ masN (nI k) ≤ 5 by decide) k (by omega)
def foC (ip : Int32) : Nat := if inI ip (nI 0) (nI 3) = false then 1 else 0
def frcN (u w : Nat) (b : Bool) : Nat := if b = true then u ||| 2 ^ w else u &&& (2 ^ w ^^^ (2 ^ 32 - 1))
theorem frcN_lt {u w : Nat} {b : Bool} (hu : u < 16) (hw : w < 4) : frcN u w b < 16 := by
  unfold frcN
  split
  · exact Nat.or_lt_two_pow (n := 4) hu (Nat.pow_lt_pow_right (by decide) hw)
  · exact Nat.lt_of_le_of_lt Nat.and_le_left hu
def seC (ix iv : Int32) : Nat := if inI ix (nI 0) (nI 2) = false then 1 else if (if ix = nI 2 then inI iv (nI 0) (nI 1) else inI iv (nI 1) (nI 9)) = false then 2 else 0
def fgC (ip : Int32) : Nat := if inI ip (nI 0) (nI 4) = false then 1 else 0
theorem in_1 {x : Int32} {a b : Nat} (ha : a < 2 ^ 31) (hb : b < 2 ^ 31) (h : inI x (nI a) (nI b) = true) : ∃ j, a ≤ j ∧ j ≤ b ∧ x = nI j := by
  obtain ⟨h1, h2⟩ := inI_t'.mp h
  have h3 : ¬ x < 0 := fun q => by
    have h5 := Int32.le_iff_toInt_le.mp h1
    have h6 := Int32.lt_iff_toInt_lt.mp q
    have h8 : (0 : Int32).toInt = 0 := by decide
    rw [nI_toInt ha] at h5
    omega
  obtain ⟨j, hj, rfl⟩ := nI_of2 (M := nI b) (nI_toInt hb) h3 h2
  exact ⟨j, (nI_leI ha (by omega)).mp h1, hj, rfl⟩
section WX
variable {Γ : Gm} {A : Nat → Prop} {a : Nat → Nat} {b : Nat → Nat → Nat} {rf : Nat → Option Nat} {f : Nat → Nat → Int32} {z : Nat → Int32} {F : Nat → Nat → Nat → Int32} {Z : Nat → Nat → Int32} {x y : Int32} {H : Heap}
abbrev wXh (Γ : Gm) (a : Nat → Nat) (b : Nat → Nat → Nat) (rf : Nat → Option Nat) (f : Nat → Nat → Int32) (z : Nat → Int32) (F : Nat → Nat → Nat → Int32) (Z : Nat → Nat → Int32) (x y : Int32) : va_W :=
  (a 34, .inr (8, [.ref (a 0), .ref (a 29), .ref (a 31)])) :: (wSt Γ a f z ++ (wHd Γ (a 29) (a 30) rf x y ++ ([(a 31, .inr (0, [.ref (a 32), .int (z 5)])), (a 32, .inr (3, [.ref (a 33)])), (a 33, .inl (Γ.2.1, 60, .inl (f 12)))] ++ wSl Γ b F Z 6)))
theorem wXo_P (h3 : z 3 = x) (h4 : z 4 = y) (h : gP Γ (wXo Γ a b rf f z F Z) H) : gP Γ (wXh Γ a b rf f z F Z x y) H := by
  subst h3; subst h4; exact h
theorem wXo_D (h3 : z 3 = x) (h4 : z 4 = y) (h : va_D A (wXo Γ a b rf f z F Z)) : va_D A (wXh Γ a b rf f z F Z x y) := by
  subst h3; subst h4; exact h
end WX
/-- a question's state -/
def askS (σ : Nat → Nat) (p : Nat) (pl : Int32) (lo hi : Nat) : Nat → Nat := if cAns σ p (seenQ σ p pl lo hi) = -1 then cntS σ p 1 else remS (if givesQ σ p (seenQ σ p pl lo hi) = true then givS (cntS σ p 0) else cntS σ p 0) p (seenQ σ p pl lo hi)
def asmS (σ : Nat → Nat) (p : Nat) (pl : Int32) (lo hi : Nat) : Nat → Nat := cntS σ p (if sAns σ (seenQ σ p pl lo hi) = -1 then 1 else 0)
section AK
variable {σ : Nat → Nat} {f : Nat → Nat → Int32} {z : Nat → Int32}
theorem ask_N (hR : Rep σ f z) (hI : Inv σ) {p : Nat} (hp : p < 5) {pl : Int32} {lo hi : Nat} (hc : cAns σ p (seenQ σ p pl lo hi) = -1) : Rep (askS σ p pl lo hi) (va_up (va_up f 9 (upd (f 9) p (f 9 p + nI 1))) 10 (upd (f 10) p (f 10 p + nI 1))) z ∧ Inv (askS σ p pl lo hi) := by
  unfold askS
  rw [if_pos hc]
  exact ⟨cnt_R hR hI hp true, cnt_I hI hp⟩
theorem ask_A (hR : Rep σ f z) (hI : Inv σ) {p : Nat} (hp : p < 5) {pl : Int32} {lo hi : Nat} (hc : ¬ cAns σ p (seenQ σ p pl lo hi) = -1) (hg : givesQ σ p (seenQ σ p pl lo hi) = false) : Rep (askS σ p pl lo hi) (va_up (va_up (va_up (va_up f 9 (upd (f 9) p (f 9 p + nI 1))) 10 (f 10)) 7 (kpM (f 7) p (oK σ p) (nI (seenQ σ p pl lo hi)))) 8 (upd (f 8) p (nI (kpN (oK σ p))))) z ∧ Inv (askS σ p pl lo hi) := by
  unfold askS
  rw [if_neg hc, if_neg (by rw [hg]; decide)]
  have h1 := cnt_R hR hI hp false
  have i1 := cnt_I (k := 0) hI hp
  have e : oK (cntS σ p 0) p = oK σ p := cnt_x (by omega)
  have h2 := rem_R (σ := cntS σ p 0) (x := seenQ σ p pl lo hi) h1 i1 hp
  rw [e] at h2
  exact ⟨h2, rem_I i1 hp (seenQ_lt hI _ _ _ _)⟩
theorem ask_G (hR : Rep σ f z) (hI : Inv σ) {p : Nat} (hp : p < 5) {pl : Int32} {lo hi : Nat} (hc : ¬ cAns σ p (seenQ σ p pl lo hi) = -1) (hg : givesQ σ p (seenQ σ p pl lo hi) = true) : Rep (askS σ p pl lo hi) (va_up (va_up (va_up (va_up f 9 (upd (f 9) p (f 9 p + nI 1))) 10 (f 10)) 7 (kpM (f 7) p (oK σ p) (nI (seenQ σ p pl lo hi)))) 8 (upd (f 8) p (nI (kpN (oK σ p))))) (va_up z 2 (nI (σ 5 + 1))) ∧ Inv (askS σ p pl lo hi) := by
  unfold askS
  rw [if_neg hc, if_pos hg]
  have h1 := cnt_R hR hI hp false
  have i1 := cnt_I (k := 0) hI hp
  have h2 := giv_R (σ := cntS σ p 0) h1 i1
  have i2 := giv_I i1
  rw [show cntS σ p 0 5 = σ 5 from cnt_x (by omega)] at h2
  have e : oK (givS (cntS σ p 0)) p = oK σ p := (nup_e (by omega)).trans (cnt_x (by omega))
  have h3 := rem_R (σ := givS (cntS σ p 0)) (x := seenQ σ p pl lo hi) h2 i2 hp
  rw [e] at h3
  exact ⟨h3, rem_I i2 hp (seenQ_lt hI _ _ _ _)⟩
theorem asm_t (hR : Rep σ f z) (hI : Inv σ) {p : Nat} (hp : p < 5) {pl : Int32} {lo hi : Nat} (hc : sAns σ (seenQ σ p pl lo hi) = -1) : Rep (asmS σ p pl lo hi) (va_up (va_up f 9 (upd (f 9) p (f 9 p + nI 1))) 10 (upd (f 10) p (f 10 p + nI 1))) z ∧ Inv (asmS σ p pl lo hi) := by
  unfold asmS
  rw [if_pos hc]
  exact ⟨cnt_R hR hI hp true, cnt_I hI hp⟩
theorem asm_f (hR : Rep σ f z) (hI : Inv σ) {p : Nat} (hp : p < 5) {pl : Int32} {lo hi : Nat} (hc : ¬ sAns σ (seenQ σ p pl lo hi) = -1) : Rep (asmS σ p pl lo hi) (va_up (va_up f 9 (upd (f 9) p (f 9 p + nI 1))) 10 (f 10)) z ∧ Inv (asmS σ p pl lo hi) := by
  unfold asmS
  rw [if_neg hc]
  exact ⟨cnt_R hR hI hp false, cnt_I hI hp⟩
end AK
def apC (nb : Nat) (ic : Int32) : Nat := if inI ic (nI 33) (nI 126) = false then 1 else if nb = 60 then 2 else 0
def rsC (bb : Nat → Nat) (nb : Nat) : Nat := if cplQ bb nb = false then 1 else 0
def unC (sc : Nat) : Nat := if sc = 0 then 1 else 0
theorem BR.push {nb j : Nat} {bb : Nat → Nat} {g : Nat → Int32} (h : BR nb bb g) (hn : nb < 60) (h1 : 33 ≤ j) (h2 : j ≤ 126) : BR (nb + 1) (nup bb nb j) (upd g nb (nI j)) := by
  refine ⟨by omega, fun i hi => ?_⟩
  by_cases c : i = nb
  · rw [c, nup_v, up_t]; exact ⟨rfl, h1, by omega⟩
  · rw [nup_e c, up_f c]; exact h.2 i (by omega)
theorem tab_ok {B : Nat → Nat} {n : Nat} (hw : cplQ B n = true) : ∀ {k : Nat}, k ≤ n + 1 → ∀ j, j < prt B n k → tab B n (n + 1) j 0 < 5 ∧ tab B n (n + 1) j 1 < 4 ∧ tab B n (n + 1) j 2 < 100 ∧ tab B n (n + 1) j 3 < 4
  | 0, _, j, hj => absurd hj (Nat.not_lt_zero j)
  | k + 1, hk, j, hj => by
    cases c : cmQ B n k with
    | false => rw [prt_f c] at hj; exact tab_ok hw (by omega) j hj
    | true =>
      rw [prt_t c] at hj
      by_cases e : j = prt B n k
      · obtain ⟨-, o1, o2, o3, -, o5, o6⟩ := ok_end (n := n) (k := k) (by omega) c hw
        rw [e, tab_at c (by omega), tab_at c (by omega), tab_at c (by omega), tab_at c (by omega)]
        refine ⟨?_, o3, o5, o6⟩
        show B (sta B n k) - 48 < 5
        omega
      · exact tab_ok hw (k := k) (by omega) j (by omega)
/-- how many rows of the text come in -/
def cmeN (σ : Nat → Nat) (bb : Nat → Nat) (nb : Nat) : Nat := min (prt bb nb (nb + 1)) (16 - σ 0)
def rdsS (σ : Nat → Nat) (bb : Nat → Nat) (nb : Nat) : Nat → Nat := addN σ (tab bb nb (nb + 1)) (cmeN σ bb nb)
theorem rds_ok {σ : Nat → Nat} {f : Nat → Nat → Int32} {z : Nat → Int32} {bb : Nat → Nat} {nb : Nat} (hR : Rep σ f z) (hI : Inv σ) (hw : cplQ bb nb = true) : Inv (rdsS σ bb nb) ∧ Rep (rdsS σ bb nb) (adF f (σ 0) (tab bb nb (nb + 1)) (cmeN σ bb nb)) (va_up z 0 (nI (σ 0 + cmeN σ bb nb))) := by
  have hn := hI.n
  unfold rdsS
  exact addN_ok hR hI (by unfold cmeN; omega) (fun j hj => tab_ok hw (Nat.le_refl _) j (by unfold cmeN at hj; omega))
theorem XR.un {f f' : Nat → Nat → Int32} {z' : Nat → Int32} {F : Nat → Nat → Nat → Int32} {Z : Nat → Nat → Int32} {nx sc nb : Nat} {ss : Nat → Nat → Nat} {bb : Nat → Nat} (hc : sc ≤ 6) (h1 : 1 ≤ sc) (hnx : nx < 6) (hH : HR nx sc ss F Z) (e : ∀ k, k < 12 → f' k = cpS f (F (latR nx)) k)
    (e0 : z' 0 = Z (latR nx) 0) (e1 : z' 1 = Z (latR nx) 1) (e2 : z' 2 = Z (latR nx) 2) (e3 : z' 3 = nI (latR nx)) (e4 : z' 4 = nI (sc - 1)) (e5 : z' 5 = nI nb) (hB : BR nb bb (f' 12)) : XR (ss (sc - 1)) (sc - 1) ss nb bb f' z' F Z := by
  have key : ∀ k, k < 6 → latR k = (k + 5) % 6 := by decide
  have hl := key nx hnx
  have h2 := hH (sc - 1) (by omega)
  rw [show (nx + 6 - sc + (sc - 1)) % 6 = latR nx by omega] at h2
  have h3 : Rep (ss (sc - 1)) (cpS f (F (latR nx))) (Z (latR nx)) := Rep.cp h2.2 h2.1
  have h4 : Rep (ss (sc - 1)) f' (Z (latR nx)) := by
    unfold Rep at h3 ⊢
    rw [e 0 (by omega), e 1 (by omega), e 2 (by omega), e 3 (by omega), e 4 (by omega), e 5 (by omega), e 6 (by omega), e 7 (by omega), e 8 (by omega), e 9 (by omega), e 10 (by omega), e 11 (by omega)]
    exact h3
  refine ⟨h4.zz e0 e1 e2, h2.2, by omega, e4, e5, hB, latR nx, latR_lt hnx, e3, fun j hj => ?_⟩
  have h5 := hH j (by omega)
  rw [hl, show ((nx + 5) % 6 + 6 - (sc - 1) + j) % 6 = (nx + 6 - sc + j) % 6 by omega]
  exact h5
