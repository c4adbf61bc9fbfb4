/-! The bits of the share, and the digest. -/
def bsD (x : UInt64) : Nat → UInt64
  | 0 => x
  | k + 1 => FP.dmul (bsD x k) 4611686018427387904
def bsE : Nat → Int64
  | 0 => 1023
  | k + 1 => bsE k - 1
def cnd (x : UInt64) (k : Nat) : Bool := !decide ((0 : Int32) ≤ Op.cmpValue (FP.dcmp (bsD x k) 4607182418800017408) .g)
def resB (x : UInt64) (k : Nat) : Int64 := (bsE k <<< ((nI 52).toInt64 &&& 63)) ||| FP.d2l (FP.dmul (FP.dsub (bsD x k) 4607182418800017408) 4841369599423283200)
def okD (r : UInt64) : Bool := Nat.ble ((r &&& 0x7fffffffffffffff).toNat) 0x7ff0000000000000
theorem okD_n {r : UInt64} (h : okD r = true) : vf_n64 r := UInt64.le_iff_toNat_le.mpr (Nat.le_of_ble_eq_true h)
def bosS (x : UInt64) (k : Nat) : Bool := !(cnd x k) || okD (FP.dmul (bsD x k) 4611686018427387904)
def bosE (x : UInt64) (k : Nat) : Bool := okD (FP.dsub (bsD x k) 4607182418800017408) && okD (FP.dmul (FP.dsub (bsD x k) 4607182418800017408) 4841369599423283200) && decide (resB x k = x.toInt64)
/-- a share whose bits come out: scaled k times, k at most 3 -/
def bosB (x : UInt64) : Bool := bosS x 0 && bosS x 1 && bosS x 2 && (if cnd x 0 = false then bosE x 0 else if cnd x 1 = false then bosE x 1 else if cnd x 2 = false then bosE x 2 else bosE x 3) && decide (Op.cmpValue (FP.dcmp x x) .l = 0)
theorem bos_s {x : UInt64} (h : bosB x = true) {k : Nat} (hk : k < 3) (hc : cnd x k = true) : vf_n64 (FP.dmul (bsD x k) 4611686018427387904) := by
  unfold bosB at h
  simp only [Bool.and_eq_true] at h
  refine okD_n ?_
  have key : bosS x k = true := by rcases (by omega : k = 0 ∨ k = 1 ∨ k = 2) with rfl | rfl | rfl; exact h.1.1.1.1; exact h.1.1.1.2; exact h.1.1.2
  unfold bosS at key
  rw [hc] at key
  exact key
theorem bos_n {x : UInt64} (h : bosB x = true) : Op.cmpValue (FP.dcmp x x) .l = 0 := by
  unfold bosB at h
  simp only [Bool.and_eq_true] at h
  exact of_decide_eq_true h.2
theorem bos_e {x : UInt64} (h : bosB x = true) {k : Nat} (hk : k ≤ 3) (he : k = 3 ∨ cnd x k = false) (hc : ∀ j, j < k → cnd x j = true) : vf_n64 (FP.dsub (bsD x k) 4607182418800017408) ∧ vf_n64 (FP.dmul (FP.dsub (bsD x k) 4607182418800017408) 4841369599423283200) ∧ resB x k = x.toInt64 := by
  have key : bosE x k = true := by
    unfold bosB at h
    simp only [Bool.and_eq_true] at h
    have h1 := h.1.2
    rcases (by omega : k = 0 ∨ k = 1 ∨ k = 2 ∨ k = 3) with rfl | rfl | rfl | rfl
    · rw [if_pos (by rcases he with e | e; cases e; exact e)] at h1; exact h1
    · rw [if_neg (by rw [hc 0 (by decide)]; decide), if_pos (by rcases he with e | e; cases e; exact e)] at h1; exact h1
    · rw [if_neg (by rw [hc 0 (by decide)]; decide), if_neg (by rw [hc 1 (by decide)]; decide), if_pos (by rcases he with e | e; cases e; exact e)] at h1; exact h1
    · rw [if_neg (by rw [hc 0 (by decide)]; decide), if_neg (by rw [hc 1 (by decide)]; decide), if_neg (by rw [hc 2 (by decide)]; decide)] at h1; exact h1
  unfold bosE at key
  simp only [Bool.and_eq_true] at key
  exact ⟨okD_n key.1.1, okD_n key.1.2, of_decide_eq_true key.2⟩
theorem bos_all : allb (fun n => allb (fun d => bosB (shr (n + 1) (n + 1 + d))) (4 * n + 5)) 16 = true := by decide +kernel
theorem bos_1 : bosB 4607182418800017408 = true := by decide +kernel
theorem bos_Q {σ : Nat → Nat} (hI : Inv σ) : bosB (shareQ σ) = true := by
  unfold shareQ
  by_cases c : σ 0 = 0
  · rw [if_pos c]; exact bos_1
  · rw [if_neg c]
    have h1 := pair_ge hI
    have h2 := veil_pair hI
    have hn := hI.n
    have h3 := allb_spec (allb_spec bos_all (σ 0 - 1) (by omega)) (pairS σ 5 - σ 0) (by omega)
    rw [show σ 0 - 1 + 1 = σ 0 by omega, show σ 0 + (pairS σ 5 - σ 0) = pairS σ 5 by omega] at h3
    exact h3
def rwF (σ : Nat → Nat) (h : Int64) : Nat → Int64
  | 0 => h
  | q + 1 => mxRow σ (rwF σ h q) q
def prF (σ : Nat → Nat) (h : Int64) : Nat → Int64
  | 0 => h
  | p + 1 => mxPer σ (prF σ h p) p
def dgA (σ : Nat → Nat) (sv : Int32) : Int64 := mxF (fun w => cntQ σ sv w) 3469 10
def dgB (σ : Nat → Nat) (sv : Int32) : Int64 := prF σ (rwF σ (dgA σ sv) (σ 0)) 5
def dgC (σ : Nat → Nat) (sv : Int32) : Int64 := mxF (fun r => nI (hidQ σ r)) (dgB σ sv) 4
def dgD (σ : Nat → Nat) (sv : Int32) : Int64 := mx (mx (dgC σ sv) (nI (blF (seenN σ) 5)).toInt64) (shareQ σ).toInt64
/-- the digest -/
def dgst (σ : Nat → Nat) (sv : Int32) (nb : Nat) (bb : Nat → Nat) : Int64 := mxBuf bb nb (dgD σ sv)
def flR (σ : Nat → Nat) (k : Nat) : Int32 := nI (rowN σ (k / 5) (k % 5))
theorem rw_flat (σ : Nat → Nat) (h : Int64) : ∀ q, mxF (flR σ) h (5 * q) = rwF σ h q
  | 0 => rfl
  | q + 1 => by
    have e : ∀ i, i < 5 → flR σ (5 * q + i) = nI (rowN σ q i) := fun i hi => by
      unfold flR
      rw [show (5 * q + i) / 5 = q by omega, show (5 * q + i) % 5 = i by omega]
    have ih := rw_flat σ h q
    show mxF (flR σ) h (5 * q + 4 + 1) = mxRow σ (rwF σ h q) q
    unfold mxRow
    show mx (mx (mx (mx (mx (mxF (flR σ) h (5 * q)) (flR σ (5 * q)).toInt64) (flR σ (5 * q + 1)).toInt64) (flR σ (5 * q + 2)).toInt64) (flR σ (5 * q + 3)).toInt64) (flR σ (5 * q + 4)).toInt64 = mx (mx (mx (mx (mx (rwF σ h q) (nI (rowN σ q 0)).toInt64) (nI (rowN σ q 1)).toInt64) (nI (rowN σ q 2)).toInt64) (nI (rowN σ q 3)).toInt64) (nI (rowN σ q 4)).toInt64
    rw [show flR σ (5 * q) = nI (rowN σ q 0) from e 0 (by decide), e 1 (by decide), e 2 (by decide), e 3 (by decide), e 4 (by decide), ih]
abbrev rm_X8_bitsOfShare : Room := { frames := 0, cells := 0, slots := 0, locals := 0 }
theorem k_X8_bitsOfShare : Cal yX8_bitsOfShare wsX8_bitsOfShare rm_X8_bitsOfShare cX8_bitsOfShare 7 (some .long) 1 0 0 := ⟨⟨_, rfl⟩, rfl, rfl, by decide +kernel⟩
set_option maxHeartbeats 4000000 in
set_option maxRecDepth 100000 in
theorem m_X8_bitsOfShare (l : Launch) (x : UInt64) (hB : bosB x = true) : MSl l yX8_bitsOfShare wsX8_bitsOfShare rm_X8_bitsOfShare [.double x] (fun r => r = x.toInt64) := by
  refine mS (cc := cX8_bitsOfShare) (maxL := 7) (ret := (some .long)) (own := RX8) (by decide) rfl rfl (Nat.le_of_ble_eq_true rfl) ?_
  intro p e s m args below meth c S hrt hlk ls hl
  obtain ⟨hx, hb, hml, hown, hts⟩ := id S
  have hl : lv_has ls 7 [(0, .double x)] := hl
  have L_10 : ∀ (fuel : Nat), ∀ (k : Nat) (hk : k ≤ 3) (hfk : 3 - k < fuel) (hcj : ∀ j, j < k → cnd x j = true), ∀ ls : Array Slot, lv_has ls 7 [(0, .double x), (2, .double (bsD x k)), (4, .long (bsE k)), (6, .int (nI k))] → W p l e rm_X8_bitsOfShare s m args below meth c s.heap [] 0 0 (MQ below (vp_Sl (fun r => r = x.toInt64)) args s 0 0 (fun _ => False)) (F0 m 10 ls []) := by
    intro fuel
    induction fuel with
    | zero => intro k hk hfk hcj; exact absurd hfk (by omega)
    | succ fuel ih_10 =>
      intro k hk hfk hcj ls hl
      refine lv_iload hx hb dX8_bitsOfShare_10 (lv_at hl 3 rfl) ?_
      refine lv_iconst (v := nI 3) hx hb dX8_bitsOfShare_12 (by decide) ?_
      refine lv_icmp_ge (tgt := 40) hx hb dX8_bitsOfShare_13 (by decide) (fun c_13 => ?_) (fun c_13 => ?_)
      · have n_13 := (nI_leI (a := 3) (b := k) (by omega) (by omega)).mp c_13
        have hend := bos_e hB hk (Or.inl (by omega)) hcj
        obtain ⟨hne1, hne2, hres⟩ := hend
        refine lv_lload hx hb dX8_bitsOfShare_40 (lv_at hl 2 rfl) ?_
        refine lv_bipush (v := nI 52) hx hb dX8_bitsOfShare_42 (by decide) ?_
        refine lv_lshl (v := (bsE k) <<< ((nI 52).toInt64 &&& 63)) hx hb dX8_bitsOfShare_44 rfl ?_
        refine lv_dload_n hx hb dX8_bitsOfShare_45 rfl (lv_at hl 1 rfl) ?_
        refine lv_dconst1 hx hb dX8_bitsOfShare_46 ?_
        refine lv_dsub hx hb dX8_bitsOfShare_47 (hne1) ?_
        refine lv_ldc2d (v := 4841369599423283200) hx hb hown (hts (.constantDouble RX8 301 (4841369599423283200)) (by decide +kernel)) dX8_bitsOfShare_48 ?_
        refine lv_dmul hx hb dX8_bitsOfShare_51 (hne2) ?_
        refine lv_d2l hx hb dX8_bitsOfShare_52 ?_
        refine lv_lor hx hb dX8_bitsOfShare_53 ?_
        exact W.lret (v := ((bsE k) <<< ((nI 52).toInt64 &&& 63)) ||| (FP.d2l (FP.dmul (FP.dsub (bsD x k) 4607182418800017408) 4841369599423283200))) hx hb hrt (fun t9 ht9 hW9 => ⟨_, rfl, hres, ht9⟩) (fun _ h9 => nomatch h9) dX8_bitsOfShare_54 hlk
      · have n_13 := (not_congr (nI_leI (a := 3) (b := k) (by omega) (by omega))).mp c_13
        refine lv_dload_n hx hb dX8_bitsOfShare_16 rfl (lv_at hl 1 rfl) ?_
        refine lv_dconst1 hx hb dX8_bitsOfShare_17 ?_
        refine lv_dcmp hx hb dX8_bitsOfShare_18 ?_
        refine lv_if_ge (tgt := 40) hx hb dX8_bitsOfShare_19 (by decide) (fun c_19 => ?_) (fun c_19 => ?_)
        · have c_19 : (0 : Int32) ≤ Op.cmpValue (FP.dcmp (bsD x k) 4607182418800017408) .g := c_19
          have n_19 : cnd x k = false := by unfold cnd; rw [decide_eq_true c_19]; rfl
          have hend := bos_e hB hk (Or.inr n_19) hcj
          obtain ⟨hne1, hne2, hres⟩ := hend
          refine lv_lload hx hb dX8_bitsOfShare_40 (lv_at hl 2 rfl) ?_
          refine lv_bipush (v := nI 52) hx hb dX8_bitsOfShare_42 (by decide) ?_
          refine lv_lshl (v := (bsE k) <<< ((nI 52).toInt64 &&& 63)) hx hb dX8_bitsOfShare_44 rfl ?_
          refine lv_dload_n hx hb dX8_bitsOfShare_45 rfl (lv_at hl 1 rfl) ?_
          refine lv_dconst1 hx hb dX8_bitsOfShare_46 ?_
          refine lv_dsub hx hb dX8_bitsOfShare_47 (hne1) ?_
          refine lv_ldc2d (v := 4841369599423283200) hx hb hown (hts (.constantDouble RX8 301 (4841369599423283200)) (by decide +kernel)) dX8_bitsOfShare_48 ?_
          refine lv_dmul hx hb dX8_bitsOfShare_51 (hne2) ?_
          refine lv_d2l hx hb dX8_bitsOfShare_52 ?_
          refine lv_lor hx hb dX8_bitsOfShare_53 ?_
          exact W.lret (v := ((bsE k) <<< ((nI 52).toInt64 &&& 63)) ||| (FP.d2l (FP.dmul (FP.dsub (bsD x k) 4607182418800017408) 4841369599423283200))) hx hb hrt (fun t9 ht9 hW9 => ⟨_, rfl, hres, ht9⟩) (fun _ h9 => nomatch h9) dX8_bitsOfShare_54 hlk
        · have c_19 : ¬ (0 : Int32) ≤ Op.cmpValue (FP.dcmp (bsD x k) 4607182418800017408) .g := c_19
          have n_19 : cnd x k = true := by unfold cnd; rw [decide_eq_false c_19]; rfl
          refine lv_dload_n hx hb dX8_bitsOfShare_22 rfl (lv_at hl 1 rfl) ?_
          refine lv_ldc2d (v := 4611686018427387904) hx hb hown (hts (.constantDouble RX8 299 (4611686018427387904)) (by decide +kernel)) dX8_bitsOfShare_23 ?_
          refine lv_dmul hx hb dX8_bitsOfShare_26 (bos_s hB (by omega) n_19) ?_
          refine lv_dstore_n (lv' := [(2, .double (FP.dmul (bsD x k) 4611686018427387904)), (0, .double x), (4, .long (bsE k)), (6, .int (nI k))]) hx hb dX8_bitsOfShare_27 rfl hl (by decide) rfl (fun ls hl => ?_)
          refine lv_lload hx hb dX8_bitsOfShare_28 (lv_at hl 2 rfl) ?_
          refine lv_lconst (v := 1) hx hb dX8_bitsOfShare_30 (by decide) ?_
          refine lv_lsub hx hb dX8_bitsOfShare_31 ?_
          refine lv_lstore (lv' := [(4, .long ((bsE k) - 1)), (2, .double (FP.dmul (bsD x k) 4611686018427387904)), (0, .double x), (6, .int (nI k))]) hx hb dX8_bitsOfShare_32 hl (by decide) rfl (fun ls hl => ?_)
          refine lv_iinc (v := nI (k + 1)) (lv' := [(6, .int (nI (k + 1))), (4, .long ((bsE k) - 1)), (2, .double (FP.dmul (bsD x k) 4611686018427387904)), (0, .double x)]) hx hb dX8_bitsOfShare_34 hl (k := 3) rfl (nI_add _ _) (by decide) rfl (fun ls hl => ?_)
          refine lv_goto (tgt := 10) hx hb dX8_bitsOfShare_37 (by decide) ?_
          exact ih_10 (k + 1) (by omega) (by omega) (fun j hj => by by_cases e : j = k; rw [e]; exact n_19; exact hcj j (by omega)) ls (lv_sub hl [3, 2, 1, 0] rfl)
  refine lv_dload_n hx hb dX8_bitsOfShare_0 rfl (lv_at hl 0 rfl) ?_
  refine lv_dstore_n (lv' := [(2, .double x), (0, .double x)]) hx hb dX8_bitsOfShare_1 rfl hl (by decide) rfl (fun ls hl => ?_)
  refine lv_ldc2 (v := 1023) hx hb hown (hts (.constantLong RX8 297 (1023)) (by decide +kernel)) dX8_bitsOfShare_2 ?_
  refine lv_lstore (lv' := [(4, .long 1023), (2, .double x), (0, .double x)]) hx hb dX8_bitsOfShare_5 hl (by decide) rfl (fun ls hl => ?_)
  refine lv_iconst (v := nI 0) hx hb dX8_bitsOfShare_7 (by decide) ?_
  refine lv_istore (lv' := [(6, .int (nI 0)), (4, .long 1023), (2, .double x), (0, .double x)]) hx hb dX8_bitsOfShare_8 hl (by decide) rfl (fun ls hl => ?_)
  exact L_10 4 0 (by omega) (by omega) (fun j hj => absurd hj (Nat.not_lt_zero j)) ls (lv_sub hl [3, 2, 1, 0] rfl)

abbrev rm_X8_digest : Room := { frames := 6, cells := 0, slots := 0, locals := 143 }
theorem k_X8_digest : Cal yX8_digest wsX8_digest rm_X8_digest cX8_digest 4 (some .long) 0 0 0 := ⟨⟨_, rfl⟩, rfl, rfl, by decide +kernel⟩
set_option maxHeartbeats 4000000 in
set_option maxRecDepth 100000 in
theorem m_X8_digest (l : Launch) (Γ : Gm) (a : Nat → Nat) (b : Nat → Nat → Nat) (rf : Nat → Option Nat) (f : Nat → Nat → Int32) (z : Nat → Int32) (F : Nat → Nat → Nat → Int32) (Z : Nat → Nat → Int32) (σ : Nat → Nat) (hR : Rep σ f z) (hI : Inv σ) (nb : Nat) (bb : Nat → Nat) (h5 : z 5 = nI nb) (hBR : BR nb bb (f 12)) : MRl l yX8_digest wsX8_digest rm_X8_digest Γ (wXo Γ a b rf f z F Z) [.ref (a 34)] (fun r => r = dgst σ (z 4) nb bb) := by
  refine mR (cc := cX8_digest) (maxL := 4) (ret := (some .long)) (own := RX8) (by decide) rfl rfl (Nat.le_of_ble_eq_true rfl) ?_
  intro p e s m args below meth c S hrt hlk hK hP ls hl
  obtain ⟨hx, hb, hml, hown, hts⟩ := id S
  have hn := hI.n
  have hl : lv_has ls 4 [(0, .ref (a 34))] := hl
  have hP : gP Γ (wXo Γ a b rf f z F Z) s.heap := hP
  have L_80 : ∀ (fuel : Nat), ∀ (x1 : Int64) (k : Nat) (e_x1 : x1 = mxF (fun r => nI (hidQ σ r)) (dgB σ (z 4)) k) (hk : k ≤ 4) (hfk : 4 - k < fuel), ∀ ls : Array Slot, lv_has ls 4 [(0, .ref (a 34)), (1, .long x1), (3, .int (nI k))] → W p l e rm_X8_digest s m args below meth c s.heap [] 0 0 (MQ below (vp_Sl (fun r => r = dgst σ (z 4) nb bb)) args s 0 0 (fun _ => False)) (F0 m 80 ls []) := by
    intro fuel
    induction fuel with
    | zero => intro x1 k e_x1 hk hfk; exact absurd hfk (by omega)
    | succ fuel ih_80 =>
      intro x1 k e_x1 hk hfk ls hl
      subst e_x1
      refine lv_iload_n hx hb dX8_digest_80 rfl (lv_at hl 2 rfl) ?_
      refine lv_iconst (v := nI 4) hx hb dX8_digest_81 (by decide) ?_
      refine lv_icmp_ge (tgt := 105) hx hb dX8_digest_82 (by decide) (fun c_82 => ?_) (fun c_82 => ?_)
      · have n_82 := (nI_leI (a := 4) (b := k) (by omega) (by omega)).mp c_82
        refine lv_lload_n hx hb dX8_digest_105 rfl (lv_at hl 1 rfl) ?_
        refine lv_aload_n hx hb dX8_digest_106 rfl (lv_at hl 0 rfl) ?_
        refine va_get (D := Γ.1) (ci := 8) (v := .ref (a 0)) (C := RX8) (T := TX8) (N := 3) hx hb hts (by decide +kernel) hown hK hP 0 rfl rfl 0 (by decide) (hts (.fieldLink RX8 10 "RowVeils" "state" "LRowVeils$State;") (by decide +kernel)) (fun _ h9 => h9) rfl dX8_digest_107 ?_
        refine cRi (As := []) (rest := [.long (mxF (fun r => nI (hidQ σ r)) (dgB σ (z 4)) k)]) (m_X6_whoSeesFewest l Γ a f z σ hR hI ) S k_X6_whoSeesFewest gX8_digest_X6_whoSeesFewest rfl ⟨Nat.le_of_ble_eq_true rfl, Nat.le_of_ble_eq_true rfl⟩ hK hP [1, 2, 3, 4, 5, 6, 7, 8, 9, 10, 11, 12, 13, 14, 15, 16, 17, 18, 19, 20, 21, 22, 23, 24, 25, 26, 27, 28, 29] rfl 0 (ci := 6) rfl rfl rfl rfl hl.1 (Nat.le_of_ble_eq_true rfl) rfl dX8_digest_110 ⟨Nat.le_of_ble_eq_true rfl, Nat.le_of_ble_eq_true rfl⟩ (fun r hr => ?_)
        subst hr
        refine lv_i2l (v := (nI (blF (seenN σ) 5)).toInt64) hx hb dX8_digest_113 rfl ?_
        refine cSl (As := [.long (mxF (fun r => nI (hidQ σ r)) (dgB σ (z 4)) k), .long ((nI (blF (seenN σ) 5)).toInt64)]) (rest := []) (m_X8_mixed l (mxF (fun r => nI (hidQ σ r)) (dgB σ (z 4)) k) ((nI (blF (seenN σ) 5)).toInt64)) S k_X8_mixed gX8_digest_X8_mixed ⟨Nat.le_of_ble_eq_true rfl, Nat.le_of_ble_eq_true rfl⟩ rfl hl.1 (Nat.le_of_ble_eq_true rfl) rfl dX8_digest_114 ⟨Nat.le_of_ble_eq_true rfl, Nat.le_of_ble_eq_true rfl⟩ (fun r hr => ?_)
        subst hr
        refine lv_lstore_n (lv' := [(1, .long (mx (mxF (fun r => nI (hidQ σ r)) (dgB σ (z 4)) k) ((nI (blF (seenN σ) 5)).toInt64))), (0, .ref (a 34)), (3, .int (nI k))]) hx hb dX8_digest_117 rfl hl (by decide) rfl (fun ls hl => ?_)
        refine lv_lload_n hx hb dX8_digest_118 rfl (lv_at hl 0 rfl) ?_
        refine lv_aload_n hx hb dX8_digest_119 rfl (lv_at hl 1 rfl) ?_
        refine va_get (D := Γ.1) (ci := 8) (v := .ref (a 0)) (C := RX8) (T := TX8) (N := 3) hx hb hts (by decide +kernel) hown hK hP 0 rfl rfl 0 (by decide) (hts (.fieldLink RX8 10 "RowVeils" "state" "LRowVeils$State;") (by decide +kernel)) (fun _ h9 => h9) rfl dX8_digest_120 ?_
        refine cRd (As := []) (rest := [.long (mx (mxF (fun r => nI (hidQ σ r)) (dgB σ (z 4)) k) ((nI (blF (seenN σ) 5)).toInt64))]) (m_X6_shareSeen l Γ a f z σ hR hI ) S k_X6_shareSeen gX8_digest_X6_shareSeen rfl ⟨Nat.le_of_ble_eq_true rfl, Nat.le_of_ble_eq_true rfl⟩ hK hP [1, 2, 3, 4, 5, 6, 7, 8, 9, 10, 11, 12, 13, 14, 15, 16, 17, 18, 19, 20, 21, 22, 23, 24, 25, 26, 27, 28, 29] rfl 0 (ci := 6) rfl rfl rfl rfl hl.1 (Nat.le_of_ble_eq_true rfl) rfl dX8_digest_123 ⟨Nat.le_of_ble_eq_true rfl, Nat.le_of_ble_eq_true rfl⟩ (fun r hr => ?_)
        subst hr
        refine cSl (As := [.double (shareQ σ)]) (rest := [.long (mx (mxF (fun r => nI (hidQ σ r)) (dgB σ (z 4)) k) ((nI (blF (seenN σ) 5)).toInt64))]) (m_X8_bitsOfShare l (shareQ σ) (bos_Q hI)) S k_X8_bitsOfShare gX8_digest_X8_bitsOfShare ⟨Nat.le_of_ble_eq_true rfl, Nat.le_of_ble_eq_true rfl⟩ rfl hl.1 (Nat.le_of_ble_eq_true rfl) rfl dX8_digest_126 ⟨Nat.le_of_ble_eq_true rfl, Nat.le_of_ble_eq_true rfl⟩ (fun r hr => ?_)
        subst hr
        refine cSl (As := [.long (mx (mxF (fun r => nI (hidQ σ r)) (dgB σ (z 4)) k) ((nI (blF (seenN σ) 5)).toInt64)), .long ((shareQ σ).toInt64)]) (rest := []) (m_X8_mixed l (mx (mxF (fun r => nI (hidQ σ r)) (dgB σ (z 4)) k) ((nI (blF (seenN σ) 5)).toInt64)) ((shareQ σ).toInt64)) S k_X8_mixed gX8_digest_X8_mixed ⟨Nat.le_of_ble_eq_true rfl, Nat.le_of_ble_eq_true rfl⟩ rfl hl.1 (Nat.le_of_ble_eq_true rfl) rfl dX8_digest_129 ⟨Nat.le_of_ble_eq_true rfl, Nat.le_of_ble_eq_true rfl⟩ (fun r hr => ?_)
        subst hr
        refine lv_lstore_n (lv' := [(1, .long (mx (mx (mxF (fun r => nI (hidQ σ r)) (dgB σ (z 4)) k) ((nI (blF (seenN σ) 5)).toInt64)) ((shareQ σ).toInt64))), (0, .ref (a 34)), (3, .int (nI k))]) hx hb dX8_digest_132 rfl hl (by decide) rfl (fun ls hl => ?_)
        refine lv_aload_n hx hb dX8_digest_133 rfl (lv_at hl 1 rfl) ?_
        refine lv_lload_n hx hb dX8_digest_134 rfl (lv_at hl 0 rfl) ?_
        refine cRl (As := [.long (mx (mx (mxF (fun r => nI (hidQ σ r)) (dgB σ (z 4)) k) ((nI (blF (seenN σ) 5)).toInt64)) ((shareQ σ).toInt64))]) (rest := []) (m_X8_mixedBuffer l Γ a rf f z σ hR hI nb bb h5 hBR (mx (mx (mxF (fun r => nI (hidQ σ r)) (dgB σ (z 4)) k) ((nI (blF (seenN σ) 5)).toInt64)) ((shareQ σ).toInt64))) S k_X8_mixedBuffer gX8_digest_X8_mixedBuffer rfl ⟨Nat.le_of_ble_eq_true rfl, Nat.le_of_ble_eq_true rfl⟩ hK hP [0, 1, 2, 3, 4, 5, 6, 7, 8, 9, 10, 11, 12, 13, 14, 15, 16, 17, 18, 19, 20, 21, 22, 23, 24, 25, 26, 27, 28, 29, 30, 31, 32, 33, 34] rfl 0 (ci := 8) rfl rfl rfl rfl hl.1 (Nat.le_of_ble_eq_true rfl) rfl dX8_digest_135 ⟨Nat.le_of_ble_eq_true rfl, Nat.le_of_ble_eq_true rfl⟩ (fun r hr => ?_)
        subst hr
        exact W.lret (v := mxBuf bb nb (mx (mx (mxF (fun r => nI (hidQ σ r)) (dgB σ (z 4)) k) ((nI (blF (seenN σ) 5)).toInt64)) ((shareQ σ).toInt64))) hx hb hrt (fun t9 ht9 hW9 => ⟨_, rfl, by unfold dgst dgD dgC; rw [show k = 4 from by omega], ht9⟩) (fun _ h9 => nomatch h9) dX8_digest_138 hlk
      · have n_82 := (not_congr (nI_leI (a := 4) (b := k) (by omega) (by omega))).mp c_82
        refine lv_lload_n hx hb dX8_digest_85 rfl (lv_at hl 1 rfl) ?_
        refine lv_aload_n hx hb dX8_digest_86 rfl (lv_at hl 0 rfl) ?_
        refine va_get (D := Γ.1) (ci := 8) (v := .ref (a 0)) (C := RX8) (T := TX8) (N := 3) hx hb hts (by decide +kernel) hown hK hP 0 rfl rfl 0 (by decide) (hts (.fieldLink RX8 10 "RowVeils" "state" "LRowVeils$State;") (by decide +kernel)) (fun _ h9 => h9) rfl dX8_digest_87 ?_
        refine lv_iload_n hx hb dX8_digest_90 rfl (lv_at hl 2 rfl) ?_
        refine cRi (As := [.int (nI k)]) (rest := [.long (mxF (fun r => nI (hidQ σ r)) (dgB σ (z 4)) k)]) (m_X6_hiddenByAlone l Γ a f z σ hR hI k (by omega)) S k_X6_hiddenByAlone gX8_digest_X6_hiddenByAlone rfl ⟨Nat.le_of_ble_eq_true rfl, Nat.le_of_ble_eq_true rfl⟩ hK hP [1, 2, 3, 4, 5, 6, 7, 8, 9, 10, 11, 12, 13, 14, 15, 16, 17, 18, 19, 20, 21, 22, 23, 24, 25, 26, 27, 28, 29] rfl 0 (ci := 6) rfl rfl rfl rfl hl.1 (Nat.le_of_ble_eq_true rfl) rfl dX8_digest_91 ⟨Nat.le_of_ble_eq_true rfl, Nat.le_of_ble_eq_true rfl⟩ (fun r hr => ?_)
        subst hr
        refine lv_i2l (v := (nI (hidQ σ k)).toInt64) hx hb dX8_digest_94 rfl ?_
        refine cSl (As := [.long (mxF (fun r => nI (hidQ σ r)) (dgB σ (z 4)) k), .long ((nI (hidQ σ k)).toInt64)]) (rest := []) (m_X8_mixed l (mxF (fun r => nI (hidQ σ r)) (dgB σ (z 4)) k) ((nI (hidQ σ k)).toInt64)) S k_X8_mixed gX8_digest_X8_mixed ⟨Nat.le_of_ble_eq_true rfl, Nat.le_of_ble_eq_true rfl⟩ rfl hl.1 (Nat.le_of_ble_eq_true rfl) rfl dX8_digest_95 ⟨Nat.le_of_ble_eq_true rfl, Nat.le_of_ble_eq_true rfl⟩ (fun r hr => ?_)
        subst hr
        refine asl (z := mxF (fun r => nI (hidQ σ r)) (dgB σ (z 4)) (k + 1)) rfl ?_
        refine lv_lstore_n (lv' := [(1, .long (mxF (fun r => nI (hidQ σ r)) (dgB σ (z 4)) (k + 1))), (0, .ref (a 34)), (3, .int (nI k))]) hx hb dX8_digest_98 rfl hl (by decide) rfl (fun ls hl => ?_)
        refine lv_iinc (v := nI (k + 1)) (lv' := [(3, .int (nI (k + 1))), (1, .long (mxF (fun r => nI (hidQ σ r)) (dgB σ (z 4)) (k + 1))), (0, .ref (a 34))]) hx hb dX8_digest_99 hl (k := 2) rfl (nI_add _ _) (by decide) rfl (fun ls hl => ?_)
        refine lv_goto (tgt := 80) hx hb dX8_digest_102 (by decide) ?_
        exact ih_80 (mxF (fun r => nI (hidQ σ r)) (dgB σ (z 4)) (k + 1)) (k + 1) rfl (by omega) (by omega) ls (lv_sub hl [2, 1, 0] rfl)
  have L_60 : ∀ (fuel : Nat), ∀ (x1 : Int64) (k : Nat) (e_x1 : x1 = prF σ (rwF σ (dgA σ (z 4)) (σ 0)) k) (hk : k ≤ 5) (hfk : 5 - k < fuel), ∀ ls : Array Slot, lv_has ls 4 [(0, .ref (a 34)), (1, .long x1), (3, .int (nI k))] → W p l e rm_X8_digest s m args below meth c s.heap [] 0 0 (MQ below (vp_Sl (fun r => r = dgst σ (z 4) nb bb)) args s 0 0 (fun _ => False)) (F0 m 60 ls []) := by
    intro fuel
    induction fuel with
    | zero => intro x1 k e_x1 hk hfk; exact absurd hfk (by omega)
    | succ fuel ih_60 =>
      intro x1 k e_x1 hk hfk ls hl
      subst e_x1
      refine lv_iload_n hx hb dX8_digest_60 rfl (lv_at hl 2 rfl) ?_
      refine lv_iconst (v := nI 5) hx hb dX8_digest_61 (by decide) ?_
      refine lv_icmp_ge (tgt := 78) hx hb dX8_digest_62 (by decide) (fun c_62 => ?_) (fun c_62 => ?_)
      · have n_62 := (nI_leI (a := 5) (b := k) (by omega) (by omega)).mp c_62
        refine lv_iconst (v := nI 0) hx hb dX8_digest_78 (by decide) ?_
        refine lv_istore_n (lv' := [(3, .int (nI 0)), (0, .ref (a 34)), (1, .long (prF σ (rwF σ (dgA σ (z 4)) (σ 0)) k))]) hx hb dX8_digest_79 rfl hl (by decide) rfl (fun ls hl => ?_)
        exact L_80 5 (prF σ (rwF σ (dgA σ (z 4)) (σ 0)) k) 0 (by rw [show k = 5 from by omega]; rfl) (by omega) (by omega) ls (lv_sub hl [1, 2, 0] rfl)
      · have n_62 := (not_congr (nI_leI (a := 5) (b := k) (by omega) (by omega))).mp c_62
        refine lv_aload_n hx hb dX8_digest_65 rfl (lv_at hl 0 rfl) ?_
        refine lv_lload_n hx hb dX8_digest_66 rfl (lv_at hl 1 rfl) ?_
        refine lv_iload_n hx hb dX8_digest_67 rfl (lv_at hl 2 rfl) ?_
        refine cRl (As := [.long (prF σ (rwF σ (dgA σ (z 4)) (σ 0)) k), .int (nI k)]) (rest := []) (m_X8_mixedPerson l Γ a rf f z σ hR hI (prF σ (rwF σ (dgA σ (z 4)) (σ 0)) k) k (by omega)) S k_X8_mixedPerson gX8_digest_X8_mixedPerson rfl ⟨Nat.le_of_ble_eq_true rfl, Nat.le_of_ble_eq_true rfl⟩ hK hP [0, 1, 2, 3, 4, 5, 6, 7, 8, 9, 10, 11, 12, 13, 14, 15, 16, 17, 18, 19, 20, 21, 22, 23, 24, 25, 26, 27, 28, 29, 30, 31, 32, 33, 34] rfl 0 (ci := 8) rfl rfl rfl rfl hl.1 (Nat.le_of_ble_eq_true rfl) rfl dX8_digest_68 ⟨Nat.le_of_ble_eq_true rfl, Nat.le_of_ble_eq_true rfl⟩ (fun r hr => ?_)
        subst hr
        refine asl (z := prF σ (rwF σ (dgA σ (z 4)) (σ 0)) (k + 1)) rfl ?_
        refine lv_lstore_n (lv' := [(1, .long (prF σ (rwF σ (dgA σ (z 4)) (σ 0)) (k + 1))), (0, .ref (a 34)), (3, .int (nI k))]) hx hb dX8_digest_71 rfl hl (by decide) rfl (fun ls hl => ?_)
        refine lv_iinc (v := nI (k + 1)) (lv' := [(3, .int (nI (k + 1))), (1, .long (prF σ (rwF σ (dgA σ (z 4)) (σ 0)) (k + 1))), (0, .ref (a 34))]) hx hb dX8_digest_72 hl (k := 2) rfl (nI_add _ _) (by decide) rfl (fun ls hl => ?_)
        refine lv_goto (tgt := 60) hx hb dX8_digest_75 (by decide) ?_
        exact ih_60 (prF σ (rwF σ (dgA σ (z 4)) (σ 0)) (k + 1)) (k + 1) rfl (by omega) (by omega) ls (lv_sub hl [2, 1, 0] rfl)
  have L_31 : ∀ (fuel : Nat), ∀ (x1 : Int64) (k : Nat) (e_x1 : x1 = rwF σ (dgA σ (z 4)) k) (hk : k ≤ σ 0) (hfk : σ 0 - k < fuel), ∀ ls : Array Slot, lv_has ls 4 [(0, .ref (a 34)), (1, .long x1), (3, .int (nI k))] → W p l e rm_X8_digest s m args below meth c s.heap [] 0 0 (MQ below (vp_Sl (fun r => r = dgst σ (z 4) nb bb)) args s 0 0 (fun _ => False)) (F0 m 31 ls []) := by
    intro fuel
    induction fuel with
    | zero => intro x1 k e_x1 hk hfk; exact absurd hfk (by omega)
    | succ fuel ih_31 =>
      intro x1 k e_x1 hk hfk ls hl
      subst e_x1
      refine lv_iload_n hx hb dX8_digest_31 rfl (lv_at hl 2 rfl) ?_
      refine lv_aload_n hx hb dX8_digest_32 rfl (lv_at hl 0 rfl) ?_
      refine va_get (D := Γ.1) (ci := 8) (v := .ref (a 0)) (C := RX8) (T := TX8) (N := 3) hx hb hts (by decide +kernel) hown hK hP 0 rfl rfl 0 (by decide) (hts (.fieldLink RX8 10 "RowVeils" "state" "LRowVeils$State;") (by decide +kernel)) (fun _ h9 => h9) rfl dX8_digest_33 ?_
      refine va_get (D := Γ.1) (ci := 6) (v := .ref (a 1)) (C := RX6) (T := TX6) (N := 6) hx hb hts (by decide +kernel) hown hK hP 1 rfl rfl 0 (by decide) (hts (.fieldLink RX8 56 "RowVeils$State" "rows" "LRowVeils$Rows;") (by decide +kernel)) (fun _ h9 => h9) rfl dX8_digest_36 ?_
      refine va_get (D := Γ.1) (ci := 5) (v := .int (z 0)) (C := RX5) (T := TX5) (N := 5) hx hb hts (by decide +kernel) hown hK hP 2 rfl rfl 4 (by decide) (hts (.fieldLink RX8 75 "RowVeils$Rows" "size" "I") (by decide +kernel)) (fun _ h9 => h9) rfl dX8_digest_39 ?_
      refine asi (z := nI (σ 0)) (hR.n) ?_
      refine lv_icmp_ge (tgt := 58) hx hb dX8_digest_42 (by decide) (fun c_42 => ?_) (fun c_42 => ?_)
      · have n_42 := (nI_leI (a := (σ 0)) (b := k) (by omega) (by omega)).mp c_42
        refine lv_iconst (v := nI 0) hx hb dX8_digest_58 (by decide) ?_
        refine lv_istore_n (lv' := [(3, .int (nI 0)), (0, .ref (a 34)), (1, .long (rwF σ (dgA σ (z 4)) k))]) hx hb dX8_digest_59 rfl hl (by decide) rfl (fun ls hl => ?_)
        exact L_60 6 (rwF σ (dgA σ (z 4)) k) 0 (by rw [show k = σ 0 from by omega]; rfl) (by omega) (by omega) ls (lv_sub hl [1, 2, 0] rfl)
      · have n_42 := (not_congr (nI_leI (a := (σ 0)) (b := k) (by omega) (by omega))).mp c_42
        refine lv_aload_n hx hb dX8_digest_45 rfl (lv_at hl 0 rfl) ?_
        refine lv_lload_n hx hb dX8_digest_46 rfl (lv_at hl 1 rfl) ?_
        refine lv_iload_n hx hb dX8_digest_47 rfl (lv_at hl 2 rfl) ?_
        refine cRl (As := [.long (rwF σ (dgA σ (z 4)) k), .int (nI k)]) (rest := []) (m_X8_mixedRow l Γ a rf f z σ hR hI (rwF σ (dgA σ (z 4)) k) k (by omega)) S k_X8_mixedRow gX8_digest_X8_mixedRow rfl ⟨Nat.le_of_ble_eq_true rfl, Nat.le_of_ble_eq_true rfl⟩ hK hP [0, 1, 2, 3, 4, 5, 6, 7, 8, 9, 10, 11, 12, 13, 14, 15, 16, 17, 18, 19, 20, 21, 22, 23, 24, 25, 26, 27, 28, 29, 30, 31, 32, 33, 34] rfl 0 (ci := 8) rfl rfl rfl rfl hl.1 (Nat.le_of_ble_eq_true rfl) rfl dX8_digest_48 ⟨Nat.le_of_ble_eq_true rfl, Nat.le_of_ble_eq_true rfl⟩ (fun r hr => ?_)
        subst hr
        refine asl (z := rwF σ (dgA σ (z 4)) (k + 1)) rfl ?_
        refine lv_lstore_n (lv' := [(1, .long (rwF σ (dgA σ (z 4)) (k + 1))), (0, .ref (a 34)), (3, .int (nI k))]) hx hb dX8_digest_51 rfl hl (by decide) rfl (fun ls hl => ?_)
        refine lv_iinc (v := nI (k + 1)) (lv' := [(3, .int (nI (k + 1))), (1, .long (rwF σ (dgA σ (z 4)) (k + 1))), (0, .ref (a 34))]) hx hb dX8_digest_52 hl (k := 2) rfl (nI_add _ _) (by decide) rfl (fun ls hl => ?_)
        refine lv_goto (tgt := 31) hx hb dX8_digest_55 (by decide) ?_
        exact ih_31 (rwF σ (dgA σ (z 4)) (k + 1)) (k + 1) rfl (by omega) (by omega) ls (lv_sub hl [2, 1, 0] rfl)
  have L_6 : ∀ (fuel : Nat), ∀ (x1 : Int64) (k : Nat) (e_x1 : x1 = mxF (fun w => cntQ σ (z 4) w) 3469 k) (hk : k ≤ 10) (hfk : 10 - k < fuel), ∀ ls : Array Slot, lv_has ls 4 [(0, .ref (a 34)), (1, .long x1), (3, .int (nI k))] → W p l e rm_X8_digest s m args below meth c s.heap [] 0 0 (MQ below (vp_Sl (fun r => r = dgst σ (z 4) nb bb)) args s 0 0 (fun _ => False)) (F0 m 6 ls []) := by
    intro fuel
    induction fuel with
    | zero => intro x1 k e_x1 hk hfk; exact absurd hfk (by omega)
    | succ fuel ih_6 =>
      intro x1 k e_x1 hk hfk ls hl
      subst e_x1
      refine lv_iload_n hx hb dX8_digest_6 rfl (lv_at hl 2 rfl) ?_
      refine lv_bipush (v := nI 9) hx hb dX8_digest_7 (by decide) ?_
      refine lv_icmp_gt (tgt := 29) hx hb dX8_digest_9 (by decide) (fun c_9 => ?_) (fun c_9 => ?_)
      · have n_9 := (nI_ltI (a := 9) (b := k) (by omega) (by omega)).mp c_9
        refine lv_iconst (v := nI 0) hx hb dX8_digest_29 (by decide) ?_
        refine lv_istore_n (lv' := [(3, .int (nI 0)), (0, .ref (a 34)), (1, .long (mxF (fun w => cntQ σ (z 4) w) 3469 k))]) hx hb dX8_digest_30 rfl hl (by decide) rfl (fun ls hl => ?_)
        exact L_31 (σ 0 + 1) (mxF (fun w => cntQ σ (z 4) w) 3469 k) 0 (by rw [show k = 10 from by omega]; rfl) (by omega) (by omega) ls (lv_sub hl [1, 2, 0] rfl)
      · have n_9 := (not_congr (nI_ltI (a := 9) (b := k) (by omega) (by omega))).mp c_9
        refine lv_lload_n hx hb dX8_digest_12 rfl (lv_at hl 1 rfl) ?_
        refine lv_aload_n hx hb dX8_digest_13 rfl (lv_at hl 0 rfl) ?_
        refine lv_iload_n hx hb dX8_digest_14 rfl (lv_at hl 2 rfl) ?_
        refine cRi (As := [.int (nI k)]) (rest := [.long (mxF (fun w => cntQ σ (z 4) w) 3469 k)]) (m_X8_total l Γ a rf f z σ hR hI k (by omega)) S k_X8_total gX8_digest_X8_total rfl ⟨Nat.le_of_ble_eq_true rfl, Nat.le_of_ble_eq_true rfl⟩ hK hP [0, 1, 2, 3, 4, 5, 6, 7, 8, 9, 10, 11, 12, 13, 14, 15, 16, 17, 18, 19, 20, 21, 22, 23, 24, 25, 26, 27, 28, 29, 30, 31, 32, 33, 34] rfl 0 (ci := 8) rfl rfl rfl rfl hl.1 (Nat.le_of_ble_eq_true rfl) rfl dX8_digest_15 ⟨Nat.le_of_ble_eq_true rfl, Nat.le_of_ble_eq_true rfl⟩ (fun r hr => ?_)
        subst hr
        refine lv_i2l (v := (cntQ σ (z 4) k).toInt64) hx hb dX8_digest_18 rfl ?_
        refine cSl (As := [.long (mxF (fun w => cntQ σ (z 4) w) 3469 k), .long ((cntQ σ (z 4) k).toInt64)]) (rest := []) (m_X8_mixed l (mxF (fun w => cntQ σ (z 4) w) 3469 k) ((cntQ σ (z 4) k).toInt64)) S k_X8_mixed gX8_digest_X8_mixed ⟨Nat.le_of_ble_eq_true rfl, Nat.le_of_ble_eq_true rfl⟩ rfl hl.1 (Nat.le_of_ble_eq_true rfl) rfl dX8_digest_19 ⟨Nat.le_of_ble_eq_true rfl, Nat.le_of_ble_eq_true rfl⟩ (fun r hr => ?_)
        subst hr
        refine asl (z := mxF (fun w => cntQ σ (z 4) w) 3469 (k + 1)) rfl ?_
        refine lv_lstore_n (lv' := [(1, .long (mxF (fun w => cntQ σ (z 4) w) 3469 (k + 1))), (0, .ref (a 34)), (3, .int (nI k))]) hx hb dX8_digest_22 rfl hl (by decide) rfl (fun ls hl => ?_)
        refine lv_iinc (v := nI (k + 1)) (lv' := [(3, .int (nI (k + 1))), (1, .long (mxF (fun w => cntQ σ (z 4) w) 3469 (k + 1))), (0, .ref (a 34))]) hx hb dX8_digest_23 hl (k := 2) rfl (nI_add _ _) (by decide) rfl (fun ls hl => ?_)
        refine lv_goto (tgt := 6) hx hb dX8_digest_26 (by decide) ?_
        exact ih_6 (mxF (fun w => cntQ σ (z 4) w) 3469 (k + 1)) (k + 1) rfl (by omega) (by omega) ls (lv_sub hl [2, 1, 0] rfl)
  refine lv_ldc2 (v := 3469) hx hb hown (hts (.constantLong RX8 268 (3469)) (by decide +kernel)) dX8_digest_0 ?_
  refine lv_lstore_n (lv' := [(1, .long 3469), (0, .ref (a 34))]) hx hb dX8_digest_3 rfl hl (by decide) rfl (fun ls hl => ?_)
  refine lv_iconst (v := nI 0) hx hb dX8_digest_4 (by decide) ?_
  refine lv_istore_n (lv' := [(3, .int (nI 0)), (1, .long 3469), (0, .ref (a 34))]) hx hb dX8_digest_5 rfl hl (by decide) rfl (fun ls hl => ?_)
  exact L_6 11 3469 0 rfl (by omega) (by omega) ls (lv_sub hl [2, 1, 0] rfl)

abbrev rm_Jxe99ae_isNaN_b9ae7 : Room := { frames := 0, cells := 0, slots := 0, locals := 0 }
theorem k_Jxe99ae_isNaN_b9ae7 : Cal yJxe99ae_isNaN_b9ae7 wsJxe99ae_isNaN_b9ae7 rm_Jxe99ae_isNaN_b9ae7 cJxe99ae_isNaN_b9ae7 2 (some .boolean) 1 0 0 := ⟨⟨_, rfl⟩, rfl, rfl, by decide +kernel⟩
set_option maxHeartbeats 4000000 in
set_option maxRecDepth 100000 in
theorem m_Jxe99ae_isNaN_b9ae7 (l : Launch) (x : UInt64) (hN : Op.cmpValue (FP.dcmp x x) .l = 0) : MSi l yJxe99ae_isNaN_b9ae7 wsJxe99ae_isNaN_b9ae7 rm_Jxe99ae_isNaN_b9ae7 [.double x] (fun r => r = bI false) := by
  refine mS (cc := cJxe99ae_isNaN_b9ae7) (maxL := 2) (ret := (some .boolean)) (own := RJxe99ae) (by decide) rfl rfl (Nat.le_of_ble_eq_true rfl) ?_
  intro p e s m args below meth c S hrt hlk ls hl
  obtain ⟨hx, hb, hml, hown, hts⟩ := id S
  have hl : lv_has ls 2 [(0, .double x)] := hl
  refine lv_dload_n hx hb dJxe99ae_isNaN_b9ae7_0 rfl (lv_at hl 0 rfl) ?_
  refine lv_dload_n hx hb dJxe99ae_isNaN_b9ae7_1 rfl (lv_at hl 0 rfl) ?_
  refine lv_dcmp hx hb dJxe99ae_isNaN_b9ae7_2 ?_
  refine asi (z := nI 0) (hN) ?_
  refine lv_if_eq (tgt := 10) hx hb dJxe99ae_isNaN_b9ae7_3 (by decide) (fun c_3 => ?_) (fun c_3 => ?_)
  · refine lv_iconst (v := nI 0) hx hb dJxe99ae_isNaN_b9ae7_10 (by decide) ?_
    exact W.zret (v := nI 0) hx hb hrt (z0) (fun t9 ht9 hW9 => ⟨_, rfl, rfl, ht9⟩) (fun _ h9 => nomatch h9) dJxe99ae_isNaN_b9ae7_11 hlk
  · exact absurd rfl c_3

abbrev rm_Jxe99ae_doubleToLongBits_ccdee : Room := { frames := 1, cells := 0, slots := 0, locals := 23 }
theorem k_Jxe99ae_doubleToLongBits_ccdee : Cal yJxe99ae_doubleToLongBits_ccdee wsJxe99ae_doubleToLongBits_ccdee rm_Jxe99ae_doubleToLongBits_ccdee cJxe99ae_doubleToLongBits_ccdee 2 (some .long) 1 0 0 := ⟨⟨_, rfl⟩, rfl, rfl, by decide +kernel⟩
set_option maxHeartbeats 4000000 in
set_option maxRecDepth 100000 in
theorem m_Jxe99ae_doubleToLongBits_ccdee (l : Launch) (x : UInt64) (hN : Op.cmpValue (FP.dcmp x x) .l = 0) : MSl l yJxe99ae_doubleToLongBits_ccdee wsJxe99ae_doubleToLongBits_ccdee rm_Jxe99ae_doubleToLongBits_ccdee [.double x] (fun r => r = x.toInt64) := by
  refine mS (cc := cJxe99ae_doubleToLongBits_ccdee) (maxL := 2) (ret := (some .long)) (own := RJxe99ae) (by decide) rfl rfl (Nat.le_of_ble_eq_true rfl) ?_
  intro p e s m args below meth c S hrt hlk ls hl
  obtain ⟨hx, hb, hml, hown, hts⟩ := id S
  have hl : lv_has ls 2 [(0, .double x)] := hl
  refine lv_dload_n hx hb dJxe99ae_doubleToLongBits_ccdee_0 rfl (lv_at hl 0 rfl) ?_
  refine cSi (As := [.double x]) (rest := []) (m_Jxe99ae_isNaN_b9ae7 l x hN) S k_Jxe99ae_isNaN_b9ae7 gJxe99ae_doubleToLongBits_ccdee_Jxe99ae_isNaN_b9ae7 ⟨Nat.le_of_ble_eq_true rfl, Nat.le_of_ble_eq_true rfl⟩ rfl hl.1 (Nat.le_of_ble_eq_true rfl) rfl dJxe99ae_doubleToLongBits_ccdee_1 ⟨Nat.le_of_ble_eq_true rfl, Nat.le_of_ble_eq_true rfl⟩ (fun r hr => ?_)
  subst hr
  refine lv_if_ne (tgt := 12) hx hb dJxe99ae_doubleToLongBits_ccdee_4 (by decide) (fun c_4 => ?_) (fun c_4 => ?_)
  · have n_4 := bI_nz.mp c_4
    exact absurd (bI_z.mpr rfl) c_4
  · have n_4 := bI_z.mp c_4
    refine lv_dload_n hx hb dJxe99ae_doubleToLongBits_ccdee_7 rfl (lv_at hl 0 rfl) ?_
    refine vn_d2l hx hb (hml.trans hl.1.symm) hown (hts (.methodLink RJxe99ae 134 ⟨"java/lang/Double", "doubleToRawLongBits", "(D)J"⟩) (by decide +kernel)) (hts (.native ⟨"java/lang/Double", "doubleToRawLongBits", "(D)J"⟩) (by decide +kernel)) (hts (.static ⟨"java/lang/Double", "doubleToRawLongBits", "(D)J"⟩) (by decide +kernel)) (hts (.initialized "java/lang/Double") (by decide +kernel)) (Nat.le_of_ble_eq_true rfl) (Nat.le_of_ble_eq_true rfl) dJxe99ae_doubleToLongBits_ccdee_8 ?_
    exact W.lret (v := x.toInt64) hx hb hrt (fun t9 ht9 hW9 => ⟨_, rfl, rfl, ht9⟩) (fun _ h9 => nomatch h9) dJxe99ae_doubleToLongBits_ccdee_11 hlk

abbrev rm_X9_digest : Room := { frames := 9, cells := 0, slots := 0, locals := 210 }
theorem k_X9_digest : Cal yX9_digest wsX9_digest rm_X9_digest cX9_digest 2 (some .long) 0 0 0 := ⟨⟨_, rfl⟩, rfl, rfl, by decide +kernel⟩
set_option maxHeartbeats 4000000 in
set_option maxRecDepth 100000 in
theorem m_X9_digest (l : Launch) (Γ : Gm) (sz : Nat) (a : Nat → Nat) (v : Nat → Int32) (hs : Int64) (g : Nat → Nat → Int32) (σ : Nat → Nat) (sc : Nat) (ss : Nat → Nat → Nat) (nb : Nat) (bb : Nat → Nat) (hX : MR σ sc ss nb bb v g)  : MWl (S := WtM) l yX9_digest wsX9_digest rm_X9_digest Γ sz (wMd Γ a v hs g) [.ref (a 0)] (fun r u => r = dgst σ (nI sc) nb bb ∧ u.1 0 = nI 0 ∧ MR σ sc ss nb bb u.1 u.2.2) (fun u => (wMd Γ a u.1 u.2.1 u.2.2)) 0 0 := by
  refine mW (cc := cX9_digest) (maxL := 2) (ret := (some .long)) (own := RX9) (by decide) rfl rfl (Nat.le_of_ble_eq_true rfl) ?_
  intro p e s m args below meth c S hrt hlk hin hsz hK hP hD hA hS ls hl
  subst hsz
  generalize hAe : va_A (wMd Γ a v hs g) s.heap.size = A at hD hA hS ⊢
  obtain ⟨hx, hb, hml, hown, hts⟩ := id S
  obtain ⟨hM, hI, hc6, h1, h2, hBR, hSR⟩ := id hX
  have hn := hI.n
  have hn6 := hBR.1
  have hl : lv_has ls 2 [(0, .ref (a 0))] := hl
  have L_143 : ∀ (fuel : Nat), ∀ (hh : Int64) (k : Nat) (e_hh : hh = mxF (fun i => nI (bb i)) (mx (dgD σ (nI sc)) (nI nb).toInt64) k) (hk : k ≤ nb) (hfk : nb - k < fuel), ∀ (H : Heap) (locs : List Loc), gP Γ [(a 0, .inr (9, [.int (nI 0), .ref (a 1), .ref (a 2), .int (v 1), .ref (a 3), .int (v 2), .int (v 3), .int (v 4), .ref (a 4), .int (v 5), .long hh])), (a 1, .inl (Γ.2.1, 130, .inl (g 0))), (a 2, .inl (Γ.2.1, 780, .inl (g 1))), (a 3, .inl (Γ.2.1, 60, .inl (g 2))), (a 4, .inl (Γ.2.1, 88, .inl (g 3)))] H → va_D A [(a 0, .inr (9, [.int (nI 0), .ref (a 1), .ref (a 2), .int (v 1), .ref (a 3), .int (v 2), .int (v 3), .int (v 4), .ref (a 4), .int (v 5), .long hh])), (a 1, .inl (Γ.2.1, 130, .inl (g 0))), (a 2, .inl (Γ.2.1, 780, .inl (g 1))), (a 3, .inl (Γ.2.1, 60, .inl (g 2))), (a 4, .inl (Γ.2.1, 88, .inl (g 3)))] → va_S A s.heap H locs → ∀ ls : Array Slot, lv_has ls 2 [(0, .ref (a 0)), (1, .int (nI k))] → W p l e rm_X9_digest s m args below meth c H locs 0 0 (MQ below (va_Ql (S := WtM) (fun r u => r = dgst σ (nI sc) nb bb ∧ u.1 0 = nI 0 ∧ MR σ sc ss nb bb u.1 u.2.2) (fun u t9 => wd Γ A ((wMd Γ a u.1 u.2.1 u.2.2)) t9) A) args s 0 0 A) (F0 m 143 ls []) := by
    intro fuel
    induction fuel with
    | zero => intro hh k e_hh hk hfk; exact absurd hfk (by omega)
    | succ fuel ih_143 =>
      intro hh k e_hh hk hfk H locs hP hD hS ls hl
      refine lv_iload_n hx hb dX9_digest_143 rfl (lv_at hl 1 rfl) ?_
      refine lv_aload_n hx hb dX9_digest_144 rfl (lv_at hl 0 rfl) ?_
      refine va_get (D := Γ.1) (ci := 9) (v := .int (v 2)) (C := RX9) (T := TX9) (N := 11) hx hb hts (by decide +kernel) hown hK hP 0 rfl rfl 5 (by decide) (hts (.fieldLink RX9 117 "RowVeilsModel" "length" "I") (by decide +kernel)) (fun _ h9 => h9) rfl dX9_digest_145 ?_
      refine asi (z := nI nb) (h2) ?_
      refine lv_icmp_ge (tgt := 168) hx hb dX9_digest_148 (by decide) (fun c_148 => ?_) (fun c_148 => ?_)
      · have n_148 := (nI_leI (a := nb) (b := k) (by omega) (by omega)).mp c_148
        refine lv_aload_n hx hb dX9_digest_168 rfl (lv_at hl 0 rfl) ?_
        refine va_get (D := Γ.1) (ci := 9) (v := .long hh) (C := RX9) (T := TX9) (N := 11) hx hb hts (by decide +kernel) hown hK hP 0 rfl rfl 10 (by decide) (hts (.fieldLink RX9 183 "RowVeilsModel" "hash" "J") (by decide +kernel)) (fun _ h9 => h9) rfl dX9_digest_169 ?_
        exact W.lret (v := hh) hx hb hrt (fun t9 ht9 hW9 => ⟨⟨_, (va_up v 0 (nI 0), hh, g), rfl, ⟨by unfold dgst mxBuf; rw [e_hh, show k = nb from by omega], rfl, (hX.th rfl rfl)⟩, wd_end hK hP hD [0, 1, 2, 3, 4] (by decide) rfl t9 ht9 hW9⟩, hS.F ht9⟩) hS.2.2 dX9_digest_172 hlk
      · have n_148 := (not_congr (nI_leI (a := nb) (b := k) (by omega) (by omega))).mp c_148
        refine lv_aload_n hx hb dX9_digest_151 rfl (lv_at hl 0 rfl) ?_
        refine lv_aload_n hx hb dX9_digest_152 rfl (lv_at hl 0 rfl) ?_
        refine va_get (D := Γ.1) (ci := 9) (v := .ref (a 3)) (C := RX9) (T := TX9) (N := 11) hx hb hts (by decide +kernel) hown hK hP 0 rfl rfl 4 (by decide) (hts (.fieldLink RX9 16 "RowVeilsModel" "buffer" "[I") (by decide +kernel)) (fun _ h9 => h9) rfl dX9_digest_153 ?_
        refine lv_iload_n hx hb dX9_digest_156 rfl (lv_at hl 1 rfl) ?_
        refine va_iald hx hb hK hP 3 0 rfl rfl (vp_in_nI (by omega) (by omega)) dX9_digest_157 ?_
        refine asi (z := nI (bb k)) ((congrArg _ (nI_clamp (by omega))).trans ((hBR.2 _ (by omega)).1)) ?_
        refine lv_i2l (v := (nI (bb k)).toInt64) hx hb dX9_digest_158 rfl ?_
        refine cWv (As := [.long ((nI (bb k)).toInt64)]) (rest := []) (wr := []) (m_X9_hashes l Γ _ a (va_up v 0 (nI 0)) hh g ((nI (bb k)).toInt64)) S k_X9_hashes gX9_digest_X9_hashes rfl ⟨Nat.le_of_ble_eq_true rfl, Nat.le_of_ble_eq_true rfl⟩ hK hP hD hS hA [0, 1, 2, 3, 4] [] rfl rfl (by decide) (by decide) (by decide) 0 (ci := 9) rfl rfl rfl rfl hl.1 (Nat.le_of_ble_eq_true rfl) rfl dX9_digest_159 ⟨Nat.le_of_ble_eq_true rfl, Nat.le_of_ble_eq_true rfl⟩ (fun u H locs hr hP hD hS => ?_)
        have hP : gP Γ [(a 0, .inr (9, [.int (nI 0), .ref (a 1), .ref (a 2), .int (v 1), .ref (a 3), .int (v 2), .int (v 3), .int (v 4), .ref (a 4), .int (v 5), .long (mx hh ((nI (bb k)).toInt64))])), (a 1, .inl (Γ.2.1, 130, .inl (g 0))), (a 2, .inl (Γ.2.1, 780, .inl (g 1))), (a 3, .inl (Γ.2.1, 60, .inl (g 2))), (a 4, .inl (Γ.2.1, 88, .inl (g 3)))] H := hP
        have hD : va_D A [(a 0, .inr (9, [.int (nI 0), .ref (a 1), .ref (a 2), .int (v 1), .ref (a 3), .int (v 2), .int (v 3), .int (v 4), .ref (a 4), .int (v 5), .long (mx hh ((nI (bb k)).toInt64))])), (a 1, .inl (Γ.2.1, 130, .inl (g 0))), (a 2, .inl (Γ.2.1, 780, .inl (g 1))), (a 3, .inl (Γ.2.1, 60, .inl (g 2))), (a 4, .inl (Γ.2.1, 88, .inl (g 3)))] := hD
        refine lv_iinc (v := nI (k + 1)) (lv' := [(1, .int (nI (k + 1))), (0, .ref (a 0))]) hx hb dX9_digest_162 hl (k := 1) rfl (nI_add _ _) (by decide) rfl (fun ls hl => ?_)
        refine lv_goto (tgt := 143) hx hb dX9_digest_165 (by decide) ?_
        exact ih_143 (mx hh ((nI (bb k)).toInt64)) (k + 1) (by rw [e_hh]; rfl) (by omega) (by omega) _ _ hP hD hS ls (lv_sub hl [1, 0] rfl)
  have L_91 : ∀ (fuel : Nat), ∀ (hh : Int64) (k : Nat) (e_hh : hh = mxF (fun r => nI (hidQ σ r)) (dgB σ (nI sc)) k) (hk : k ≤ 4) (hfk : 4 - k < fuel), ∀ (H : Heap) (locs : List Loc), gP Γ [(a 0, .inr (9, [.int (nI 0), .ref (a 1), .ref (a 2), .int (v 1), .ref (a 3), .int (v 2), .int (v 3), .int (v 4), .ref (a 4), .int (v 5), .long hh])), (a 1, .inl (Γ.2.1, 130, .inl (g 0))), (a 2, .inl (Γ.2.1, 780, .inl (g 1))), (a 3, .inl (Γ.2.1, 60, .inl (g 2))), (a 4, .inl (Γ.2.1, 88, .inl (g 3)))] H → va_D A [(a 0, .inr (9, [.int (nI 0), .ref (a 1), .ref (a 2), .int (v 1), .ref (a 3), .int (v 2), .int (v 3), .int (v 4), .ref (a 4), .int (v 5), .long hh])), (a 1, .inl (Γ.2.1, 130, .inl (g 0))), (a 2, .inl (Γ.2.1, 780, .inl (g 1))), (a 3, .inl (Γ.2.1, 60, .inl (g 2))), (a 4, .inl (Γ.2.1, 88, .inl (g 3)))] → va_S A s.heap H locs → ∀ ls : Array Slot, lv_has ls 2 [(0, .ref (a 0)), (1, .int (nI k))] → W p l e rm_X9_digest s m args below meth c H locs 0 0 (MQ below (va_Ql (S := WtM) (fun r u => r = dgst σ (nI sc) nb bb ∧ u.1 0 = nI 0 ∧ MR σ sc ss nb bb u.1 u.2.2) (fun u t9 => wd Γ A ((wMd Γ a u.1 u.2.1 u.2.2)) t9) A) args s 0 0 A) (F0 m 91 ls []) := by
    intro fuel
    induction fuel with
    | zero => intro hh k e_hh hk hfk; exact absurd hfk (by omega)
    | succ fuel ih_91 =>
      intro hh k e_hh hk hfk H locs hP hD hS ls hl
      refine lv_iload_n hx hb dX9_digest_91 rfl (lv_at hl 1 rfl) ?_
      refine lv_iconst (v := nI 4) hx hb dX9_digest_92 (by decide) ?_
      refine lv_icmp_ge (tgt := 112) hx hb dX9_digest_93 (by decide) (fun c_93 => ?_) (fun c_93 => ?_)
      · have n_93 := (nI_leI (a := 4) (b := k) (by omega) (by omega)).mp c_93
        refine lv_aload_n hx hb dX9_digest_112 rfl (lv_at hl 0 rfl) ?_
        refine lv_aload_n hx hb dX9_digest_113 rfl (lv_at hl 0 rfl) ?_
        refine cRi (As := []) (rest := [.ref (a 0)]) (m_X9_blindestOne l Γ a (va_up v 0 (nI 0)) hh g σ hM hI ) S k_X9_blindestOne gX9_digest_X9_blindestOne rfl ⟨Nat.le_of_ble_eq_true rfl, Nat.le_of_ble_eq_true rfl⟩ hK hP [0, 1, 2, 3, 4] rfl 0 (ci := 9) rfl rfl rfl rfl hl.1 (Nat.le_of_ble_eq_true rfl) rfl dX9_digest_114 ⟨Nat.le_of_ble_eq_true rfl, Nat.le_of_ble_eq_true rfl⟩ (fun r hr => ?_)
        subst hr
        refine lv_i2l (v := (nI (blF (seenN σ) 5)).toInt64) hx hb dX9_digest_117 rfl ?_
        refine cWv (As := [.long ((nI (blF (seenN σ) 5)).toInt64)]) (rest := []) (wr := []) (m_X9_hashes l Γ _ a (va_up v 0 (nI 0)) hh g ((nI (blF (seenN σ) 5)).toInt64)) S k_X9_hashes gX9_digest_X9_hashes rfl ⟨Nat.le_of_ble_eq_true rfl, Nat.le_of_ble_eq_true rfl⟩ hK hP hD hS hA [0, 1, 2, 3, 4] [] rfl rfl (by decide) (by decide) (by decide) 0 (ci := 9) rfl rfl rfl rfl hl.1 (Nat.le_of_ble_eq_true rfl) rfl dX9_digest_118 ⟨Nat.le_of_ble_eq_true rfl, Nat.le_of_ble_eq_true rfl⟩ (fun u H locs hr hP hD hS => ?_)
        have hP : gP Γ [(a 0, .inr (9, [.int (nI 0), .ref (a 1), .ref (a 2), .int (v 1), .ref (a 3), .int (v 2), .int (v 3), .int (v 4), .ref (a 4), .int (v 5), .long (mx hh ((nI (blF (seenN σ) 5)).toInt64))])), (a 1, .inl (Γ.2.1, 130, .inl (g 0))), (a 2, .inl (Γ.2.1, 780, .inl (g 1))), (a 3, .inl (Γ.2.1, 60, .inl (g 2))), (a 4, .inl (Γ.2.1, 88, .inl (g 3)))] H := hP
        have hD : va_D A [(a 0, .inr (9, [.int (nI 0), .ref (a 1), .ref (a 2), .int (v 1), .ref (a 3), .int (v 2), .int (v 3), .int (v 4), .ref (a 4), .int (v 5), .long (mx hh ((nI (blF (seenN σ) 5)).toInt64))])), (a 1, .inl (Γ.2.1, 130, .inl (g 0))), (a 2, .inl (Γ.2.1, 780, .inl (g 1))), (a 3, .inl (Γ.2.1, 60, .inl (g 2))), (a 4, .inl (Γ.2.1, 88, .inl (g 3)))] := hD
        refine lv_aload_n hx hb dX9_digest_121 rfl (lv_at hl 0 rfl) ?_
        refine lv_aload_n hx hb dX9_digest_122 rfl (lv_at hl 0 rfl) ?_
        refine cRd (As := []) (rest := [.ref (a 0)]) (m_X9_share l Γ a (va_up v 0 (nI 0)) (mx hh ((nI (blF (seenN σ) 5)).toInt64)) g σ hM hI ) S k_X9_share gX9_digest_X9_share rfl ⟨Nat.le_of_ble_eq_true rfl, Nat.le_of_ble_eq_true rfl⟩ hK hP [0, 1, 2, 3, 4] rfl 0 (ci := 9) rfl rfl rfl rfl hl.1 (Nat.le_of_ble_eq_true rfl) rfl dX9_digest_123 ⟨Nat.le_of_ble_eq_true rfl, Nat.le_of_ble_eq_true rfl⟩ (fun r hr => ?_)
        subst hr
        refine cSl (As := [.double (shareQ σ)]) (rest := [.ref (a 0)]) (m_Jxe99ae_doubleToLongBits_ccdee l (shareQ σ) (bos_n (bos_Q hI))) S k_Jxe99ae_doubleToLongBits_ccdee gX9_digest_Jxe99ae_doubleToLongBits_ccdee ⟨Nat.le_of_ble_eq_true rfl, Nat.le_of_ble_eq_true rfl⟩ rfl hl.1 (Nat.le_of_ble_eq_true rfl) rfl dX9_digest_126 ⟨Nat.le_of_ble_eq_true rfl, Nat.le_of_ble_eq_true rfl⟩ (fun r hr => ?_)
        subst hr
        refine cWv (As := [.long ((shareQ σ).toInt64)]) (rest := []) (wr := []) (m_X9_hashes l Γ _ a (va_up v 0 (nI 0)) (mx hh ((nI (blF (seenN σ) 5)).toInt64)) g ((shareQ σ).toInt64)) S k_X9_hashes gX9_digest_X9_hashes rfl ⟨Nat.le_of_ble_eq_true rfl, Nat.le_of_ble_eq_true rfl⟩ hK hP hD hS hA [0, 1, 2, 3, 4] [] rfl rfl (by decide) (by decide) (by decide) 0 (ci := 9) rfl rfl rfl rfl hl.1 (Nat.le_of_ble_eq_true rfl) rfl dX9_digest_129 ⟨Nat.le_of_ble_eq_true rfl, Nat.le_of_ble_eq_true rfl⟩ (fun u H locs hr hP hD hS => ?_)
        have hP : gP Γ [(a 0, .inr (9, [.int (nI 0), .ref (a 1), .ref (a 2), .int (v 1), .ref (a 3), .int (v 2), .int (v 3), .int (v 4), .ref (a 4), .int (v 5), .long (mx (mx hh ((nI (blF (seenN σ) 5)).toInt64)) ((shareQ σ).toInt64))])), (a 1, .inl (Γ.2.1, 130, .inl (g 0))), (a 2, .inl (Γ.2.1, 780, .inl (g 1))), (a 3, .inl (Γ.2.1, 60, .inl (g 2))), (a 4, .inl (Γ.2.1, 88, .inl (g 3)))] H := hP
        have hD : va_D A [(a 0, .inr (9, [.int (nI 0), .ref (a 1), .ref (a 2), .int (v 1), .ref (a 3), .int (v 2), .int (v 3), .int (v 4), .ref (a 4), .int (v 5), .long (mx (mx hh ((nI (blF (seenN σ) 5)).toInt64)) ((shareQ σ).toInt64))])), (a 1, .inl (Γ.2.1, 130, .inl (g 0))), (a 2, .inl (Γ.2.1, 780, .inl (g 1))), (a 3, .inl (Γ.2.1, 60, .inl (g 2))), (a 4, .inl (Γ.2.1, 88, .inl (g 3)))] := hD
        refine lv_aload_n hx hb dX9_digest_132 rfl (lv_at hl 0 rfl) ?_
        refine lv_aload_n hx hb dX9_digest_133 rfl (lv_at hl 0 rfl) ?_
        refine va_get (D := Γ.1) (ci := 9) (v := .int (v 2)) (C := RX9) (T := TX9) (N := 11) hx hb hts (by decide +kernel) hown hK hP 0 rfl rfl 5 (by decide) (hts (.fieldLink RX9 117 "RowVeilsModel" "length" "I") (by decide +kernel)) (fun _ h9 => h9) rfl dX9_digest_134 ?_
        refine asi (z := nI nb) (h2) ?_
        refine lv_i2l (v := (nI nb).toInt64) hx hb dX9_digest_137 rfl ?_
        refine cWv (As := [.long ((nI nb).toInt64)]) (rest := []) (wr := []) (m_X9_hashes l Γ _ a (va_up v 0 (nI 0)) (mx (mx hh ((nI (blF (seenN σ) 5)).toInt64)) ((shareQ σ).toInt64)) g ((nI nb).toInt64)) S k_X9_hashes gX9_digest_X9_hashes rfl ⟨Nat.le_of_ble_eq_true rfl, Nat.le_of_ble_eq_true rfl⟩ hK hP hD hS hA [0, 1, 2, 3, 4] [] rfl rfl (by decide) (by decide) (by decide) 0 (ci := 9) rfl rfl rfl rfl hl.1 (Nat.le_of_ble_eq_true rfl) rfl dX9_digest_138 ⟨Nat.le_of_ble_eq_true rfl, Nat.le_of_ble_eq_true rfl⟩ (fun u H locs hr hP hD hS => ?_)
        have hP : gP Γ [(a 0, .inr (9, [.int (nI 0), .ref (a 1), .ref (a 2), .int (v 1), .ref (a 3), .int (v 2), .int (v 3), .int (v 4), .ref (a 4), .int (v 5), .long (mx (mx (mx hh ((nI (blF (seenN σ) 5)).toInt64)) ((shareQ σ).toInt64)) ((nI nb).toInt64))])), (a 1, .inl (Γ.2.1, 130, .inl (g 0))), (a 2, .inl (Γ.2.1, 780, .inl (g 1))), (a 3, .inl (Γ.2.1, 60, .inl (g 2))), (a 4, .inl (Γ.2.1, 88, .inl (g 3)))] H := hP
        have hD : va_D A [(a 0, .inr (9, [.int (nI 0), .ref (a 1), .ref (a 2), .int (v 1), .ref (a 3), .int (v 2), .int (v 3), .int (v 4), .ref (a 4), .int (v 5), .long (mx (mx (mx hh ((nI (blF (seenN σ) 5)).toInt64)) ((shareQ σ).toInt64)) ((nI nb).toInt64))])), (a 1, .inl (Γ.2.1, 130, .inl (g 0))), (a 2, .inl (Γ.2.1, 780, .inl (g 1))), (a 3, .inl (Γ.2.1, 60, .inl (g 2))), (a 4, .inl (Γ.2.1, 88, .inl (g 3)))] := hD
        refine lv_iconst (v := nI 0) hx hb dX9_digest_141 (by decide) ?_
        refine lv_istore_n (lv' := [(1, .int (nI 0)), (0, .ref (a 0))]) hx hb dX9_digest_142 rfl hl (by decide) rfl (fun ls hl => ?_)
        exact L_143 (nb + 1) (mx (mx (mx hh ((nI (blF (seenN σ) 5)).toInt64)) ((shareQ σ).toInt64)) ((nI nb).toInt64)) 0 (by unfold dgD dgC; rw [e_hh, show k = 4 from by omega]; rfl) (by omega) (by omega) _ _ hP hD hS ls (lv_sub hl [1, 0] rfl)
      · have n_93 := (not_congr (nI_leI (a := 4) (b := k) (by omega) (by omega))).mp c_93
        refine lv_aload_n hx hb dX9_digest_96 rfl (lv_at hl 0 rfl) ?_
        refine lv_aload_n hx hb dX9_digest_97 rfl (lv_at hl 0 rfl) ?_
        refine lv_iload_n hx hb dX9_digest_98 rfl (lv_at hl 1 rfl) ?_
        refine cRi (As := [.int (nI k)]) (rest := [.ref (a 0)]) (m_X9_hidden l Γ a (va_up v 0 (nI 0)) hh g σ hM hI k (by omega)) S k_X9_hidden gX9_digest_X9_hidden rfl ⟨Nat.le_of_ble_eq_true rfl, Nat.le_of_ble_eq_true rfl⟩ hK hP [0, 1, 2, 3, 4] rfl 0 (ci := 9) rfl rfl rfl rfl hl.1 (Nat.le_of_ble_eq_true rfl) rfl dX9_digest_99 ⟨Nat.le_of_ble_eq_true rfl, Nat.le_of_ble_eq_true rfl⟩ (fun r hr => ?_)
        subst hr
        refine lv_i2l (v := (nI (hidQ σ k)).toInt64) hx hb dX9_digest_102 rfl ?_
        refine cWv (As := [.long ((nI (hidQ σ k)).toInt64)]) (rest := []) (wr := []) (m_X9_hashes l Γ _ a (va_up v 0 (nI 0)) hh g ((nI (hidQ σ k)).toInt64)) S k_X9_hashes gX9_digest_X9_hashes rfl ⟨Nat.le_of_ble_eq_true rfl, Nat.le_of_ble_eq_true rfl⟩ hK hP hD hS hA [0, 1, 2, 3, 4] [] rfl rfl (by decide) (by decide) (by decide) 0 (ci := 9) rfl rfl rfl rfl hl.1 (Nat.le_of_ble_eq_true rfl) rfl dX9_digest_103 ⟨Nat.le_of_ble_eq_true rfl, Nat.le_of_ble_eq_true rfl⟩ (fun u H locs hr hP hD hS => ?_)
        have hP : gP Γ [(a 0, .inr (9, [.int (nI 0), .ref (a 1), .ref (a 2), .int (v 1), .ref (a 3), .int (v 2), .int (v 3), .int (v 4), .ref (a 4), .int (v 5), .long (mx hh ((nI (hidQ σ k)).toInt64))])), (a 1, .inl (Γ.2.1, 130, .inl (g 0))), (a 2, .inl (Γ.2.1, 780, .inl (g 1))), (a 3, .inl (Γ.2.1, 60, .inl (g 2))), (a 4, .inl (Γ.2.1, 88, .inl (g 3)))] H := hP
        have hD : va_D A [(a 0, .inr (9, [.int (nI 0), .ref (a 1), .ref (a 2), .int (v 1), .ref (a 3), .int (v 2), .int (v 3), .int (v 4), .ref (a 4), .int (v 5), .long (mx hh ((nI (hidQ σ k)).toInt64))])), (a 1, .inl (Γ.2.1, 130, .inl (g 0))), (a 2, .inl (Γ.2.1, 780, .inl (g 1))), (a 3, .inl (Γ.2.1, 60, .inl (g 2))), (a 4, .inl (Γ.2.1, 88, .inl (g 3)))] := hD
        refine lv_iinc (v := nI (k + 1)) (lv' := [(1, .int (nI (k + 1))), (0, .ref (a 0))]) hx hb dX9_digest_106 hl (k := 1) rfl (nI_add _ _) (by decide) rfl (fun ls hl => ?_)
        refine lv_goto (tgt := 91) hx hb dX9_digest_109 (by decide) ?_
        exact ih_91 (mx hh ((nI (hidQ σ k)).toInt64)) (k + 1) (by rw [e_hh]; rfl) (by omega) (by omega) _ _ hP hD hS ls (lv_sub hl [1, 0] rfl)
  have L_73 : ∀ (fuel : Nat), ∀ (hh : Int64) (k : Nat) (e_hh : hh = prF σ (rwF σ (dgA σ (nI sc)) (σ 0)) k) (hk : k ≤ 5) (hfk : 5 - k < fuel), ∀ (H : Heap) (locs : List Loc), gP Γ [(a 0, .inr (9, [.int (nI 0), .ref (a 1), .ref (a 2), .int (v 1), .ref (a 3), .int (v 2), .int (v 3), .int (v 4), .ref (a 4), .int (v 5), .long hh])), (a 1, .inl (Γ.2.1, 130, .inl (g 0))), (a 2, .inl (Γ.2.1, 780, .inl (g 1))), (a 3, .inl (Γ.2.1, 60, .inl (g 2))), (a 4, .inl (Γ.2.1, 88, .inl (g 3)))] H → va_D A [(a 0, .inr (9, [.int (nI 0), .ref (a 1), .ref (a 2), .int (v 1), .ref (a 3), .int (v 2), .int (v 3), .int (v 4), .ref (a 4), .int (v 5), .long hh])), (a 1, .inl (Γ.2.1, 130, .inl (g 0))), (a 2, .inl (Γ.2.1, 780, .inl (g 1))), (a 3, .inl (Γ.2.1, 60, .inl (g 2))), (a 4, .inl (Γ.2.1, 88, .inl (g 3)))] → va_S A s.heap H locs → ∀ ls : Array Slot, lv_has ls 2 [(0, .ref (a 0)), (1, .int (nI k))] → W p l e rm_X9_digest s m args below meth c H locs 0 0 (MQ below (va_Ql (S := WtM) (fun r u => r = dgst σ (nI sc) nb bb ∧ u.1 0 = nI 0 ∧ MR σ sc ss nb bb u.1 u.2.2) (fun u t9 => wd Γ A ((wMd Γ a u.1 u.2.1 u.2.2)) t9) A) args s 0 0 A) (F0 m 73 ls []) := by
    intro fuel
    induction fuel with
    | zero => intro hh k e_hh hk hfk; exact absurd hfk (by omega)
    | succ fuel ih_73 =>
      intro hh k e_hh hk hfk H locs hP hD hS ls hl
      refine lv_iload_n hx hb dX9_digest_73 rfl (lv_at hl 1 rfl) ?_
      refine lv_iconst (v := nI 5) hx hb dX9_digest_74 (by decide) ?_
      refine lv_icmp_ge (tgt := 89) hx hb dX9_digest_75 (by decide) (fun c_75 => ?_) (fun c_75 => ?_)
      · have n_75 := (nI_leI (a := 5) (b := k) (by omega) (by omega)).mp c_75
        refine lv_iconst (v := nI 0) hx hb dX9_digest_89 (by decide) ?_
        refine lv_istore_n (lv' := [(1, .int (nI 0)), (0, .ref (a 0))]) hx hb dX9_digest_90 rfl hl (by decide) rfl (fun ls hl => ?_)
        exact L_91 5 hh 0 (by rw [e_hh, show k = 5 from by omega]; rfl) (by omega) (by omega) _ _ hP hD hS ls (lv_sub hl [1, 0] rfl)
      · have n_75 := (not_congr (nI_leI (a := 5) (b := k) (by omega) (by omega))).mp c_75
        refine lv_aload_n hx hb dX9_digest_78 rfl (lv_at hl 0 rfl) ?_
        refine lv_iload_n hx hb dX9_digest_79 rfl (lv_at hl 1 rfl) ?_
        refine cWv (As := [.int (nI k)]) (rest := []) (wr := []) (m_X9_hashesPerson l Γ _ a (va_up v 0 (nI 0)) hh g σ hM hI k (by omega)) S k_X9_hashesPerson gX9_digest_X9_hashesPerson rfl ⟨Nat.le_of_ble_eq_true rfl, Nat.le_of_ble_eq_true rfl⟩ hK hP hD hS hA [0, 1, 2, 3, 4] [] rfl rfl (by decide) (by decide) (by decide) 0 (ci := 9) rfl rfl rfl rfl hl.1 (Nat.le_of_ble_eq_true rfl) rfl dX9_digest_80 ⟨Nat.le_of_ble_eq_true rfl, Nat.le_of_ble_eq_true rfl⟩ (fun u H locs hr hP hD hS => ?_)
        have hP : gP Γ [(a 0, .inr (9, [.int (nI 0), .ref (a 1), .ref (a 2), .int (v 1), .ref (a 3), .int (v 2), .int (v 3), .int (v 4), .ref (a 4), .int (v 5), .long (mxPer σ hh k)])), (a 1, .inl (Γ.2.1, 130, .inl (g 0))), (a 2, .inl (Γ.2.1, 780, .inl (g 1))), (a 3, .inl (Γ.2.1, 60, .inl (g 2))), (a 4, .inl (Γ.2.1, 88, .inl (g 3)))] H := hP
        have hD : va_D A [(a 0, .inr (9, [.int (nI 0), .ref (a 1), .ref (a 2), .int (v 1), .ref (a 3), .int (v 2), .int (v 3), .int (v 4), .ref (a 4), .int (v 5), .long (mxPer σ hh k)])), (a 1, .inl (Γ.2.1, 130, .inl (g 0))), (a 2, .inl (Γ.2.1, 780, .inl (g 1))), (a 3, .inl (Γ.2.1, 60, .inl (g 2))), (a 4, .inl (Γ.2.1, 88, .inl (g 3)))] := hD
        refine lv_iinc (v := nI (k + 1)) (lv' := [(1, .int (nI (k + 1))), (0, .ref (a 0))]) hx hb dX9_digest_83 hl (k := 1) rfl (nI_add _ _) (by decide) rfl (fun ls hl => ?_)
        refine lv_goto (tgt := 73) hx hb dX9_digest_86 (by decide) ?_
        exact ih_73 (mxPer σ hh k) (k + 1) (by rw [e_hh]; rfl) (by omega) (by omega) _ _ hP hD hS ls (lv_sub hl [1, 0] rfl)
  have L_38 : ∀ (fuel : Nat), ∀ (hh : Int64) (k : Nat) (e_hh : hh = mxF (flR σ) (dgA σ (nI sc)) k) (hk : k ≤ (5 * σ 0)) (hfk : (5 * σ 0) - k < fuel), ∀ (H : Heap) (locs : List Loc), gP Γ [(a 0, .inr (9, [.int (nI 0), .ref (a 1), .ref (a 2), .int (v 1), .ref (a 3), .int (v 2), .int (v 3), .int (v 4), .ref (a 4), .int (v 5), .long hh])), (a 1, .inl (Γ.2.1, 130, .inl (g 0))), (a 2, .inl (Γ.2.1, 780, .inl (g 1))), (a 3, .inl (Γ.2.1, 60, .inl (g 2))), (a 4, .inl (Γ.2.1, 88, .inl (g 3)))] H → va_D A [(a 0, .inr (9, [.int (nI 0), .ref (a 1), .ref (a 2), .int (v 1), .ref (a 3), .int (v 2), .int (v 3), .int (v 4), .ref (a 4), .int (v 5), .long hh])), (a 1, .inl (Γ.2.1, 130, .inl (g 0))), (a 2, .inl (Γ.2.1, 780, .inl (g 1))), (a 3, .inl (Γ.2.1, 60, .inl (g 2))), (a 4, .inl (Γ.2.1, 88, .inl (g 3)))] → va_S A s.heap H locs → ∀ ls : Array Slot, lv_has ls 2 [(0, .ref (a 0)), (1, .int (nI k))] → W p l e rm_X9_digest s m args below meth c H locs 0 0 (MQ below (va_Ql (S := WtM) (fun r u => r = dgst σ (nI sc) nb bb ∧ u.1 0 = nI 0 ∧ MR σ sc ss nb bb u.1 u.2.2) (fun u t9 => wd Γ A ((wMd Γ a u.1 u.2.1 u.2.2)) t9) A) args s 0 0 A) (F0 m 38 ls []) := by
    intro fuel
    induction fuel with
    | zero => intro hh k e_hh hk hfk; exact absurd hfk (by omega)
    | succ fuel ih_38 =>
      intro hh k e_hh hk hfk H locs hP hD hS ls hl
      refine lv_iload_n hx hb dX9_digest_38 rfl (lv_at hl 1 rfl) ?_
      refine lv_iconst (v := nI 5) hx hb dX9_digest_39 (by decide) ?_
      refine lv_aload_n hx hb dX9_digest_40 rfl (lv_at hl 0 rfl) ?_
      refine va_get (D := Γ.1) (ci := 9) (v := .ref (a 1)) (C := RX9) (T := TX9) (N := 11) hx hb hts (by decide +kernel) hown hK hP 0 rfl rfl 1 (by decide) (hts (.fieldLink RX9 7 "RowVeilsModel" "s" "[I") (by decide +kernel)) (fun _ h9 => h9) rfl dX9_digest_41 ?_
      refine lv_iconst (v := nI 0) hx hb dX9_digest_44 (by decide) ?_
      refine va_iald hx hb hK hP 1 0 rfl rfl (vp_in_nI (by omega) (by omega)) dX9_digest_45 ?_
      refine asi (z := nI (σ 0)) ((congrArg _ (nI_clamp (by omega))).trans (hM _ (by omega))) ?_
      refine lv_imul hx hb dX9_digest_46 ?_
      refine asi (z := nI (5 * (σ 0))) (pk_mul _ _) ?_
      refine lv_icmp_ge (tgt := 71) hx hb dX9_digest_47 (by decide) (fun c_47 => ?_) (fun c_47 => ?_)
      · have n_47 := (nI_leI (a := (5 * (σ 0))) (b := k) (by omega) (by omega)).mp c_47
        refine lv_iconst (v := nI 0) hx hb dX9_digest_71 (by decide) ?_
        refine lv_istore_n (lv' := [(1, .int (nI 0)), (0, .ref (a 0))]) hx hb dX9_digest_72 rfl hl (by decide) rfl (fun ls hl => ?_)
        exact L_73 6 hh 0 (by rw [e_hh, show k = 5 * σ 0 from by omega, rw_flat]; rfl) (by omega) (by omega) _ _ hP hD hS ls (lv_sub hl [1, 0] rfl)
      · have n_47 := (not_congr (nI_leI (a := (5 * (σ 0))) (b := k) (by omega) (by omega))).mp c_47
        refine lv_aload_n hx hb dX9_digest_50 rfl (lv_at hl 0 rfl) ?_
        refine lv_aload_n hx hb dX9_digest_51 rfl (lv_at hl 0 rfl) ?_
        refine lv_iload_n hx hb dX9_digest_52 rfl (lv_at hl 1 rfl) ?_
        refine lv_iconst (v := nI 5) hx hb dX9_digest_53 (by decide) ?_
        refine lv_idiv hx hb dX9_digest_54 (nI_ne0 (by decide) (by decide)) ?_
        refine asi (z := nI (k / 5)) (pk_div (by omega) (by decide) (by decide)) ?_
        refine lv_iload_n hx hb dX9_digest_55 rfl (lv_at hl 1 rfl) ?_
        refine lv_iconst (v := nI 5) hx hb dX9_digest_56 (by decide) ?_
        refine lv_irem hx hb dX9_digest_57 (nI_ne0 (by decide) (by decide)) ?_
        refine asi (z := nI (k % 5)) (pk_rem (by omega) (by decide) (by decide)) ?_
        refine cRi (As := [.int (nI (k / 5)), .int (nI (k % 5))]) (rest := [.ref (a 0)]) (m_X9_tellsRow l Γ a (va_up v 0 (nI 0)) hh g σ hM hI (k / 5) (k % 5) (by omega) (by omega)) S k_X9_tellsRow gX9_digest_X9_tellsRow rfl ⟨Nat.le_of_ble_eq_true rfl, Nat.le_of_ble_eq_true rfl⟩ hK hP [0, 1, 2, 3, 4] rfl 0 (ci := 9) rfl rfl rfl rfl hl.1 (Nat.le_of_ble_eq_true rfl) rfl dX9_digest_58 ⟨Nat.le_of_ble_eq_true rfl, Nat.le_of_ble_eq_true rfl⟩ (fun r hr => ?_)
        subst hr
        refine lv_i2l (v := (nI (rowN σ (k / 5) (k % 5))).toInt64) hx hb dX9_digest_61 rfl ?_
        refine cWv (As := [.long ((nI (rowN σ (k / 5) (k % 5))).toInt64)]) (rest := []) (wr := []) (m_X9_hashes l Γ _ a (va_up v 0 (nI 0)) hh g ((nI (rowN σ (k / 5) (k % 5))).toInt64)) S k_X9_hashes gX9_digest_X9_hashes rfl ⟨Nat.le_of_ble_eq_true rfl, Nat.le_of_ble_eq_true rfl⟩ hK hP hD hS hA [0, 1, 2, 3, 4] [] rfl rfl (by decide) (by decide) (by decide) 0 (ci := 9) rfl rfl rfl rfl hl.1 (Nat.le_of_ble_eq_true rfl) rfl dX9_digest_62 ⟨Nat.le_of_ble_eq_true rfl, Nat.le_of_ble_eq_true rfl⟩ (fun u H locs hr hP hD hS => ?_)
        have hP : gP Γ [(a 0, .inr (9, [.int (nI 0), .ref (a 1), .ref (a 2), .int (v 1), .ref (a 3), .int (v 2), .int (v 3), .int (v 4), .ref (a 4), .int (v 5), .long (mx hh ((nI (rowN σ (k / 5) (k % 5))).toInt64))])), (a 1, .inl (Γ.2.1, 130, .inl (g 0))), (a 2, .inl (Γ.2.1, 780, .inl (g 1))), (a 3, .inl (Γ.2.1, 60, .inl (g 2))), (a 4, .inl (Γ.2.1, 88, .inl (g 3)))] H := hP
        have hD : va_D A [(a 0, .inr (9, [.int (nI 0), .ref (a 1), .ref (a 2), .int (v 1), .ref (a 3), .int (v 2), .int (v 3), .int (v 4), .ref (a 4), .int (v 5), .long (mx hh ((nI (rowN σ (k / 5) (k % 5))).toInt64))])), (a 1, .inl (Γ.2.1, 130, .inl (g 0))), (a 2, .inl (Γ.2.1, 780, .inl (g 1))), (a 3, .inl (Γ.2.1, 60, .inl (g 2))), (a 4, .inl (Γ.2.1, 88, .inl (g 3)))] := hD
        refine lv_iinc (v := nI (k + 1)) (lv' := [(1, .int (nI (k + 1))), (0, .ref (a 0))]) hx hb dX9_digest_65 hl (k := 1) rfl (nI_add _ _) (by decide) rfl (fun ls hl => ?_)
        refine lv_goto (tgt := 38) hx hb dX9_digest_68 (by decide) ?_
        exact ih_38 (mx hh ((nI (rowN σ (k / 5) (k % 5))).toInt64)) (k + 1) (by rw [e_hh]; rfl) (by omega) (by omega) _ _ hP hD hS ls (lv_sub hl [1, 0] rfl)
  have L_14 : ∀ (fuel : Nat), ∀ (hh : Int64) (k : Nat) (e_hh : hh = mxF (fun w => cntQ σ (nI sc) w) 3469 k) (hk : k ≤ 10) (hfk : 10 - k < fuel), ∀ (H : Heap) (locs : List Loc), gP Γ [(a 0, .inr (9, [.int (nI 0), .ref (a 1), .ref (a 2), .int (v 1), .ref (a 3), .int (v 2), .int (v 3), .int (v 4), .ref (a 4), .int (v 5), .long hh])), (a 1, .inl (Γ.2.1, 130, .inl (g 0))), (a 2, .inl (Γ.2.1, 780, .inl (g 1))), (a 3, .inl (Γ.2.1, 60, .inl (g 2))), (a 4, .inl (Γ.2.1, 88, .inl (g 3)))] H → va_D A [(a 0, .inr (9, [.int (nI 0), .ref (a 1), .ref (a 2), .int (v 1), .ref (a 3), .int (v 2), .int (v 3), .int (v 4), .ref (a 4), .int (v 5), .long hh])), (a 1, .inl (Γ.2.1, 130, .inl (g 0))), (a 2, .inl (Γ.2.1, 780, .inl (g 1))), (a 3, .inl (Γ.2.1, 60, .inl (g 2))), (a 4, .inl (Γ.2.1, 88, .inl (g 3)))] → va_S A s.heap H locs → ∀ ls : Array Slot, lv_has ls 2 [(0, .ref (a 0)), (1, .int (nI k))] → W p l e rm_X9_digest s m args below meth c H locs 0 0 (MQ below (va_Ql (S := WtM) (fun r u => r = dgst σ (nI sc) nb bb ∧ u.1 0 = nI 0 ∧ MR σ sc ss nb bb u.1 u.2.2) (fun u t9 => wd Γ A ((wMd Γ a u.1 u.2.1 u.2.2)) t9) A) args s 0 0 A) (F0 m 14 ls []) := by
    intro fuel
    induction fuel with
    | zero => intro hh k e_hh hk hfk; exact absurd hfk (by omega)
    | succ fuel ih_14 =>
      intro hh k e_hh hk hfk H locs hP hD hS ls hl
      refine lv_iload_n hx hb dX9_digest_14 rfl (lv_at hl 1 rfl) ?_
      refine lv_bipush (v := nI 10) hx hb dX9_digest_15 (by decide) ?_
      refine lv_icmp_ge (tgt := 36) hx hb dX9_digest_17 (by decide) (fun c_17 => ?_) (fun c_17 => ?_)
      · have n_17 := (nI_leI (a := 10) (b := k) (by omega) (by omega)).mp c_17
        refine lv_iconst (v := nI 0) hx hb dX9_digest_36 (by decide) ?_
        refine lv_istore_n (lv' := [(1, .int (nI 0)), (0, .ref (a 0))]) hx hb dX9_digest_37 rfl hl (by decide) rfl (fun ls hl => ?_)
        exact L_38 (5 * σ 0 + 1) hh 0 (by rw [e_hh, show k = 10 from by omega]; rfl) (by omega) (by omega) _ _ hP hD hS ls (lv_sub hl [1, 0] rfl)
      · have n_17 := (not_congr (nI_leI (a := 10) (b := k) (by omega) (by omega))).mp c_17
        refine lv_aload_n hx hb dX9_digest_20 rfl (lv_at hl 0 rfl) ?_
        refine lv_aload_n hx hb dX9_digest_21 rfl (lv_at hl 0 rfl) ?_
        refine lv_iload_n hx hb dX9_digest_22 rfl (lv_at hl 1 rfl) ?_
        refine cRi (As := [.int (nI k)]) (rest := [.ref (a 0)]) (m_X9_tellsCount l Γ a (va_up v 0 (nI 0)) hh g σ hM hI k (by omega)) S k_X9_tellsCount gX9_digest_X9_tellsCount rfl ⟨Nat.le_of_ble_eq_true rfl, Nat.le_of_ble_eq_true rfl⟩ hK hP [0, 1, 2, 3, 4] rfl 0 (ci := 9) rfl rfl rfl rfl hl.1 (Nat.le_of_ble_eq_true rfl) rfl dX9_digest_23 ⟨Nat.le_of_ble_eq_true rfl, Nat.le_of_ble_eq_true rfl⟩ (fun r hr => ?_)
        subst hr
        refine asi (z := cntQ σ (nI sc) k) (by rw [← h1]; rfl) ?_
        refine lv_i2l (v := (cntQ σ (nI sc) k).toInt64) hx hb dX9_digest_26 rfl ?_
        refine cWv (As := [.long ((cntQ σ (nI sc) k).toInt64)]) (rest := []) (wr := []) (m_X9_hashes l Γ _ a (va_up v 0 (nI 0)) hh g ((cntQ σ (nI sc) k).toInt64)) S k_X9_hashes gX9_digest_X9_hashes rfl ⟨Nat.le_of_ble_eq_true rfl, Nat.le_of_ble_eq_true rfl⟩ hK hP hD hS hA [0, 1, 2, 3, 4] [] rfl rfl (by decide) (by decide) (by decide) 0 (ci := 9) rfl rfl rfl rfl hl.1 (Nat.le_of_ble_eq_true rfl) rfl dX9_digest_27 ⟨Nat.le_of_ble_eq_true rfl, Nat.le_of_ble_eq_true rfl⟩ (fun u H locs hr hP hD hS => ?_)
        have hP : gP Γ [(a 0, .inr (9, [.int (nI 0), .ref (a 1), .ref (a 2), .int (v 1), .ref (a 3), .int (v 2), .int (v 3), .int (v 4), .ref (a 4), .int (v 5), .long (mx hh ((cntQ σ (nI sc) k).toInt64))])), (a 1, .inl (Γ.2.1, 130, .inl (g 0))), (a 2, .inl (Γ.2.1, 780, .inl (g 1))), (a 3, .inl (Γ.2.1, 60, .inl (g 2))), (a 4, .inl (Γ.2.1, 88, .inl (g 3)))] H := hP
        have hD : va_D A [(a 0, .inr (9, [.int (nI 0), .ref (a 1), .ref (a 2), .int (v 1), .ref (a 3), .int (v 2), .int (v 3), .int (v 4), .ref (a 4), .int (v 5), .long (mx hh ((cntQ σ (nI sc) k).toInt64))])), (a 1, .inl (Γ.2.1, 130, .inl (g 0))), (a 2, .inl (Γ.2.1, 780, .inl (g 1))), (a 3, .inl (Γ.2.1, 60, .inl (g 2))), (a 4, .inl (Γ.2.1, 88, .inl (g 3)))] := hD
        refine lv_iinc (v := nI (k + 1)) (lv' := [(1, .int (nI (k + 1))), (0, .ref (a 0))]) hx hb dX9_digest_30 hl (k := 1) rfl (nI_add _ _) (by decide) rfl (fun ls hl => ?_)
        refine lv_goto (tgt := 14) hx hb dX9_digest_33 (by decide) ?_
        exact ih_14 (mx hh ((cntQ σ (nI sc) k).toInt64)) (k + 1) (by rw [e_hh]; rfl) (by omega) (by omega) _ _ hP hD hS ls (lv_sub hl [1, 0] rfl)
  have hH : s.heap = s.heap := rfl
  refine lv_aload_n hx hb dX9_digest_0 rfl (lv_at hl 0 rfl) ?_
  refine lv_iconst (v := nI 0) hx hb dX9_digest_1 (by decide) ?_
  refine va_put (D := Γ.1) (ci := 9) (v := .int (nI 0)) (ty := .int) (C := RX9) (T := TX9) (N := 11) hx hb hts (by decide +kernel) tyX9 tyX9_ok nmX9 hown hK hP hD hS 0 rfl rfl 0 (by decide) (hts (.fieldLink RX9 22 "RowVeilsModel" "thrown" "I") (by decide +kernel)) (fun _ h9 => h9) rfl (by decide +kernel) rfl rfl (Nat.le_of_ble_eq_true rfl) dX9_digest_2 (fun H locs hP hD hS => ?_)
  have hP : gP Γ [(a 0, .inr (9, [.int (nI 0), .ref (a 1), .ref (a 2), .int (v 1), .ref (a 3), .int (v 2), .int (v 3), .int (v 4), .ref (a 4), .int (v 5), .long hs])), (a 1, .inl (Γ.2.1, 130, .inl (g 0))), (a 2, .inl (Γ.2.1, 780, .inl (g 1))), (a 3, .inl (Γ.2.1, 60, .inl (g 2))), (a 4, .inl (Γ.2.1, 88, .inl (g 3)))] H := hP
  have hD : va_D A [(a 0, .inr (9, [.int (nI 0), .ref (a 1), .ref (a 2), .int (v 1), .ref (a 3), .int (v 2), .int (v 3), .int (v 4), .ref (a 4), .int (v 5), .long hs])), (a 1, .inl (Γ.2.1, 130, .inl (g 0))), (a 2, .inl (Γ.2.1, 780, .inl (g 1))), (a 3, .inl (Γ.2.1, 60, .inl (g 2))), (a 4, .inl (Γ.2.1, 88, .inl (g 3)))] := hD
  refine lv_aload_n hx hb dX9_digest_5 rfl (lv_at hl 0 rfl) ?_
  refine lv_ldc2 (v := 3469) hx hb hown (hts (.constantLong RX9 191 (3469)) (by decide +kernel)) dX9_digest_6 ?_
  refine va_put (D := Γ.1) (ci := 9) (v := .long 3469) (ty := .long) (C := RX9) (T := TX9) (N := 11) hx hb hts (by decide +kernel) tyX9 tyX9_ok nmX9 hown hK hP hD hS 0 rfl rfl 10 (by decide) (hts (.fieldLink RX9 183 "RowVeilsModel" "hash" "J") (by decide +kernel)) (fun _ h9 => h9) rfl (by decide +kernel) rfl rfl (Nat.le_of_ble_eq_true rfl) dX9_digest_9 (fun H locs hP hD hS => ?_)
  have hP : gP Γ [(a 0, .inr (9, [.int (nI 0), .ref (a 1), .ref (a 2), .int (v 1), .ref (a 3), .int (v 2), .int (v 3), .int (v 4), .ref (a 4), .int (v 5), .long 3469])), (a 1, .inl (Γ.2.1, 130, .inl (g 0))), (a 2, .inl (Γ.2.1, 780, .inl (g 1))), (a 3, .inl (Γ.2.1, 60, .inl (g 2))), (a 4, .inl (Γ.2.1, 88, .inl (g 3)))] H := hP
  have hD : va_D A [(a 0, .inr (9, [.int (nI 0), .ref (a 1), .ref (a 2), .int (v 1), .ref (a 3), .int (v 2), .int (v 3), .int (v 4), .ref (a 4), .int (v 5), .long 3469])), (a 1, .inl (Γ.2.1, 130, .inl (g 0))), (a 2, .inl (Γ.2.1, 780, .inl (g 1))), (a 3, .inl (Γ.2.1, 60, .inl (g 2))), (a 4, .inl (Γ.2.1, 88, .inl (g 3)))] := hD
  refine lv_iconst (v := nI 0) hx hb dX9_digest_12 (by decide) ?_
  refine lv_istore_n (lv' := [(1, .int (nI 0)), (0, .ref (a 0))]) hx hb dX9_digest_13 rfl hl (by decide) rfl (fun ls hl => ?_)
  exact L_14 11 3469 0 rfl (by omega) (by omega) _ _ hP hD hS ls (lv_sub hl [1, 0] rfl)

