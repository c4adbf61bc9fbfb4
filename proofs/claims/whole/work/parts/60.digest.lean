/-! The digest: a fold of 31 * h + v. -/
def mx (h v : Int64) : Int64 := 31 * h + v
def mxF (f : Nat → Int32) (h : Int64) : Nat → Int64
  | 0 => h
  | k + 1 => mx (mxF f h k) (f k).toInt64
def mxRow (σ : Nat → Nat) (h : Int64) (q : Nat) : Int64 := mxF (fun w => nI (rowN σ q w)) h 5
def mxPer (σ : Nat → Nat) (h : Int64) (p : Nat) : Int64 := mx (mxF (fun w => wouQ σ p (-1) 0 99 w) (mxF (fun k => nI (oM σ p k)) (mxF (fun w => perN σ p w) h 8) (oK σ p)) 4) (needQ σ p (-1)).toInt64
def mxBuf (bb : Nat → Nat) (nb : Nat) (h : Int64) : Int64 := mxF (fun i => nI (bb i)) (mx h (nI nb).toInt64) nb
abbrev rm_X8_mixed : Room := { frames := 0, cells := 0, slots := 0, locals := 0 }
theorem k_X8_mixed : Cal yX8_mixed wsX8_mixed rm_X8_mixed cX8_mixed 4 (some .long) 2 0 0 := ⟨⟨_, rfl⟩, rfl, rfl, by decide +kernel⟩
set_option maxHeartbeats 4000000 in
set_option maxRecDepth 100000 in
theorem m_X8_mixed (l : Launch) (h0 v0 : Int64) : MSl l yX8_mixed wsX8_mixed rm_X8_mixed [.long h0, .long v0] (fun r => r = mx h0 v0) := by
  refine mS (cc := cX8_mixed) (maxL := 4) (ret := (some .long)) (own := RX8) (by decide) rfl rfl (Nat.le_of_ble_eq_true rfl) ?_
  intro p e s m args below meth c S hrt hlk ls hl
  obtain ⟨hx, hb, hml, hown, hts⟩ := id S
  have hl : lv_has ls 4 [(0, .long h0), (2, .long v0)] := hl
  refine lv_ldc2 (v := 31) hx hb hown (hts (.constantLong RX8 289 (31)) (by decide +kernel)) dX8_mixed_0 ?_
  refine lv_lload_n hx hb dX8_mixed_3 rfl (lv_at hl 0 rfl) ?_
  refine lv_lmul hx hb dX8_mixed_4 ?_
  refine lv_lload_n hx hb dX8_mixed_5 rfl (lv_at hl 1 rfl) ?_
  refine lv_ladd hx hb dX8_mixed_6 ?_
  exact W.lret (v := (31 * h0) + v0) hx hb hrt (fun t9 ht9 hW9 => ⟨_, rfl, rfl, ht9⟩) (fun _ h9 => nomatch h9) dX8_mixed_7 hlk

abbrev rm_X8_mixedRow : Room := { frames := 4, cells := 0, slots := 0, locals := 93 }
theorem k_X8_mixedRow : Cal yX8_mixedRow wsX8_mixedRow rm_X8_mixedRow cX8_mixedRow 7 (some .long) 2 0 0 := ⟨⟨_, rfl⟩, rfl, rfl, by decide +kernel⟩
set_option maxHeartbeats 4000000 in
set_option maxRecDepth 100000 in
theorem m_X8_mixedRow (l : Launch) (Γ : Gm) (a : Nat → Nat) (rf : Nat → Option Nat) (f : Nat → Nat → Int32) (z : Nat → Int32) (σ : Nat → Nat) (hR : Rep σ f z) (hI : Inv σ) (h0 : Int64) (q : Nat) (hq0 : q < σ 0) : MRl l yX8_mixedRow wsX8_mixedRow rm_X8_mixedRow Γ (wXp Γ a rf f z) [.ref (a 34), .long h0, .int (nI q)] (fun r => r = mxRow σ h0 q) := by
  refine mR (cc := cX8_mixedRow) (maxL := 7) (ret := (some .long)) (own := RX8) (by decide) rfl rfl (Nat.le_of_ble_eq_true rfl) ?_
  intro p e s m args below meth c S hrt hlk hK hP ls hl
  obtain ⟨hx, hb, hml, hown, hts⟩ := id S
  have hn := hI.n
  have hl : lv_has ls 7 [(0, .ref (a 34)), (1, .long h0), (3, .int (nI q))] := hl
  have hP : gP Γ (wXp Γ a rf f z) s.heap := hP
  have L_6 : ∀ (fuel : Nat), ∀ (x4 : Int64) (k : Nat) (e_x4 : x4 = mxF (fun w => nI (rowN σ q w)) h0 k) (hk : k ≤ 5) (hfk : 5 - k < fuel), ∀ ls : Array Slot, lv_has ls 7 [(0, .ref (a 34)), (3, .int (nI q)), (4, .long x4), (6, .int (nI k))] → W p l e rm_X8_mixedRow s m args below meth c s.heap [] 0 0 (MQ below (vp_Sl (fun r => r = mxRow σ h0 q)) args s 0 0 (fun _ => False)) (F0 m 6 ls []) := by
    intro fuel
    induction fuel with
    | zero => intro x4 k e_x4 hk hfk; exact absurd hfk (by omega)
    | succ fuel ih_6 =>
      intro x4 k e_x4 hk hfk ls hl
      subst e_x4
      refine lv_iload hx hb dX8_mixedRow_6 (lv_at hl 3 rfl) ?_
      refine lv_iconst (v := nI 4) hx hb dX8_mixedRow_8 (by decide) ?_
      refine lv_icmp_gt (tgt := 36) hx hb dX8_mixedRow_9 (by decide) (fun c_9 => ?_) (fun c_9 => ?_)
      · have n_9 := (nI_ltI (a := 4) (b := k) (by omega) (by omega)).mp c_9
        refine lv_lload hx hb dX8_mixedRow_36 (lv_at hl 2 rfl) ?_
        exact W.lret (v := mxF (fun w => nI (rowN σ q w)) h0 k) hx hb hrt (fun t9 ht9 hW9 => ⟨_, rfl, by unfold mxRow; rw [show 5 = k from by omega], ht9⟩) (fun _ h9 => nomatch h9) dX8_mixedRow_38 hlk
      · have n_9 := (not_congr (nI_ltI (a := 4) (b := k) (by omega) (by omega))).mp c_9
        refine lv_lload hx hb dX8_mixedRow_12 (lv_at hl 2 rfl) ?_
        refine lv_aload_n hx hb dX8_mixedRow_14 rfl (lv_at hl 0 rfl) ?_
        refine va_get (D := Γ.1) (ci := 8) (v := .ref (a 0)) (C := RX8) (T := TX8) (N := 3) hx hb hts (by decide +kernel) hown hK hP 0 rfl rfl 0 (by decide) (hts (.fieldLink RX8 10 "RowVeils" "state" "LRowVeils$State;") (by decide +kernel)) (fun _ h9 => h9) rfl dX8_mixedRow_15 ?_
        refine lv_iload_n hx hb dX8_mixedRow_18 rfl (lv_at hl 1 rfl) ?_
        refine lv_iload hx hb dX8_mixedRow_19 (lv_at hl 3 rfl) ?_
        refine cRi (As := [.int (nI q), .int (nI k)]) (rest := [.long (mxF (fun w => nI (rowN σ q w)) h0 k)]) (m_X6_rowNumber l Γ a f z σ hR hI q k hq0 (by omega)) S k_X6_rowNumber gX8_mixedRow_X6_rowNumber rfl ⟨Nat.le_of_ble_eq_true rfl, Nat.le_of_ble_eq_true rfl⟩ hK hP [1, 2, 3, 4, 5, 6, 7, 8, 9, 10, 11, 12, 13, 14, 15, 16, 17, 18, 19, 20, 21, 22, 23, 24, 25, 26, 27, 28, 29] rfl 0 (ci := 6) rfl rfl rfl rfl hl.1 (Nat.le_of_ble_eq_true rfl) rfl dX8_mixedRow_21 ⟨Nat.le_of_ble_eq_true rfl, Nat.le_of_ble_eq_true rfl⟩ (fun r hr => ?_)
        subst hr
        refine lv_i2l (v := (nI (rowN σ q k)).toInt64) hx hb dX8_mixedRow_24 rfl ?_
        refine cSl (As := [.long (mxF (fun w => nI (rowN σ q w)) h0 k), .long ((nI (rowN σ q k)).toInt64)]) (rest := []) (m_X8_mixed l (mxF (fun w => nI (rowN σ q w)) h0 k) ((nI (rowN σ q k)).toInt64)) S k_X8_mixed gX8_mixedRow_X8_mixed ⟨Nat.le_of_ble_eq_true rfl, Nat.le_of_ble_eq_true rfl⟩ rfl hl.1 (Nat.le_of_ble_eq_true rfl) rfl dX8_mixedRow_25 ⟨Nat.le_of_ble_eq_true rfl, Nat.le_of_ble_eq_true rfl⟩ (fun r hr => ?_)
        subst hr
        refine asl (z := mxF (fun w => nI (rowN σ q w)) h0 (k + 1)) rfl ?_
        refine lv_lstore (lv' := [(4, .long (mxF (fun w => nI (rowN σ q w)) h0 (k + 1))), (0, .ref (a 34)), (3, .int (nI q)), (6, .int (nI k))]) hx hb dX8_mixedRow_28 hl (by decide) rfl (fun ls hl => ?_)
        refine lv_iinc (v := nI (k + 1)) (lv' := [(6, .int (nI (k + 1))), (4, .long (mxF (fun w => nI (rowN σ q w)) h0 (k + 1))), (0, .ref (a 34)), (3, .int (nI q))]) hx hb dX8_mixedRow_30 hl (k := 3) rfl (nI_add _ _) (by decide) rfl (fun ls hl => ?_)
        refine lv_goto (tgt := 6) hx hb dX8_mixedRow_33 (by decide) ?_
        exact ih_6 (mxF (fun w => nI (rowN σ q w)) h0 (k + 1)) (k + 1) rfl (by omega) (by omega) ls (lv_sub hl [2, 3, 1, 0] rfl)
  refine lv_lload_n hx hb dX8_mixedRow_0 rfl (lv_at hl 1 rfl) ?_
  refine lv_lstore (lv' := [(4, .long h0), (0, .ref (a 34)), (1, .long h0), (3, .int (nI q))]) hx hb dX8_mixedRow_1 hl (by decide) rfl (fun ls hl => ?_)
  refine lv_iconst (v := nI 0) hx hb dX8_mixedRow_3 (by decide) ?_
  refine lv_istore (lv' := [(6, .int (nI 0)), (4, .long h0), (0, .ref (a 34)), (1, .long h0), (3, .int (nI q))]) hx hb dX8_mixedRow_4 hl (by decide) rfl (fun ls hl => ?_)
  exact L_6 6 h0 0 rfl (by omega) (by omega) ls (lv_sub hl [2, 4, 1, 0] rfl)

abbrev rm_X8_mixedPerson : Room := { frames := 5, cells := 0, slots := 0, locals := 117 }
theorem k_X8_mixedPerson : Cal yX8_mixedPerson wsX8_mixedPerson rm_X8_mixedPerson cX8_mixedPerson 7 (some .long) 2 0 0 := ⟨⟨_, rfl⟩, rfl, rfl, by decide +kernel⟩
set_option maxHeartbeats 4000000 in
set_option maxRecDepth 100000 in
theorem m_X8_mixedPerson (l : Launch) (Γ : Gm) (a : Nat → Nat) (rf : Nat → Option Nat) (f : Nat → Nat → Int32) (z : Nat → Int32) (σ : Nat → Nat) (hR : Rep σ f z) (hI : Inv σ) (h0 : Int64) (p0 : Nat) (hp : p0 < 5) : MRl l yX8_mixedPerson wsX8_mixedPerson rm_X8_mixedPerson Γ (wXp Γ a rf f z) [.ref (a 34), .long h0, .int (nI p0)] (fun r => r = mxPer σ h0 p0) := by
  refine mR (cc := cX8_mixedPerson) (maxL := 7) (ret := (some .long)) (own := RX8) (by decide) rfl rfl (Nat.le_of_ble_eq_true rfl) ?_
  intro p e s m args below meth c S hrt hlk hK hP ls hl
  obtain ⟨hx, hb, hml, hown, hts⟩ := id S
  have hk6 := hI.kept hp
  have hl : lv_has ls 7 [(0, .ref (a 34)), (1, .long h0), (3, .int (nI p0))] := hl
  have hP : gP Γ (wXp Γ a rf f z) s.heap := hP
  have L_89 : ∀ (fuel : Nat), ∀ (x4 : Int64) (k : Nat) (e_x4 : x4 = mxF (fun w => wouQ σ p0 (-1) 0 99 w) (mxF (fun k => nI (oM σ p0 k)) (mxF (fun w => perN σ p0 w) h0 8) (oK σ p0)) k) (hk : k ≤ 4) (hfk : 4 - k < fuel), ∀ ls : Array Slot, lv_has ls 7 [(0, .ref (a 34)), (3, .int (nI p0)), (4, .long x4), (6, .int (nI k))] → W p l e rm_X8_mixedPerson s m args below meth c s.heap [] 0 0 (MQ below (vp_Sl (fun r => r = mxPer σ h0 p0)) args s 0 0 (fun _ => False)) (F0 m 89 ls []) := by
    intro fuel
    induction fuel with
    | zero => intro x4 k e_x4 hk hfk; exact absurd hfk (by omega)
    | succ fuel ih_89 =>
      intro x4 k e_x4 hk hfk ls hl
      subst e_x4
      refine lv_iload hx hb dX8_mixedPerson_89 (lv_at hl 3 rfl) ?_
      refine lv_iconst (v := nI 3) hx hb dX8_mixedPerson_91 (by decide) ?_
      refine lv_icmp_gt (tgt := 120) hx hb dX8_mixedPerson_92 (by decide) (fun c_92 => ?_) (fun c_92 => ?_)
      · have n_92 := (nI_ltI (a := 3) (b := k) (by omega) (by omega)).mp c_92
        refine lv_lload hx hb dX8_mixedPerson_120 (lv_at hl 2 rfl) ?_
        refine lv_aload_n hx hb dX8_mixedPerson_122 rfl (lv_at hl 0 rfl) ?_
        refine va_get (D := Γ.1) (ci := 8) (v := .ref (a 0)) (C := RX8) (T := TX8) (N := 3) hx hb hts (by decide +kernel) hown hK hP 0 rfl rfl 0 (by decide) (hts (.fieldLink RX8 10 "RowVeils" "state" "LRowVeils$State;") (by decide +kernel)) (fun _ h9 => h9) rfl dX8_mixedPerson_123 ?_
        refine lv_iload_n hx hb dX8_mixedPerson_126 rfl (lv_at hl 1 rfl) ?_
        refine lv_iconst (v := (-1)) hx hb dX8_mixedPerson_127 (by decide) ?_
        refine cRi (As := [.int (nI p0), .int (-1)]) (rest := [.long (mxF (fun w => wouQ σ p0 (-1) 0 99 w) (mxF (fun k => nI (oM σ p0 k)) (mxF (fun w => perN σ p0 w) h0 8) (oK σ p0)) k)]) (m_X6_leastCoarseness l Γ a f z σ hR hI p0 hp (-1)) S k_X6_leastCoarseness gX8_mixedPerson_X6_leastCoarseness rfl ⟨Nat.le_of_ble_eq_true rfl, Nat.le_of_ble_eq_true rfl⟩ hK hP [1, 2, 3, 4, 5, 6, 7, 8, 9, 10, 11, 12, 13, 14, 15, 16, 17, 18, 19, 20, 21, 22, 23, 24, 25, 26, 27, 28, 29] rfl 0 (ci := 6) rfl rfl rfl rfl hl.1 (Nat.le_of_ble_eq_true rfl) rfl dX8_mixedPerson_128 ⟨Nat.le_of_ble_eq_true rfl, Nat.le_of_ble_eq_true rfl⟩ (fun r hr => ?_)
        subst hr
        refine lv_i2l (v := (needQ σ p0 (-1)).toInt64) hx hb dX8_mixedPerson_131 rfl ?_
        refine cSl (As := [.long (mxF (fun w => wouQ σ p0 (-1) 0 99 w) (mxF (fun k => nI (oM σ p0 k)) (mxF (fun w => perN σ p0 w) h0 8) (oK σ p0)) k), .long ((needQ σ p0 (-1)).toInt64)]) (rest := []) (m_X8_mixed l (mxF (fun w => wouQ σ p0 (-1) 0 99 w) (mxF (fun k => nI (oM σ p0 k)) (mxF (fun w => perN σ p0 w) h0 8) (oK σ p0)) k) ((needQ σ p0 (-1)).toInt64)) S k_X8_mixed gX8_mixedPerson_X8_mixed ⟨Nat.le_of_ble_eq_true rfl, Nat.le_of_ble_eq_true rfl⟩ rfl hl.1 (Nat.le_of_ble_eq_true rfl) rfl dX8_mixedPerson_132 ⟨Nat.le_of_ble_eq_true rfl, Nat.le_of_ble_eq_true rfl⟩ (fun r hr => ?_)
        subst hr
        exact W.lret (v := mx (mxF (fun w => wouQ σ p0 (-1) 0 99 w) (mxF (fun k => nI (oM σ p0 k)) (mxF (fun w => perN σ p0 w) h0 8) (oK σ p0)) k) ((needQ σ p0 (-1)).toInt64)) hx hb hrt (fun t9 ht9 hW9 => ⟨_, rfl, by unfold mxPer; rw [show 4 = k from by omega], ht9⟩) (fun _ h9 => nomatch h9) dX8_mixedPerson_135 hlk
      · have n_92 := (not_congr (nI_ltI (a := 3) (b := k) (by omega) (by omega))).mp c_92
        refine lv_lload hx hb dX8_mixedPerson_95 (lv_at hl 2 rfl) ?_
        refine lv_aload_n hx hb dX8_mixedPerson_97 rfl (lv_at hl 0 rfl) ?_
        refine lv_iload_n hx hb dX8_mixedPerson_98 rfl (lv_at hl 1 rfl) ?_
        refine lv_iconst (v := (-1)) hx hb dX8_mixedPerson_99 (by decide) ?_
        refine lv_iconst (v := nI 0) hx hb dX8_mixedPerson_100 (by decide) ?_
        refine lv_bipush (v := nI 99) hx hb dX8_mixedPerson_101 (by decide) ?_
        refine lv_iload hx hb dX8_mixedPerson_103 (lv_at hl 3 rfl) ?_
        refine cRi (As := [.int (nI p0), .int (-1), .int (nI 0), .int (nI 99), .int (nI k)]) (rest := [.long (mxF (fun w => wouQ σ p0 (-1) 0 99 w) (mxF (fun k => nI (oM σ p0 k)) (mxF (fun w => perN σ p0 w) h0 8) (oK σ p0)) k)]) (m_X8_answerIf l Γ a rf f z σ hR hI p0 hp (-1) 0 99 (by decide) (by decide) k (by omega)) S k_X8_answerIf gX8_mixedPerson_X8_answerIf rfl ⟨Nat.le_of_ble_eq_true rfl, Nat.le_of_ble_eq_true rfl⟩ hK hP [0, 1, 2, 3, 4, 5, 6, 7, 8, 9, 10, 11, 12, 13, 14, 15, 16, 17, 18, 19, 20, 21, 22, 23, 24, 25, 26, 27, 28, 29, 30, 31, 32, 33, 34] rfl 0 (ci := 8) rfl rfl rfl rfl hl.1 (Nat.le_of_ble_eq_true rfl) rfl dX8_mixedPerson_105 ⟨Nat.le_of_ble_eq_true rfl, Nat.le_of_ble_eq_true rfl⟩ (fun r hr => ?_)
        subst hr
        refine lv_i2l (v := (wouQ σ p0 (-1) 0 99 k).toInt64) hx hb dX8_mixedPerson_108 rfl ?_
        refine cSl (As := [.long (mxF (fun w => wouQ σ p0 (-1) 0 99 w) (mxF (fun k => nI (oM σ p0 k)) (mxF (fun w => perN σ p0 w) h0 8) (oK σ p0)) k), .long ((wouQ σ p0 (-1) 0 99 k).toInt64)]) (rest := []) (m_X8_mixed l (mxF (fun w => wouQ σ p0 (-1) 0 99 w) (mxF (fun k => nI (oM σ p0 k)) (mxF (fun w => perN σ p0 w) h0 8) (oK σ p0)) k) ((wouQ σ p0 (-1) 0 99 k).toInt64)) S k_X8_mixed gX8_mixedPerson_X8_mixed ⟨Nat.le_of_ble_eq_true rfl, Nat.le_of_ble_eq_true rfl⟩ rfl hl.1 (Nat.le_of_ble_eq_true rfl) rfl dX8_mixedPerson_109 ⟨Nat.le_of_ble_eq_true rfl, Nat.le_of_ble_eq_true rfl⟩ (fun r hr => ?_)
        subst hr
        refine asl (z := mxF (fun w => wouQ σ p0 (-1) 0 99 w) (mxF (fun k => nI (oM σ p0 k)) (mxF (fun w => perN σ p0 w) h0 8) (oK σ p0)) (k + 1)) rfl ?_
        refine lv_lstore (lv' := [(4, .long (mxF (fun w => wouQ σ p0 (-1) 0 99 w) (mxF (fun k => nI (oM σ p0 k)) (mxF (fun w => perN σ p0 w) h0 8) (oK σ p0)) (k + 1))), (0, .ref (a 34)), (3, .int (nI p0)), (6, .int (nI k))]) hx hb dX8_mixedPerson_112 hl (by decide) rfl (fun ls hl => ?_)
        refine lv_iinc (v := nI (k + 1)) (lv' := [(6, .int (nI (k + 1))), (4, .long (mxF (fun w => wouQ σ p0 (-1) 0 99 w) (mxF (fun k => nI (oM σ p0 k)) (mxF (fun w => perN σ p0 w) h0 8) (oK σ p0)) (k + 1))), (0, .ref (a 34)), (3, .int (nI p0))]) hx hb dX8_mixedPerson_114 hl (k := 3) rfl (nI_add _ _) (by decide) rfl (fun ls hl => ?_)
        refine lv_goto (tgt := 89) hx hb dX8_mixedPerson_117 (by decide) ?_
        exact ih_89 (mxF (fun w => wouQ σ p0 (-1) 0 99 w) (mxF (fun k => nI (oM σ p0 k)) (mxF (fun w => perN σ p0 w) h0 8) (oK σ p0)) (k + 1)) (k + 1) rfl (by omega) (by omega) ls (lv_sub hl [2, 3, 1, 0] rfl)
  have L_40 : ∀ (fuel : Nat), ∀ (x4 : Int64) (k : Nat) (e_x4 : x4 = mxF (fun k => nI (oM σ p0 k)) (mxF (fun w => perN σ p0 w) h0 8) k) (hk : k ≤ oK σ p0) (hfk : oK σ p0 - k < fuel), ∀ ls : Array Slot, lv_has ls 7 [(0, .ref (a 34)), (3, .int (nI p0)), (4, .long x4), (6, .int (nI k))] → W p l e rm_X8_mixedPerson s m args below meth c s.heap [] 0 0 (MQ below (vp_Sl (fun r => r = mxPer σ h0 p0)) args s 0 0 (fun _ => False)) (F0 m 40 ls []) := by
    intro fuel
    induction fuel with
    | zero => intro x4 k e_x4 hk hfk; exact absurd hfk (by omega)
    | succ fuel ih_40 =>
      intro x4 k e_x4 hk hfk ls hl
      subst e_x4
      refine lv_iload hx hb dX8_mixedPerson_40 (lv_at hl 3 rfl) ?_
      refine lv_aload_n hx hb dX8_mixedPerson_42 rfl (lv_at hl 0 rfl) ?_
      refine va_get (D := Γ.1) (ci := 8) (v := .ref (a 0)) (C := RX8) (T := TX8) (N := 3) hx hb hts (by decide +kernel) hown hK hP 0 rfl rfl 0 (by decide) (hts (.fieldLink RX8 10 "RowVeils" "state" "LRowVeils$State;") (by decide +kernel)) (fun _ h9 => h9) rfl dX8_mixedPerson_43 ?_
      refine va_get (D := Γ.1) (ci := 6) (v := .ref (a 17)) (C := RX6) (T := TX6) (N := 6) hx hb hts (by decide +kernel) hown hK hP 1 rfl rfl 2 (by decide) (hts (.fieldLink RX8 90 "RowVeils$State" "memory" "LRowVeils$Memory;") (by decide +kernel)) (fun _ h9 => h9) rfl dX8_mixedPerson_46 ?_
      refine va_get (D := Γ.1) (ci := 2) (v := .ref (a 20)) (C := RX2) (T := TX2) (N := 2) hx hb hts (by decide +kernel) hown hK hP 18 rfl rfl 1 (by decide) (hts (.fieldLink RX8 184 "RowVeils$Memory" "kept" "LRowVeils$Numbers;") (by decide +kernel)) (fun _ h9 => h9) rfl dX8_mixedPerson_49 ?_
      refine lv_iload_n hx hb dX8_mixedPerson_52 rfl (lv_at hl 1 rfl) ?_
      refine cRi (As := [.int (nI p0)]) (rest := [.int (nI k)]) (m_X3_get l Γ (a 20) (a 21) 5 p0 (f 8) (by decide) (by omega)) S k_X3_get gX8_mixedPerson_X3_get rfl ⟨Nat.le_of_ble_eq_true rfl, Nat.le_of_ble_eq_true rfl⟩ hK hP [21, 22] rfl 0 (ci := 3) rfl rfl rfl rfl hl.1 (Nat.le_of_ble_eq_true rfl) rfl dX8_mixedPerson_53 ⟨Nat.le_of_ble_eq_true rfl, Nat.le_of_ble_eq_true rfl⟩ (fun r hr => ?_)
      subst hr
      refine asi (z := nI (oK σ p0)) (hR.kept (by omega)) ?_
      refine lv_icmp_ge (tgt := 86) hx hb dX8_mixedPerson_56 (by decide) (fun c_56 => ?_) (fun c_56 => ?_)
      · have n_56 := (nI_leI (a := (oK σ p0)) (b := k) (by omega) (by omega)).mp c_56
        refine lv_iconst (v := nI 0) hx hb dX8_mixedPerson_86 (by decide) ?_
        refine lv_istore (lv' := [(6, .int (nI 0)), (0, .ref (a 34)), (3, .int (nI p0)), (4, .long (mxF (fun k => nI (oM σ p0 k)) (mxF (fun w => perN σ p0 w) h0 8) k))]) hx hb dX8_mixedPerson_87 hl (by decide) rfl (fun ls hl => ?_)
        exact L_89 5 (mxF (fun k => nI (oM σ p0 k)) (mxF (fun w => perN σ p0 w) h0 8) k) 0 (by rw [show oK σ p0 = k from by omega]; rfl) (by omega) (by omega) ls (lv_sub hl [1, 2, 3, 0] rfl)
      · have n_56 := (not_congr (nI_leI (a := (oK σ p0)) (b := k) (by omega) (by omega))).mp c_56
        refine lv_lload hx hb dX8_mixedPerson_59 (lv_at hl 2 rfl) ?_
        refine lv_aload_n hx hb dX8_mixedPerson_61 rfl (lv_at hl 0 rfl) ?_
        refine va_get (D := Γ.1) (ci := 8) (v := .ref (a 0)) (C := RX8) (T := TX8) (N := 3) hx hb hts (by decide +kernel) hown hK hP 0 rfl rfl 0 (by decide) (hts (.fieldLink RX8 10 "RowVeils" "state" "LRowVeils$State;") (by decide +kernel)) (fun _ h9 => h9) rfl dX8_mixedPerson_62 ?_
        refine va_get (D := Γ.1) (ci := 6) (v := .ref (a 17)) (C := RX6) (T := TX6) (N := 6) hx hb hts (by decide +kernel) hown hK hP 1 rfl rfl 2 (by decide) (hts (.fieldLink RX8 90 "RowVeils$State" "memory" "LRowVeils$Memory;") (by decide +kernel)) (fun _ h9 => h9) rfl dX8_mixedPerson_65 ?_
        refine lv_iload_n hx hb dX8_mixedPerson_68 rfl (lv_at hl 1 rfl) ?_
        refine lv_iload hx hb dX8_mixedPerson_69 (lv_at hl 3 rfl) ?_
        refine cRi (As := [.int (nI p0), .int (nI k)]) (rest := [.long (mxF (fun k => nI (oM σ p0 k)) (mxF (fun w => perN σ p0 w) h0 8) k)]) (m_X2_maskAt l Γ (fun k => a (k + 17)) (fun k => f (k + 7)) p0 (oK σ p0) hp hk6 (hR.kept hp) k (by omega)) S k_X2_maskAt gX8_mixedPerson_X2_maskAt rfl ⟨Nat.le_of_ble_eq_true rfl, Nat.le_of_ble_eq_true rfl⟩ hK hP [18, 19, 20, 21, 22] rfl 0 (ci := 2) rfl rfl rfl rfl hl.1 (Nat.le_of_ble_eq_true rfl) rfl dX8_mixedPerson_71 ⟨Nat.le_of_ble_eq_true rfl, Nat.le_of_ble_eq_true rfl⟩ (fun r hr => ?_)
        subst hr
        refine asi (z := nI (oM σ p0 k)) (by rw [if_pos (by omega)]; exact hR.mask hp (by omega)) ?_
        refine lv_i2l (v := (nI (oM σ p0 k)).toInt64) hx hb dX8_mixedPerson_74 rfl ?_
        refine cSl (As := [.long (mxF (fun k => nI (oM σ p0 k)) (mxF (fun w => perN σ p0 w) h0 8) k), .long ((nI (oM σ p0 k)).toInt64)]) (rest := []) (m_X8_mixed l (mxF (fun k => nI (oM σ p0 k)) (mxF (fun w => perN σ p0 w) h0 8) k) ((nI (oM σ p0 k)).toInt64)) S k_X8_mixed gX8_mixedPerson_X8_mixed ⟨Nat.le_of_ble_eq_true rfl, Nat.le_of_ble_eq_true rfl⟩ rfl hl.1 (Nat.le_of_ble_eq_true rfl) rfl dX8_mixedPerson_75 ⟨Nat.le_of_ble_eq_true rfl, Nat.le_of_ble_eq_true rfl⟩ (fun r hr => ?_)
        subst hr
        refine asl (z := mxF (fun k => nI (oM σ p0 k)) (mxF (fun w => perN σ p0 w) h0 8) (k + 1)) rfl ?_
        refine lv_lstore (lv' := [(4, .long (mxF (fun k => nI (oM σ p0 k)) (mxF (fun w => perN σ p0 w) h0 8) (k + 1))), (0, .ref (a 34)), (3, .int (nI p0)), (6, .int (nI k))]) hx hb dX8_mixedPerson_78 hl (by decide) rfl (fun ls hl => ?_)
        refine lv_iinc (v := nI (k + 1)) (lv' := [(6, .int (nI (k + 1))), (4, .long (mxF (fun k => nI (oM σ p0 k)) (mxF (fun w => perN σ p0 w) h0 8) (k + 1))), (0, .ref (a 34)), (3, .int (nI p0))]) hx hb dX8_mixedPerson_80 hl (k := 3) rfl (nI_add _ _) (by decide) rfl (fun ls hl => ?_)
        refine lv_goto (tgt := 40) hx hb dX8_mixedPerson_83 (by decide) ?_
        exact ih_40 (mxF (fun k => nI (oM σ p0 k)) (mxF (fun w => perN σ p0 w) h0 8) (k + 1)) (k + 1) rfl (by omega) (by omega) ls (lv_sub hl [2, 3, 1, 0] rfl)
  have L_6 : ∀ (fuel : Nat), ∀ (x4 : Int64) (k : Nat) (e_x4 : x4 = mxF (fun w => perN σ p0 w) h0 k) (hk : k ≤ 8) (hfk : 8 - k < fuel), ∀ ls : Array Slot, lv_has ls 7 [(0, .ref (a 34)), (3, .int (nI p0)), (4, .long x4), (6, .int (nI k))] → W p l e rm_X8_mixedPerson s m args below meth c s.heap [] 0 0 (MQ below (vp_Sl (fun r => r = mxPer σ h0 p0)) args s 0 0 (fun _ => False)) (F0 m 6 ls []) := by
    intro fuel
    induction fuel with
    | zero => intro x4 k e_x4 hk hfk; exact absurd hfk (by omega)
    | succ fuel ih_6 =>
      intro x4 k e_x4 hk hfk ls hl
      subst e_x4
      refine lv_iload hx hb dX8_mixedPerson_6 (lv_at hl 3 rfl) ?_
      refine lv_bipush (v := nI 7) hx hb dX8_mixedPerson_8 (by decide) ?_
      refine lv_icmp_gt (tgt := 37) hx hb dX8_mixedPerson_10 (by decide) (fun c_10 => ?_) (fun c_10 => ?_)
      · have n_10 := (nI_ltI (a := 7) (b := k) (by omega) (by omega)).mp c_10
        refine lv_iconst (v := nI 0) hx hb dX8_mixedPerson_37 (by decide) ?_
        refine lv_istore (lv' := [(6, .int (nI 0)), (0, .ref (a 34)), (3, .int (nI p0)), (4, .long (mxF (fun w => perN σ p0 w) h0 k))]) hx hb dX8_mixedPerson_38 hl (by decide) rfl (fun ls hl => ?_)
        exact L_40 (oK σ p0 + 1) (mxF (fun w => perN σ p0 w) h0 k) 0 (by rw [show 8 = k from by omega]; rfl) (by omega) (by omega) ls (lv_sub hl [1, 2, 3, 0] rfl)
      · have n_10 := (not_congr (nI_ltI (a := 7) (b := k) (by omega) (by omega))).mp c_10
        refine lv_lload hx hb dX8_mixedPerson_13 (lv_at hl 2 rfl) ?_
        refine lv_aload_n hx hb dX8_mixedPerson_15 rfl (lv_at hl 0 rfl) ?_
        refine va_get (D := Γ.1) (ci := 8) (v := .ref (a 0)) (C := RX8) (T := TX8) (N := 3) hx hb hts (by decide +kernel) hown hK hP 0 rfl rfl 0 (by decide) (hts (.fieldLink RX8 10 "RowVeils" "state" "LRowVeils$State;") (by decide +kernel)) (fun _ h9 => h9) rfl dX8_mixedPerson_16 ?_
        refine lv_iload_n hx hb dX8_mixedPerson_19 rfl (lv_at hl 1 rfl) ?_
        refine lv_iload hx hb dX8_mixedPerson_20 (lv_at hl 3 rfl) ?_
        refine cRi (As := [.int (nI p0), .int (nI k)]) (rest := [.long (mxF (fun w => perN σ p0 w) h0 k)]) (m_X6_personNumber l Γ a f z σ hR hI p0 k hp (by omega)) S k_X6_personNumber gX8_mixedPerson_X6_personNumber rfl ⟨Nat.le_of_ble_eq_true rfl, Nat.le_of_ble_eq_true rfl⟩ hK hP [1, 2, 3, 4, 5, 6, 7, 8, 9, 10, 11, 12, 13, 14, 15, 16, 17, 18, 19, 20, 21, 22, 23, 24, 25, 26, 27, 28, 29] rfl 0 (ci := 6) rfl rfl rfl rfl hl.1 (Nat.le_of_ble_eq_true rfl) rfl dX8_mixedPerson_22 ⟨Nat.le_of_ble_eq_true rfl, Nat.le_of_ble_eq_true rfl⟩ (fun r hr => ?_)
        subst hr
        refine lv_i2l (v := (perN σ p0 k).toInt64) hx hb dX8_mixedPerson_25 rfl ?_
        refine cSl (As := [.long (mxF (fun w => perN σ p0 w) h0 k), .long ((perN σ p0 k).toInt64)]) (rest := []) (m_X8_mixed l (mxF (fun w => perN σ p0 w) h0 k) ((perN σ p0 k).toInt64)) S k_X8_mixed gX8_mixedPerson_X8_mixed ⟨Nat.le_of_ble_eq_true rfl, Nat.le_of_ble_eq_true rfl⟩ rfl hl.1 (Nat.le_of_ble_eq_true rfl) rfl dX8_mixedPerson_26 ⟨Nat.le_of_ble_eq_true rfl, Nat.le_of_ble_eq_true rfl⟩ (fun r hr => ?_)
        subst hr
        refine asl (z := mxF (fun w => perN σ p0 w) h0 (k + 1)) rfl ?_
        refine lv_lstore (lv' := [(4, .long (mxF (fun w => perN σ p0 w) h0 (k + 1))), (0, .ref (a 34)), (3, .int (nI p0)), (6, .int (nI k))]) hx hb dX8_mixedPerson_29 hl (by decide) rfl (fun ls hl => ?_)
        refine lv_iinc (v := nI (k + 1)) (lv' := [(6, .int (nI (k + 1))), (4, .long (mxF (fun w => perN σ p0 w) h0 (k + 1))), (0, .ref (a 34)), (3, .int (nI p0))]) hx hb dX8_mixedPerson_31 hl (k := 3) rfl (nI_add _ _) (by decide) rfl (fun ls hl => ?_)
        refine lv_goto (tgt := 6) hx hb dX8_mixedPerson_34 (by decide) ?_
        exact ih_6 (mxF (fun w => perN σ p0 w) h0 (k + 1)) (k + 1) rfl (by omega) (by omega) ls (lv_sub hl [2, 3, 1, 0] rfl)
  refine lv_lload_n hx hb dX8_mixedPerson_0 rfl (lv_at hl 1 rfl) ?_
  refine lv_lstore (lv' := [(4, .long h0), (0, .ref (a 34)), (1, .long h0), (3, .int (nI p0))]) hx hb dX8_mixedPerson_1 hl (by decide) rfl (fun ls hl => ?_)
  refine lv_iconst (v := nI 0) hx hb dX8_mixedPerson_3 (by decide) ?_
  refine lv_istore (lv' := [(6, .int (nI 0)), (4, .long h0), (0, .ref (a 34)), (1, .long h0), (3, .int (nI p0))]) hx hb dX8_mixedPerson_4 hl (by decide) rfl (fun ls hl => ?_)
  exact L_6 9 h0 0 rfl (by omega) (by omega) ls (lv_sub hl [2, 4, 1, 0] rfl)

