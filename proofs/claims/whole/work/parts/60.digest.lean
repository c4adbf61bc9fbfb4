/-! The digest: a fold of 31 * h + v. -/
def mx (h v : Int64) : Int64 := 31 * h + v
def mxF (f : Nat → Int32) (h : Int64) : Nat → Int64
  | 0 => h
  | k + 1 => mx (mxF f h k) (f k).toInt64
def mxRow (σ : Nat → Nat) (h : Int64) (q : Nat) : Int64 := mxF (fun w => nI (rowN σ q w)) h 5
def mxPer (σ : Nat → Nat) (h : Int64) (p : Nat) : Int64 := mx (mxF (fun w => wouQ σ p (-1) 0 99 w) (mxF (fun k => nI (oM σ p k)) (mxF (fun w => perN σ p w) h 8) (oK σ p)) 4) (needQ σ p (-1)).toInt64
def mxBuf (bb : Nat → Nat) (nb : Nat) (h : Int64) : Int64 := mxF (fun i => nI (bb i)) (mx h (nI nb).toInt64) nb
abbrev rm_X8_mixed : Room := { frames := 0, cells := 0, slots := 0, locals := 0 }
theorem k_X8_mixed : Cal yX8_mixed wsX8_mixed rm_X8_mixed cX8_mixed 4 (some .long) 2 0 0 := ⟨⟨_, rfl⟩, rfl, rfl, by decide +kernel⟩
set_option maxHeartbeats 4000000 in
set_option maxRecDepth 100000 in
theorem m_X8_mixed (l : Launch) (h0 v0 : Int64) : MSl l yX8_mixed wsX8_mixed rm_X8_mixed [.long h0, .long v0] (fun r => r = mx h0 v0) := by
  refine mS (cc := cX8_mixed) (maxL := 4) (ret := (some .long)) (own := RX8) (by decide) rfl rfl (Nat.le_of_ble_eq_true rfl) ?_
  intro p e s m args below meth c S hrt hlk ls hl
  obtain ⟨hx, hb, hml, hown, hts⟩ := id S
  have hl : lv_has ls 4 [(0, .long h0), (2, .long v0)] := hl
  refine lv_ldc2 (v := 31) hx hb hown (hts (.constantLong RX8 289 (31)) (by decide +kernel)) dX8_mixed_0 ?_
  refine lv_lload_n hx hb dX8_mixed_3 rfl (lv_at hl 0 rfl) ?_
  refine lv_lmul hx hb dX8_mixed_4 ?_
  refine lv_lload_n hx hb dX8_mixed_5 rfl (lv_at hl 1 rfl) ?_
  refine lv_ladd hx hb dX8_mixed_6 ?_
  exact W.lret (v := (31 * h0) + v0) hx hb hrt (fun t9 ht9 hW9 => ⟨_, rfl, rfl, ht9⟩) (fun _ h9 => nomatch h9) dX8_mixed_7 hlk

abbrev rm_X8_mixedRow : Room := { frames := 4, cells := 0, slots := 0, locals := 93 }
theorem k_X8_mixedRow : Cal yX8_mixedRow wsX8_mixedRow rm_X8_mixedRow cX8_mixedRow 7 (some .long) 2 0 0 := ⟨⟨_, rfl⟩, rfl, rfl, by decide +kernel⟩
set_option maxHeartbeats 4000000 in
set_option maxRecDepth 100000 in
theorem m_X8_mixedRow (l : Launch) (Γ : Gm) (a : Nat → Nat) (rf : Nat → Option Nat) (f : Nat → Nat → Int32) (z : Nat → Int32) (σ : Nat → Nat) (hR : Rep σ f z) (hI : Inv σ) (h0 : Int64) (q : Nat) (hq0 : q < σ 0) : MRl l yX8_mixedRow wsX8_mixedRow rm_X8_mixedRow Γ (wXp Γ a rf f z) [.ref (a 34), .long h0, .int (nI q)] (fun r => r = mxRow σ h0 q) := by
  refine mR (cc := cX8_mixedRow) (maxL := 7) (ret := (some .long)) (own := RX8) (by decide) rfl rfl (Nat.le_of_ble_eq_true rfl) ?_
  intro p e s m args below meth c S hrt hlk hK hP ls hl
  obtain ⟨hx, hb, hml, hown, hts⟩ := id S
  have hn := hI.n
  have hl : lv_has ls 7 [(0, .ref (a 34)), (1, .long h0), (3, .int (nI q))] := hl
  have hP : gP Γ (wXp Γ a rf f z) s.heap := hP
  have L_6 : ∀ (fuel : Nat), ∀ (x4 : Int64) (k : Nat) (e_x4 : x4 = mxF (fun w => nI (rowN σ q w)) h0 k) (hk : k ≤ 5) (hfk : 5 - k < fuel), ∀ ls : Array Slot, lv_has ls 7 [(0, .ref (a 34)), (3, .int (nI q)), (4, .long x4), (6, .int (nI k))] → W p l e rm_X8_mixedRow s m args below meth c s.heap [] 0 0 (MQ below (vp_Sl (fun r => r = mxRow σ h0 q)) args s 0 0 (fun _ => False)) (F0 m 6 ls []) := by
    intro fuel
    induction fuel with
    | zero => intro x4 k e_x4 hk hfk; exact absurd hfk (by omega)
    | succ fuel ih_6 =>
      intro x4 k e_x4 hk hfk ls hl
      subst e_x4
      refine lv_iload hx hb dX8_mixedRow_6 (lv_at hl 3 rfl) ?_
      refine lv_iconst (v := nI 4) hx hb dX8_mixedRow_8 (by decide) ?_
      refine lv_icmp_gt (tgt := 36) hx hb dX8_mixedRow_9 (by decide) (fun c_9 => ?_) (fun c_9 => ?_)
      · have n_9 := (nI_ltI (a := 4) (b := k) (by omega) (by omega)).mp c_9
        refine lv_lload hx hb dX8_mixedRow_36 (lv_at hl 2 rfl) ?_
        exact W.lret (v := mxF (fun w => nI (rowN σ q w)) h0 k) hx hb hrt (fun t9 ht9 hW9 => ⟨_, rfl, by unfold mxRow; rw [show 5 = k from by omega], ht9⟩) (fun _ h9 => nomatch h9) dX8_mixedRow_38 hlk
      · have n_9 := (not_congr (nI_ltI (a := 4) (b := k) (by omega) (by omega))).mp c_9
        refine lv_lload hx hb dX8_mixedRow_12 (lv_at hl 2 rfl) ?_
        refine lv_aload_n hx hb dX8_mixedRow_14 rfl (lv_at hl 0 rfl) ?_
        refine va_get (D := Γ.1) (ci := 8) (v := .ref (a 0)) (C := RX8) (T := TX8) (N := 3) hx hb hts (by decide +kernel) hown hK hP 0 rfl rfl 0 (by decide) (hts (.fieldLink RX8 10 "RowVeils" "state" "LRowVeils$State;") (by decide +kernel)) (fun _ h9 => h9) rfl dX8_mixedRow_15 ?_
        refine lv_iload_n hx hb dX8_mixedRow_18 rfl (lv_at hl 1 rfl) ?_
        refine lv_iload hx hb dX8_mixedRow_19 (lv_at hl 3 rfl) ?_
        refine cRi (As := [.int (nI q), .int (nI k)]) (rest := [.long (mxF (fun w => nI (rowN σ q w)) h0 k)]) (m_X6_rowNumber l Γ a f z σ hR hI q k hq0 (by omega)) S k_X6_rowNumber gX8_mixedRow_X6_rowNumber rfl ⟨Nat.le_of_ble_eq_true rfl, Nat.le_of_ble_eq_true rfl⟩ hK hP [1, 2, 3, 4, 5, 6, 7, 8, 9, 10, 11, 12, 13, 14, 15, 16, 17, 18, 19, 20, 21, 22, 23, 24, 25, 26, 27, 28, 29] rfl 0 (ci := 6) rfl rfl rfl rfl hl.1 (Nat.le_of_ble_eq_true rfl) rfl dX8_mixedRow_21 ⟨Nat.le_of_ble_eq_true rfl, Nat.le_of_ble_eq_true rfl⟩ (fun r hr => ?_)
        subst hr
        refine lv_i2l (v := (nI (rowN σ q k)).toInt64) hx hb dX8_mixedRow_24 rfl ?_
        refine cSl (As := [.long (mxF (fun w => nI (rowN σ q w)) h0 k), .long ((nI (rowN σ q k)).toInt64)]) (rest := []) (m_X8_mixed l (mxF (fun w => nI (rowN σ q w)) h0 k) ((nI (rowN σ q k)).toInt64)) S k_X8_mixed gX8_mixedRow_X8_mixed ⟨Nat.le_of_ble_eq_true rfl, Nat.le_of_ble_eq_true rfl⟩ rfl hl.1 (Nat.le_of_ble_eq_true rfl) rfl dX8_mixedRow_25 ⟨Nat.le_of_ble_eq_true rfl, Nat.le_of_ble_eq_true rfl⟩ (fun r hr => ?_)
        subst hr
        refine asl (z := mxF (fun w => nI (rowN σ q w)) h0 (k + 1)) rfl ?_
        refine lv_lstore (lv' := [(4, .long (mxF (fun w => nI (rowN σ q w)) h0 (k + 1))), (0, .ref (a 34)), (3, .int (nI q)), (6, .int (nI k))]) hx hb dX8_mixedRow_28 hl (by decide) rfl (fun ls hl => ?_)
        refine lv_iinc (v := nI (k + 1)) (lv' := [(6, .int (nI (k + 1))), (4, .long (mxF (fun w => nI (rowN σ q w)) h0 (k + 1))), (0, .ref (a 34)), (3, .int (nI q))]) hx hb dX8_mixedRow_30 hl (k := 3) rfl (nI_add _ _) (by decide) rfl (fun ls hl => ?_)
        refine lv_goto (tgt := 6) hx hb dX8_mixedRow_33 (by decide) ?_
        exact ih_6 (mxF (fun w => nI (rowN σ q w)) h0 (k + 1)) (k + 1) rfl (by omega) (by omega) ls (lv_sub hl [2, 3, 1, 0] rfl)
  refine lv_lload_n hx hb dX8_mixedRow_0 rfl (lv_at hl 1 rfl) ?_
  refine lv_lstore (lv' := [(4, .long h0), (0, .ref (a 34)), (1, .long h0), (3, .int (nI q))]) hx hb dX8_mixedRow_1 hl (by decide) rfl (fun ls hl => ?_)
  refine lv_iconst (v := nI 0) hx hb dX8_mixedRow_3 (by decide) ?_
  refine lv_istore (lv' := [(6, .int (nI 0)), (4, .long h0), (0, .ref (a 34)), (1, .long h0), (3, .int (nI q))]) hx hb dX8_mixedRow_4 hl (by decide) rfl (fun ls hl => ?_)
  exact L_6 6 h0 0 rfl (by omega) (by omega) ls (lv_sub hl [2, 4, 1, 0] rfl)

abbrev rm_X8_mixedPerson : Room := { frames := 5, cells := 0, slots := 0, locals := 117 }
theorem k_X8_mixedPerson : Cal yX8_mixedPerson wsX8_mixedPerson rm_X8_mixedPerson cX8_mixedPerson 7 (some .long) 2 0 0 := ⟨⟨_, rfl⟩, rfl, rfl, by decide +kernel⟩
set_option maxHeartbeats 4000000 in
set_option maxRecDepth 100000 in
theorem m_X8_mixedPerson (l : Launch) (Γ : Gm) (a : Nat → Nat) (rf : Nat → Option Nat) (f : Nat → Nat → Int32) (z : Nat → Int32) (σ : Nat → Nat) (hR : Rep σ f z) (hI : Inv σ) (h0 : Int64) (p0 : Nat) (hp : p0 < 5) : MRl l yX8_mixedPerson wsX8_mixedPerson rm_X8_mixedPerson Γ (wXp Γ a rf f z) [.ref (a 34), .long h0, .int (nI p0)] (fun r => r = mxPer σ h0 p0) := by
  refine mR (cc := cX8_mixedPerson) (maxL := 7) (ret := (some .long)) (own := RX8) (by decide) rfl rfl (Nat.le_of_ble_eq_true rfl) ?_
  intro p e s m args below meth c S hrt hlk hK hP ls hl
  obtain ⟨hx, hb, hml, hown, hts⟩ := id S
  have hk6 := hI.kept hp
  have hl : lv_has ls 7 [(0, .ref (a 34)), (1, .long h0), (3, .int (nI p0))] := hl
  have hP : gP Γ (wXp Γ a rf f z) s.heap := hP
  have L_89 : ∀ (fuel : Nat), ∀ (x4 : Int64) (k : Nat) (e_x4 : x4 = mxF (fun w => wouQ σ p0 (-1) 0 99 w) (mxF (fun k => nI (oM σ p0 k)) (mxF (fun w => perN σ p0 w) h0 8) (oK σ p0)) k) (hk : k ≤ 4) (hfk : 4 - k < fuel), ∀ ls : Array Slot, lv_has ls 7 [(0, .ref (a 34)), (3, .int (nI p0)), (4, .long x4), (6, .int (nI k))] → W p l e rm_X8_mixedPerson s m args below meth c s.heap [] 0 0 (MQ below (vp_Sl (fun r => r = mxPer σ h0 p0)) args s 0 0 (fun _ => False)) (F0 m 89 ls []) := by
    intro fuel
    induction fuel with
    | zero => intro x4 k e_x4 hk hfk; exact absurd hfk (by omega)
    | succ fuel ih_89 =>
      intro x4 k e_x4 hk hfk ls hl
      subst e_x4
      refine lv_iload hx hb dX8_mixedPerson_89 (lv_at hl 3 rfl) ?_
      refine lv_iconst (v := nI 3) hx hb dX8_mixedPerson_91 (by decide) ?_
      refine lv_icmp_gt (tgt := 120) hx hb dX8_mixedPerson_92 (by decide) (fun c_92 => ?_) (fun c_92 => ?_)
      · have n_92 := (nI_ltI (a := 3) (b := k) (by omega) (by omega)).mp c_92
        refine lv_lload hx hb dX8_mixedPerson_120 (lv_at hl 2 rfl) ?_
        refine lv_aload_n hx hb dX8_mixedPerson_122 rfl (lv_at hl 0 rfl) ?_
        refine va_get (D := Γ.1) (ci := 8) (v := .ref (a 0)) (C := RX8) (T := TX8) (N := 3) hx hb hts (by decide +kernel) hown hK hP 0 rfl rfl 0 (by decide) (hts (.fieldLink RX8 10 "RowVeils" "state" "LRowVeils$State;") (by decide +kernel)) (fun _ h9 => h9) rfl dX8_mixedPerson_123 ?_
        refine lv_iload_n hx hb dX8_mixedPerson_126 rfl (lv_at hl 1 rfl) ?_
        refine lv_iconst (v := (-1)) hx hb dX8_mixedPerson_127 (by decide) ?_
        refine cRi (As := [.int (nI p0), .int (-1)]) (rest := [.long (mxF (fun w => wouQ σ p0 (-1) 0 99 w) (mxF (fun k => nI (oM σ p0 k)) (mxF (fun w => perN σ p0 w) h0 8) (oK σ p0)) k)]) (m_X6_leastCoarseness l Γ a f z σ hR hI p0 hp (-1)) S k_X6_leastCoarseness gX8_mixedPerson_X6_leastCoarseness rfl ⟨Nat.le_of_ble_eq_true rfl, Nat.le_of_ble_eq_true rfl⟩ hK hP [1, 2, 3, 4, 5, 6, 7, 8, 9, 10, 11, 12, 13, 14, 15, 16, 17, 18, 19, 20, 21, 22, 23, 24, 25, 26, 27, 28, 29] rfl 0 (ci := 6) rfl rfl rfl rfl hl.1 (Nat.le_of_ble_eq_true rfl) rfl dX8_mixedPerson_128 ⟨Nat.le_of_ble_eq_true rfl, Nat.le_of_ble_eq_true rfl⟩ (fun r hr => ?_)
        subst hr
        refine lv_i2l (v := (needQ σ p0 (-1)).toInt64) hx hb dX8_mixedPerson_131 rfl ?_
        refine cSl (As := [.long (mxF (fun w => wouQ σ p0 (-1) 0 99 w) (mxF (fun k => nI (oM σ p0 k)) (mxF (fun w => perN σ p0 w) h0 8) (oK σ p0)) k), .long ((needQ σ p0 (-1)).toInt64)]) (rest := []) (m_X8_mixed l (mxF (fun w => wouQ σ p0 (-1) 0 99 w) (mxF (fun k => nI (oM σ p0 k)) (mxF (fun w => perN σ p0 w) h0 8) (oK σ p0)) k) ((needQ σ p0 (-1)).toInt64)) S k_X8_mixed gX8_mixedPerson_X8_mixed ⟨Nat.le_of_ble_eq_true rfl, Nat.le_of_ble_eq_true rfl⟩ rfl hl.1 (Nat.le_of_ble_eq_true rfl) rfl dX8_mixedPerson_132 ⟨Nat.le_of_ble_eq_true rfl, Nat.le_of_ble_eq_true rfl⟩ (fun r hr => ?_)
        subst hr
        exact W.lret (v := mx (mxF (fun w => wouQ σ p0 (-1) 0 99 w) (mxF (fun k => nI (oM σ p0 k)) (mxF (fun w => perN σ p0 w) h0 8) (oK σ p0)) k) ((needQ σ p0 (-1)).toInt64)) hx hb hrt (fun t9 ht9 hW9 => ⟨_, rfl, by unfold mxPer; rw [show 4 = k from by omega], ht9⟩) (fun _ h9 => nomatch h9) dX8_mixedPerson_135 hlk
      · have n_92 := (not_congr (nI_ltI (a := 3) (b := k) (by omega) (by omega))).mp c_92
        refine lv_lload hx hb dX8_mixedPerson_95 (lv_at hl 2 rfl) ?_
        refine lv_aload_n hx hb dX8_mixedPerson_97 rfl (lv_at hl 0 rfl) ?_
        refine lv_iload_n hx hb dX8_mixedPerson_98 rfl (lv_at hl 1 rfl) ?_
        refine lv_iconst (v := (-1)) hx hb dX8_mixedPerson_99 (by decide) ?_
        refine lv_iconst (v := nI 0) hx hb dX8_mixedPerson_100 (by decide) ?_
        refine lv_bipush (v := nI 99) hx hb dX8_mixedPerson_101 (by decide) ?_
        refine lv_iload hx hb dX8_mixedPerson_103 (lv_at hl 3 rfl) ?_
        refine cRi (As := [.int (nI p0), .int (-1), .int (nI 0), .int (nI 99), .int (nI k)]) (rest := [.long (mxF (fun w => wouQ σ p0 (-1) 0 99 w) (mxF (fun k => nI (oM σ p0 k)) (mxF (fun w => perN σ p0 w) h0 8) (oK σ p0)) k)]) (m_X8_answerIf l Γ a rf f z σ hR hI p0 hp (-1) 0 99 (by decide) (by decide) k (by omega)) S k_X8_answerIf gX8_mixedPerson_X8_answerIf rfl ⟨Nat.le_of_ble_eq_true rfl, Nat.le_of_ble_eq_true rfl⟩ hK hP [0, 1, 2, 3, 4, 5, 6, 7, 8, 9, 10, 11, 12, 13, 14, 15, 16, 17, 18, 19, 20, 21, 22, 23, 24, 25, 26, 27, 28, 29, 30, 31, 32, 33, 34] rfl 0 (ci := 8) rfl rfl rfl rfl hl.1 (Nat.le_of_ble_eq_true rfl) rfl dX8_mixedPerson_105 ⟨Nat.le_of_ble_eq_true rfl, Nat.le_of_ble_eq_true rfl⟩ (fun r hr => ?_)
        subst hr
        refine lv_i2l (v := (wouQ σ p0 (-1) 0 99 k).toInt64) hx hb dX8_mixedPerson_108 rfl ?_
        refine cSl (As := [.long (mxF (fun w => wouQ σ p0 (-1) 0 99 w) (mxF (fun k => nI (oM σ p0 k)) (mxF (fun w => perN σ p0 w) h0 8) (oK σ p0)) k), .long ((wouQ σ p0 (-1) 0 99 k).toInt64)]) (rest := []) (m_X8_mixed l (mxF (fun w => wouQ σ p0 (-1) 0 99 w) (mxF (fun k => nI (oM σ p0 k)) (mxF (fun w => perN σ p0 w) h0 8) (oK σ p0)) k) ((wouQ σ p0 (-1) 0 99 k).toInt64)) S k_X8_mixed gX8_mixedPerson_X8_mixed ⟨Nat.le_of_ble_eq_true rfl, Nat.le_of_ble_eq_true rfl⟩ rfl hl.1 (Nat.le_of_ble_eq_true rfl) rfl dX8_mixedPerson_109 ⟨Nat.le_of_ble_eq_true rfl, Nat.le_of_ble_eq_true rfl⟩ (fun r hr => ?_)
        subst hr
        refine asl (z := mxF (fun w => wouQ σ p0 (-1) 0 99 w) (mxF (fun k => nI (oM σ p0 k)) (mxF (fun w => perN σ p0 w) h0 8) (oK σ p0)) (k + 1)) rfl ?_
        refine lv_lstore (lv' := [(4, .long (mxF (fun w => wouQ σ p0 (-1) 0 99 w) (mxF (fun k => nI (oM σ p0 k)) (mxF (fun w => perN σ p0 w) h0 8) (oK σ p0)) (k + 1))), (0, .ref (a 34)), (3, .int (nI p0)), (6, .int (nI k))]) hx hb dX8_mixedPerson_112 hl (by decide) rfl (fun ls hl => ?_)
        refine lv_iinc (v := nI (k + 1)) (lv' := [(6, .int (nI (k + 1))), (4, .long (mxF (fun w => wouQ σ p0 (-1) 0 99 w) (mxF (fun k => nI (oM σ p0 k)) (mxF (fun w => perN σ p0 w) h0 8) (oK σ p0)) (k + 1))), (0, .ref (a 34)), (3, .int (nI p0))]) hx hb dX8_mixedPerson_114 hl (k := 3) rfl (nI_add _ _) (by decide) rfl (fun ls hl => ?_)
        refine lv_goto (tgt := 89) hx hb dX8_mixedPerson_117 (by decide) ?_
        exact ih_89 (mxF (fun w => wouQ σ p0 (-1) 0 99 w) (mxF (fun k => nI (oM σ p0 k)) (mxF (fun w => perN σ p0 w) h0 8) (oK σ p0)) (k + 1)) (k + 1) rfl (by omega) (by omega) ls (lv_sub hl [2, 3, 1, 0] rfl)
  have L_40 : ∀ (fuel : Nat), ∀ (x4 : Int64) (k : Nat) (e_x4 : x4 = mxF (fun k => nI (oM σ p0 k)) (mxF (fun w => perN σ p0 w) h0 8) k) (hk : k ≤ oK σ p0) (hfk : oK σ p0 - k < fuel), ∀ ls : Array Slot, lv_has ls 7 [(0, .ref (a 34)), (3, .int (nI p0)), (4, .long x4), (6, .int (nI k))] → W p l e rm_X8_mixedPerson s m args below meth c s.heap [] 0 0 (MQ below (vp_Sl (fun r => r = mxPer σ h0 p0)) args s 0 0 (fun _ => False)) (F0 m 40 ls []) := by
    intro fuel
    induction fuel with
    | zero => intro x4 k e_x4 hk hfk; exact absurd hfk (by omega)
    | succ fuel ih_40 =>
      intro x4 k e_x4 hk hfk ls hl
      subst e_x4
      refine lv_iload hx hb dX8_mixedPerson_40 (lv_at hl 3 rfl) ?_
      refine lv_aload_n hx hb dX8_mixedPerson_42 rfl (lv_at hl 0 rfl) ?_
      refine va_get (D := Γ.1) (ci := 8) (v := .ref (a 0)) (C := RX8) (T := TX8) (N := 3) hx hb hts (by decide +kernel) hown hK hP 0 rfl rfl 0 (by decide) (hts (.fieldLink RX8 10 "RowVeils" "state" "LRowVeils$State;") (by decide +kernel)) (fun _ h9 => h9) rfl dX8_mixedPerson_43 ?_
      refine va_get (D := Γ.1) (ci := 6) (v := .ref (a 17)) (C := RX6) (T := TX6) (N := 6) hx hb hts (by decide +kernel) hown hK hP 1 rfl rfl 2 (by decide) (hts (.fieldLink RX8 90 "RowVeils$State" "memory" "LRowVeils$Memory;") (by decide +kernel)) (fun _ h9 => h9) rfl dX8_mixedPerson_46 ?_
      refine va_get (D := Γ.1) (ci := 2) (v := .ref (a 20)) (C := RX2) (T := TX2) (N := 2) hx hb hts (by decide +kernel) hown hK hP 18 rfl rfl 1 (by decide) (hts (.fieldLink RX8 184 "RowVeils$Memory" "kept" "LRowVeils$Numbers;") (by decide +kernel)) (fun _ h9 => h9) rfl dX8_mixedPerson_49 ?_
      refine lv_iload_n hx hb dX8_mixedPerson_52 rfl (lv_at hl 1 rfl) ?_
      refine cRi (As := [.int (nI p0)]) (rest := [.int (nI k)]) (m_X3_get l Γ (a 20) (a 21) 5 p0 (f 8) (by decide) (by omega)) S k_X3_get gX8_mixedPerson_X3_get rfl ⟨Nat.le_of_ble_eq_true rfl, Nat.le_of_ble_eq_true rfl⟩ hK hP [21, 22] rfl 0 (ci := 3) rfl rfl rfl rfl hl.1 (Nat.le_of_ble_eq_true rfl) rfl dX8_mixedPerson_53 ⟨Nat.le_of_ble_eq_true rfl, Nat.le_of_ble_eq_true rfl⟩ (fun r hr => ?_)
      subst hr
      refine asi (z := nI (oK σ p0)) (hR.kept (by omega)) ?_
      refine lv_icmp_ge (tgt := 86) hx hb dX8_mixedPerson_56 (by decide) (fun c_56 => ?_) (fun c_56 => ?_)
      · have n_56 := (nI_leI (a := (oK σ p0)) (b := k) (by omega) (by omega)).mp c_56
        refine lv_iconst (v := nI 0) hx hb dX8_mixedPerson_86 (by decide) ?_
        refine lv_istore (lv' := [(6, .int (nI 0)), (0, .ref (a 34)), (3, .int (nI p0)), (4, .long (mxF (fun k => nI (oM σ p0 k)) (mxF (fun w => perN σ p0 w) h0 8) k))]) hx hb dX8_mixedPerson_87 hl (by decide) rfl (fun ls hl => ?_)
        exact L_89 5 (mxF (fun k => nI (oM σ p0 k)) (mxF (fun w => perN σ p0 w) h0 8) k) 0 (by rw [show oK σ p0 = k from by omega]; rfl) (by omega) (by omega) ls (lv_sub hl [1, 2, 3, 0] rfl)
      · have n_56 := (not_congr (nI_leI (a := (oK σ p0)) (b := k) (by omega) (by omega))).mp c_56
        refine lv_lload hx hb dX8_mixedPerson_59 (lv_at hl 2 rfl) ?_
        refine lv_aload_n hx hb dX8_mixedPerson_61 rfl (lv_at hl 0 rfl) ?_
        refine va_get (D := Γ.1) (ci := 8) (v := .ref (a 0)) (C := RX8) (T := TX8) (N := 3) hx hb hts (by decide +kernel) hown hK hP 0 rfl rfl 0 (by decide) (hts (.fieldLink RX8 10 "RowVeils" "state" "LRowVeils$State;") (by decide +kernel)) (fun _ h9 => h9) rfl dX8_mixedPerson_62 ?_
        refine va_get (D := Γ.1) (ci := 6) (v := .ref (a 17)) (C := RX6) (T := TX6) (N := 6) hx hb hts (by decide +kernel) hown hK hP 1 rfl rfl 2 (by decide) (hts (.fieldLink RX8 90 "RowVeils$State" "memory" "LRowVeils$Memory;") (by decide +kernel)) (fun _ h9 => h9) rfl dX8_mixedPerson_65 ?_
        refine lv_iload_n hx hb dX8_mixedPerson_68 rfl (lv_at hl 1 rfl) ?_
        refine lv_iload hx hb dX8_mixedPerson_69 (lv_at hl 3 rfl) ?_
        refine cRi (As := [.int (nI p0), .int (nI k)]) (rest := [.long (mxF (fun k => nI (oM σ p0 k)) (mxF (fun w => perN σ p0 w) h0 8) k)]) (m_X2_maskAt l Γ (fun k => a (k + 17)) (fun k => f (k + 7)) p0 (oK σ p0) hp hk6 (hR.kept hp) k (by omega)) S k_X2_maskAt gX8_mixedPerson_X2_maskAt rfl ⟨Nat.le_of_ble_eq_true rfl, Nat.le_of_ble_eq_true rfl⟩ hK hP [18, 19, 20, 21, 22] rfl 0 (ci := 2) rfl rfl rfl rfl hl.1 (Nat.le_of_ble_eq_true rfl) rfl dX8_mixedPerson_71 ⟨Nat.le_of_ble_eq_true rfl, Nat.le_of_ble_eq_true rfl⟩ (fun r hr => ?_)
        subst hr
        refine asi (z := nI (oM σ p0 k)) (by rw [if_pos (by omega)]; exact hR.mask hp (by omega)) ?_
        refine lv_i2l (v := (nI (oM σ p0 k)).toInt64) hx hb dX8_mixedPerson_74 rfl ?_
        refine cSl (As := [.long (mxF (fun k => nI (oM σ p0 k)) (mxF (fun w => perN σ p0 w) h0 8) k), .long ((nI (oM σ p0 k)).toInt64)]) (rest := []) (m_X8_mixed l (mxF (fun k => nI (oM σ p0 k)) (mxF (fun w => perN σ p0 w) h0 8) k) ((nI (oM σ p0 k)).toInt64)) S k_X8_mixed gX8_mixedPerson_X8_mixed ⟨Nat.le_of_ble_eq_true rfl, Nat.le_of_ble_eq_true rfl⟩ rfl hl.1 (Nat.le_of_ble_eq_true rfl) rfl dX8_mixedPerson_75 ⟨Nat.le_of_ble_eq_true rfl, Nat.le_of_ble_eq_true rfl⟩ (fun r hr => ?_)
        subst hr
        refine asl (z := mxF (fun k => nI (oM σ p0 k)) (mxF (fun w => perN σ p0 w) h0 8) (k + 1)) rfl ?_
        refine lv_lstore (lv' := [(4, .long (mxF (fun k => nI (oM σ p0 k)) (mxF (fun w => perN σ p0 w) h0 8) (k + 1))), (0, .ref (a 34)), (3, .int (nI p0)), (6, .int (nI k))]) hx hb dX8_mixedPerson_78 hl (by decide) rfl (fun ls hl => ?_)
        refine lv_iinc (v := nI (k + 1)) (lv' := [(6, .int (nI (k + 1))), (4, .long (mxF (fun k => nI (oM σ p0 k)) (mxF (fun w => perN σ p0 w) h0 8) (k + 1))), (0, .ref (a 34)), (3, .int (nI p0))]) hx hb dX8_mixedPerson_80 hl (k := 3) rfl (nI_add _ _) (by decide) rfl (fun ls hl => ?_)
        refine lv_goto (tgt := 40) hx hb dX8_mixedPerson_83 (by decide) ?_
        exact ih_40 (mxF (fun k => nI (oM σ p0 k)) (mxF (fun w => perN σ p0 w) h0 8) (k + 1)) (k + 1) rfl (by omega) (by omega) ls (lv_sub hl [2, 3, 1, 0] rfl)
  have L_6 : ∀ (fuel : Nat), ∀ (x4 : Int64) (k : Nat) (e_x4 : x4 = mxF (fun w => perN σ p0 w) h0 k) (hk : k ≤ 8) (hfk : 8 - k < fuel), ∀ ls : Array Slot, lv_has ls 7 [(0, .ref (a 34)), (3, .int (nI p0)), (4, .long x4), (6, .int (nI k))] → W p l e rm_X8_mixedPerson s m args below meth c s.heap [] 0 0 (MQ below (vp_Sl (fun r => r = mxPer σ h0 p0)) args s 0 0 (fun _ => False)) (F0 m 6 ls []) := by
    intro fuel
    induction fuel with
    | zero => intro x4 k e_x4 hk hfk; exact absurd hfk (by omega)
    | succ fuel ih_6 =>
      intro x4 k e_x4 hk hfk ls hl
      subst e_x4
      refine lv_iload hx hb dX8_mixedPerson_6 (lv_at hl 3 rfl) ?_
      refine lv_bipush (v := nI 7) hx hb dX8_mixedPerson_8 (by decide) ?_
      refine lv_icmp_gt (tgt := 37) hx hb dX8_mixedPerson_10 (by decide) (fun c_10 => ?_) (fun c_10 => ?_)
      · have n_10 := (nI_ltI (a := 7) (b := k) (by omega) (by omega)).mp c_10
        refine lv_iconst (v := nI 0) hx hb dX8_mixedPerson_37 (by decide) ?_
        refine lv_istore (lv' := [(6, .int (nI 0)), (0, .ref (a 34)), (3, .int (nI p0)), (4, .long (mxF (fun w => perN σ p0 w) h0 k))]) hx hb dX8_mixedPerson_38 hl (by decide) rfl (fun ls hl => ?_)
        exact L_40 (oK σ p0 + 1) (mxF (fun w => perN σ p0 w) h0 k) 0 (by rw [show 8 = k from by omega]; rfl) (by omega) (by omega) ls (lv_sub hl [1, 2, 3, 0] rfl)
      · have n_10 := (not_congr (nI_ltI (a := 7) (b := k) (by omega) (by omega))).mp c_10
        refine lv_lload hx hb dX8_mixedPerson_13 (lv_at hl 2 rfl) ?_
        refine lv_aload_n hx hb dX8_mixedPerson_15 rfl (lv_at hl 0 rfl) ?_
        refine va_get (D := Γ.1) (ci := 8) (v := .ref (a 0)) (C := RX8) (T := TX8) (N := 3) hx hb hts (by decide +kernel) hown hK hP 0 rfl rfl 0 (by decide) (hts (.fieldLink RX8 10 "RowVeils" "state" "LRowVeils$State;") (by decide +kernel)) (fun _ h9 => h9) rfl dX8_mixedPerson_16 ?_
        refine lv_iload_n hx hb dX8_mixedPerson_19 rfl (lv_at hl 1 rfl) ?_
        refine lv_iload hx hb dX8_mixedPerson_20 (lv_at hl 3 rfl) ?_
        refine cRi (As := [.int (nI p0), .int (nI k)]) (rest := [.long (mxF (fun w => perN σ p0 w) h0 k)]) (m_X6_personNumber l Γ a f z σ hR hI p0 k hp (by omega)) S k_X6_personNumber gX8_mixedPerson_X6_personNumber rfl ⟨Nat.le_of_ble_eq_true rfl, Nat.le_of_ble_eq_true rfl⟩ hK hP [1, 2, 3, 4, 5, 6, 7, 8, 9, 10, 11, 12, 13, 14, 15, 16, 17, 18, 19, 20, 21, 22, 23, 24, 25, 26, 27, 28, 29] rfl 0 (ci := 6) rfl rfl rfl rfl hl.1 (Nat.le_of_ble_eq_true rfl) rfl dX8_mixedPerson_22 ⟨Nat.le_of_ble_eq_true rfl, Nat.le_of_ble_eq_true rfl⟩ (fun r hr => ?_)
        subst hr
        refine lv_i2l (v := (perN σ p0 k).toInt64) hx hb dX8_mixedPerson_25 rfl ?_
        refine cSl (As := [.long (mxF (fun w => perN σ p0 w) h0 k), .long ((perN σ p0 k).toInt64)]) (rest := []) (m_X8_mixed l (mxF (fun w => perN σ p0 w) h0 k) ((perN σ p0 k).toInt64)) S k_X8_mixed gX8_mixedPerson_X8_mixed ⟨Nat.le_of_ble_eq_true rfl, Nat.le_of_ble_eq_true rfl⟩ rfl hl.1 (Nat.le_of_ble_eq_true rfl) rfl dX8_mixedPerson_26 ⟨Nat.le_of_ble_eq_true rfl, Nat.le_of_ble_eq_true rfl⟩ (fun r hr => ?_)
        subst hr
        refine asl (z := mxF (fun w => perN σ p0 w) h0 (k + 1)) rfl ?_
        refine lv_lstore (lv' := [(4, .long (mxF (fun w => perN σ p0 w) h0 (k + 1))), (0, .ref (a 34)), (3, .int (nI p0)), (6, .int (nI k))]) hx hb dX8_mixedPerson_29 hl (by decide) rfl (fun ls hl => ?_)
        refine lv_iinc (v := nI (k + 1)) (lv' := [(6, .int (nI (k + 1))), (4, .long (mxF (fun w => perN σ p0 w) h0 (k + 1))), (0, .ref (a 34)), (3, .int (nI p0))]) hx hb dX8_mixedPerson_31 hl (k := 3) rfl (nI_add _ _) (by decide) rfl (fun ls hl => ?_)
        refine lv_goto (tgt := 6) hx hb dX8_mixedPerson_34 (by decide) ?_
        exact ih_6 (mxF (fun w => perN σ p0 w) h0 (k + 1)) (k + 1) rfl (by omega) (by omega) ls (lv_sub hl [2, 3, 1, 0] rfl)
  refine lv_lload_n hx hb dX8_mixedPerson_0 rfl (lv_at hl 1 rfl) ?_
  refine lv_lstore (lv' := [(4, .long h0), (0, .ref (a 34)), (1, .long h0), (3, .int (nI p0))]) hx hb dX8_mixedPerson_1 hl (by decide) rfl (fun ls hl => ?_)
  refine lv_iconst (v := nI 0) hx hb dX8_mixedPerson_3 (by decide) ?_
  refine lv_istore (lv' := [(6, .int (nI 0)), (4, .long h0), (0, .ref (a 34)), (1, .long h0), (3, .int (nI p0))]) hx hb dX8_mixedPerson_4 hl (by decide) rfl (fun ls hl => ?_)
  exact L_6 9 h0 0 rfl (by omega) (by omega) ls (lv_sub hl [2, 4, 1, 0] rfl)

abbrev rm_X8_mixedBuffer : Room := { frames := 1, cells := 0, slots := 0, locals := 23 }
theorem k_X8_mixedBuffer : Cal yX8_mixedBuffer wsX8_mixedBuffer rm_X8_mixedBuffer cX8_mixedBuffer 6 (some .long) 1 0 0 := ⟨⟨_, rfl⟩, rfl, rfl, by decide +kernel⟩
set_option maxHeartbeats 4000000 in
set_option maxRecDepth 100000 in
theorem m_X8_mixedBuffer (l : Launch) (Γ : Gm) (a : Nat → Nat) (rf : Nat → Option Nat) (f : Nat → Nat → Int32) (z : Nat → Int32) (σ : Nat → Nat) (hR : Rep σ f z) (hI : Inv σ) (nb : Nat) (bb : Nat → Nat) (h5 : z 5 = nI nb) (hBR : BR nb bb (f 12)) (h0 : Int64) : MRl l yX8_mixedBuffer wsX8_mixedBuffer rm_X8_mixedBuffer Γ (wXp Γ a rf f z) [.ref (a 34), .long h0] (fun r => r = mxBuf bb nb h0) := by
  refine mR (cc := cX8_mixedBuffer) (maxL := 6) (ret := (some .long)) (own := RX8) (by decide) rfl rfl (Nat.le_of_ble_eq_true rfl) ?_
  intro p e s m args below meth c S hrt hlk hK hP ls hl
  obtain ⟨hx, hb, hml, hown, hts⟩ := id S
  have hn6 := hBR.1
  have hl : lv_has ls 6 [(0, .ref (a 34)), (1, .long h0)] := hl
  have hP : gP Γ (wXp Γ a rf f z) s.heap := hP
  have L_16 : ∀ (fuel : Nat), ∀ (x3 : Int64) (k : Nat) (e_x3 : x3 = mxF (fun i => nI (bb i)) (mx h0 (nI nb).toInt64) k) (hk : k ≤ nb) (hfk : nb - k < fuel), ∀ ls : Array Slot, lv_has ls 6 [(0, .ref (a 34)), (3, .long x3), (5, .int (nI k))] → W p l e rm_X8_mixedBuffer s m args below meth c s.heap [] 0 0 (MQ below (vp_Sl (fun r => r = mxBuf bb nb h0)) args s 0 0 (fun _ => False)) (F0 m 16 ls []) := by
    intro fuel
    induction fuel with
    | zero => intro x3 k e_x3 hk hfk; exact absurd hfk (by omega)
    | succ fuel ih_16 =>
      intro x3 k e_x3 hk hfk ls hl
      subst e_x3
      refine lv_iload hx hb dX8_mixedBuffer_16 (lv_at hl 2 rfl) ?_
      refine lv_aload_n hx hb dX8_mixedBuffer_18 rfl (lv_at hl 0 rfl) ?_
      refine va_get (D := Γ.1) (ci := 8) (v := .ref (a 31)) (C := RX8) (T := TX8) (N := 3) hx hb hts (by decide +kernel) hown hK hP 0 rfl rfl 2 (by decide) (hts (.fieldLink RX8 26 "RowVeils" "buffer" "LRowVeils$Buffer;") (by decide +kernel)) (fun _ h9 => h9) rfl dX8_mixedBuffer_19 ?_
      refine va_get (D := Γ.1) (ci := 0) (v := .int (z 5)) (C := RX0) (T := TX0) (N := 2) hx hb hts (by decide +kernel) hown hK hP 32 rfl rfl 1 (by decide) (hts (.fieldLink RX8 194 "RowVeils$Buffer" "length" "I") (by decide +kernel)) (fun _ h9 => h9) rfl dX8_mixedBuffer_22 ?_
      refine asi (z := nI nb) (h5) ?_
      refine lv_icmp_ge (tgt := 52) hx hb dX8_mixedBuffer_25 (by decide) (fun c_25 => ?_) (fun c_25 => ?_)
      · have n_25 := (nI_leI (a := nb) (b := k) (by omega) (by omega)).mp c_25
        refine lv_lload_n hx hb dX8_mixedBuffer_52 rfl (lv_at hl 1 rfl) ?_
        exact W.lret (v := mxF (fun i => nI (bb i)) (mx h0 (nI nb).toInt64) k) hx hb hrt (fun t9 ht9 hW9 => ⟨_, rfl, by unfold mxBuf; rw [show nb = k from by omega], ht9⟩) (fun _ h9 => nomatch h9) dX8_mixedBuffer_53 hlk
      · have n_25 := (not_congr (nI_leI (a := nb) (b := k) (by omega) (by omega))).mp c_25
        refine lv_lload_n hx hb dX8_mixedBuffer_28 rfl (lv_at hl 1 rfl) ?_
        refine lv_aload_n hx hb dX8_mixedBuffer_29 rfl (lv_at hl 0 rfl) ?_
        refine va_get (D := Γ.1) (ci := 8) (v := .ref (a 31)) (C := RX8) (T := TX8) (N := 3) hx hb hts (by decide +kernel) hown hK hP 0 rfl rfl 2 (by decide) (hts (.fieldLink RX8 26 "RowVeils" "buffer" "LRowVeils$Buffer;") (by decide +kernel)) (fun _ h9 => h9) rfl dX8_mixedBuffer_30 ?_
        refine va_get (D := Γ.1) (ci := 0) (v := .ref (a 32)) (C := RX0) (T := TX0) (N := 2) hx hb hts (by decide +kernel) hown hK hP 32 rfl rfl 0 (by decide) (hts (.fieldLink RX8 294 "RowVeils$Buffer" "codes" "LRowVeils$Numbers;") (by decide +kernel)) (fun _ h9 => h9) rfl dX8_mixedBuffer_33 ?_
        refine lv_iload hx hb dX8_mixedBuffer_36 (lv_at hl 2 rfl) ?_
        refine cRi (As := [.int (nI k)]) (rest := [.long (mxF (fun i => nI (bb i)) (mx h0 (nI nb).toInt64) k)]) (m_X3_get l Γ (a 32) (a 33) 60 k (f 12) (by decide) (by omega)) S k_X3_get gX8_mixedBuffer_X3_get rfl ⟨Nat.le_of_ble_eq_true rfl, Nat.le_of_ble_eq_true rfl⟩ hK hP [33, 34] rfl 0 (ci := 3) rfl rfl rfl rfl hl.1 (Nat.le_of_ble_eq_true rfl) rfl dX8_mixedBuffer_38 ⟨Nat.le_of_ble_eq_true rfl, Nat.le_of_ble_eq_true rfl⟩ (fun r hr => ?_)
        subst hr
        refine asi (z := nI (bb k)) (hBR.2 k (by omega)).1 ?_
        refine lv_i2l (v := (nI (bb k)).toInt64) hx hb dX8_mixedBuffer_41 rfl ?_
        refine cSl (As := [.long (mxF (fun i => nI (bb i)) (mx h0 (nI nb).toInt64) k), .long ((nI (bb k)).toInt64)]) (rest := []) (m_X8_mixed l (mxF (fun i => nI (bb i)) (mx h0 (nI nb).toInt64) k) ((nI (bb k)).toInt64)) S k_X8_mixed gX8_mixedBuffer_X8_mixed ⟨Nat.le_of_ble_eq_true rfl, Nat.le_of_ble_eq_true rfl⟩ rfl hl.1 (Nat.le_of_ble_eq_true rfl) rfl dX8_mixedBuffer_42 ⟨Nat.le_of_ble_eq_true rfl, Nat.le_of_ble_eq_true rfl⟩ (fun r hr => ?_)
        subst hr
        refine asl (z := mxF (fun i => nI (bb i)) (mx h0 (nI nb).toInt64) (k + 1)) rfl ?_
        refine lv_lstore_n (lv' := [(3, .long (mxF (fun i => nI (bb i)) (mx h0 (nI nb).toInt64) (k + 1))), (0, .ref (a 34)), (5, .int (nI k))]) hx hb dX8_mixedBuffer_45 rfl hl (by decide) rfl (fun ls hl => ?_)
        refine lv_iinc (v := nI (k + 1)) (lv' := [(5, .int (nI (k + 1))), (3, .long (mxF (fun i => nI (bb i)) (mx h0 (nI nb).toInt64) (k + 1))), (0, .ref (a 34))]) hx hb dX8_mixedBuffer_46 hl (k := 2) rfl (nI_add _ _) (by decide) rfl (fun ls hl => ?_)
        refine lv_goto (tgt := 16) hx hb dX8_mixedBuffer_49 (by decide) ?_
        exact ih_16 (mxF (fun i => nI (bb i)) (mx h0 (nI nb).toInt64) (k + 1)) (k + 1) rfl (by omega) (by omega) ls (lv_sub hl [2, 1, 0] rfl)
  refine lv_lload_n hx hb dX8_mixedBuffer_0 rfl (lv_at hl 1 rfl) ?_
  refine lv_aload_n hx hb dX8_mixedBuffer_1 rfl (lv_at hl 0 rfl) ?_
  refine va_get (D := Γ.1) (ci := 8) (v := .ref (a 31)) (C := RX8) (T := TX8) (N := 3) hx hb hts (by decide +kernel) hown hK hP 0 rfl rfl 2 (by decide) (hts (.fieldLink RX8 26 "RowVeils" "buffer" "LRowVeils$Buffer;") (by decide +kernel)) (fun _ h9 => h9) rfl dX8_mixedBuffer_2 ?_
  refine va_get (D := Γ.1) (ci := 0) (v := .int (z 5)) (C := RX0) (T := TX0) (N := 2) hx hb hts (by decide +kernel) hown hK hP 32 rfl rfl 1 (by decide) (hts (.fieldLink RX8 194 "RowVeils$Buffer" "length" "I") (by decide +kernel)) (fun _ h9 => h9) rfl dX8_mixedBuffer_5 ?_
  refine asi (z := nI nb) (h5) ?_
  refine lv_i2l (v := (nI nb).toInt64) hx hb dX8_mixedBuffer_8 rfl ?_
  refine cSl (As := [.long h0, .long ((nI nb).toInt64)]) (rest := []) (m_X8_mixed l h0 ((nI nb).toInt64)) S k_X8_mixed gX8_mixedBuffer_X8_mixed ⟨Nat.le_of_ble_eq_true rfl, Nat.le_of_ble_eq_true rfl⟩ rfl hl.1 (Nat.le_of_ble_eq_true rfl) rfl dX8_mixedBuffer_9 ⟨Nat.le_of_ble_eq_true rfl, Nat.le_of_ble_eq_true rfl⟩ (fun r hr => ?_)
  subst hr
  refine lv_lstore_n (lv' := [(3, .long (mx h0 ((nI nb).toInt64))), (0, .ref (a 34)), (1, .long h0)]) hx hb dX8_mixedBuffer_12 rfl hl (by decide) rfl (fun ls hl => ?_)
  refine lv_iconst (v := nI 0) hx hb dX8_mixedBuffer_13 (by decide) ?_
  refine lv_istore (lv' := [(5, .int (nI 0)), (3, .long (mx h0 ((nI nb).toInt64))), (0, .ref (a 34)), (1, .long h0)]) hx hb dX8_mixedBuffer_14 hl (by decide) rfl (fun ls hl => ?_)
  exact L_16 (nb + 1) (mx h0 ((nI nb).toInt64)) 0 rfl (by omega) (by omega) ls (lv_sub hl [2, 1, 0] rfl)

abbrev rm_X9_hashes : Room := { frames := 0, cells := 0, slots := 0, locals := 0 }
theorem k_X9_hashes : Cal yX9_hashes wsX9_hashes rm_X9_hashes cX9_hashes 3 none 1 0 0 := ⟨⟨_, rfl⟩, rfl, rfl, by decide +kernel⟩
set_option maxHeartbeats 4000000 in
set_option maxRecDepth 100000 in
theorem m_X9_hashes (l : Launch) (Γ : Gm) (sz : Nat) (a : Nat → Nat) (v : Nat → Int32) (hs : Int64) (g : Nat → Nat → Int32) (h0 : Int64) : MWv (S := Unit) l yX9_hashes wsX9_hashes rm_X9_hashes Γ sz (wMd Γ a v hs g) [.ref (a 0), .long h0] (fun u => True) (fun u => [(a 0, .inr (9, [.int (v 0), .ref (a 1), .ref (a 2), .int (v 1), .ref (a 3), .int (v 2), .int (v 3), .int (v 4), .ref (a 4), .int (v 5), .long (mx hs h0)])), (a 1, .inl (Γ.2.1, 130, .inl (g 0))), (a 2, .inl (Γ.2.1, 780, .inl (g 1))), (a 3, .inl (Γ.2.1, 60, .inl (g 2))), (a 4, .inl (Γ.2.1, 88, .inl (g 3)))]) 0 0 := by
  refine mW (cc := cX9_hashes) (maxL := 3) (ret := none) (own := RX9) (by decide) rfl rfl (Nat.le_of_ble_eq_true rfl) ?_
  intro p e s m args below meth c S hrt hlk hin hsz hK hP hD hA hS ls hl
  subst hsz
  generalize hAe : va_A (wMd Γ a v hs g) s.heap.size = A at hD hA hS ⊢
  obtain ⟨hx, hb, hml, hown, hts⟩ := id S
  have hl : lv_has ls 3 [(0, .ref (a 0)), (1, .long h0)] := hl
  have hH : s.heap = s.heap := rfl
  refine lv_aload_n hx hb dX9_hashes_0 rfl (lv_at hl 0 rfl) ?_
  refine lv_ldc2 (v := 31) hx hb hown (hts (.constantLong RX9 181 (31)) (by decide +kernel)) dX9_hashes_1 ?_
  refine lv_aload_n hx hb dX9_hashes_4 rfl (lv_at hl 0 rfl) ?_
  refine va_get (D := Γ.1) (ci := 9) (v := .long hs) (C := RX9) (T := TX9) (N := 11) hx hb hts (by decide +kernel) hown hK hP 0 rfl rfl 10 (by decide) (hts (.fieldLink RX9 183 "RowVeilsModel" "hash" "J") (by decide +kernel)) (fun _ h9 => h9) rfl dX9_hashes_5 ?_
  refine lv_lmul hx hb dX9_hashes_8 ?_
  refine lv_lload_n hx hb dX9_hashes_9 rfl (lv_at hl 1 rfl) ?_
  refine lv_ladd hx hb dX9_hashes_10 ?_
  refine asl (z := mx hs h0) (rfl) ?_
  refine va_put (D := Γ.1) (ci := 9) (v := .long (mx hs h0)) (ty := .long) (C := RX9) (T := TX9) (N := 11) hx hb hts (by decide +kernel) tyX9 tyX9_ok nmX9 hown hK hP hD hS 0 rfl rfl 10 (by decide) (hts (.fieldLink RX9 183 "RowVeilsModel" "hash" "J") (by decide +kernel)) (fun _ h9 => h9) rfl (by decide +kernel) rfl rfl (Nat.le_of_ble_eq_true rfl) dX9_hashes_11 (fun H locs hP hD hS => ?_)
  have hP : gP Γ [(a 0, .inr (9, [.int (v 0), .ref (a 1), .ref (a 2), .int (v 1), .ref (a 3), .int (v 2), .int (v 3), .int (v 4), .ref (a 4), .int (v 5), .long (mx hs h0)])), (a 1, .inl (Γ.2.1, 130, .inl (g 0))), (a 2, .inl (Γ.2.1, 780, .inl (g 1))), (a 3, .inl (Γ.2.1, 60, .inl (g 2))), (a 4, .inl (Γ.2.1, 88, .inl (g 3)))] H := hP
  have hD : va_D A [(a 0, .inr (9, [.int (v 0), .ref (a 1), .ref (a 2), .int (v 1), .ref (a 3), .int (v 2), .int (v 3), .int (v 4), .ref (a 4), .int (v 5), .long (mx hs h0)])), (a 1, .inl (Γ.2.1, 130, .inl (g 0))), (a 2, .inl (Γ.2.1, 780, .inl (g 1))), (a 3, .inl (Γ.2.1, 60, .inl (g 2))), (a 4, .inl (Γ.2.1, 88, .inl (g 3)))] := hD
  exact W.vret hx hb hrt (fun t9 ht9 hW9 => ⟨⟨(), rfl, trivial, wd_end hK hP hD [0, 1, 2, 3, 4] (by decide) rfl t9 ht9 hW9⟩, hS.F ht9⟩) hS.2.2 dX9_hashes_14 hlk

abbrev rm_X9_hashesPerson : Room := { frames := 8, cells := 0, slots := 0, locals := 188 }
theorem k_X9_hashesPerson : Cal yX9_hashesPerson wsX9_hashesPerson rm_X9_hashesPerson cX9_hashesPerson 3 none 1 0 0 := ⟨⟨_, rfl⟩, rfl, rfl, by decide +kernel⟩
set_option maxHeartbeats 4000000 in
set_option maxRecDepth 100000 in
theorem m_X9_hashesPerson (l : Launch) (Γ : Gm) (sz : Nat) (a : Nat → Nat) (v : Nat → Int32) (hs : Int64) (g : Nat → Nat → Int32) (σ : Nat → Nat) (hM : RepM σ (g 0)) (hI : Inv σ) (p0 : Nat) (hp : p0 < 5) : MWv (S := Unit) l yX9_hashesPerson wsX9_hashesPerson rm_X9_hashesPerson Γ sz (wMd Γ a v hs g) [.ref (a 0), .int (nI p0)] (fun u => True) (fun u => [(a 0, .inr (9, [.int (v 0), .ref (a 1), .ref (a 2), .int (v 1), .ref (a 3), .int (v 2), .int (v 3), .int (v 4), .ref (a 4), .int (v 5), .long (mxPer σ hs p0)])), (a 1, .inl (Γ.2.1, 130, .inl (g 0))), (a 2, .inl (Γ.2.1, 780, .inl (g 1))), (a 3, .inl (Γ.2.1, 60, .inl (g 2))), (a 4, .inl (Γ.2.1, 88, .inl (g 3)))]) 0 0 := by
  refine mW (cc := cX9_hashesPerson) (maxL := 3) (ret := none) (own := RX9) (by decide) rfl rfl (Nat.le_of_ble_eq_true rfl) ?_
  intro p e s m args below meth c S hrt hlk hin hsz hK hP hD hA hS ls hl
  subst hsz
  generalize hAe : va_A (wMd Γ a v hs g) s.heap.size = A at hD hA hS ⊢
  obtain ⟨hx, hb, hml, hown, hts⟩ := id S
  have hk6 := hI.kept hp
  have hl : lv_has ls 3 [(0, .ref (a 0)), (1, .int (nI p0))] := hl
  have L_55 : ∀ (fuel : Nat), ∀ (hh : Int64) (k : Nat) (e_hh : hh = mxF (fun w => wouQ σ p0 (-1) 0 99 w) (mxF (fun k => nI (oM σ p0 k)) (mxF (fun w => perN σ p0 w) hs 8) (oK σ p0)) k) (hk : k ≤ 4) (hfk : 4 - k < fuel), ∀ (H : Heap) (locs : List Loc), gP Γ [(a 0, .inr (9, [.int (v 0), .ref (a 1), .ref (a 2), .int (v 1), .ref (a 3), .int (v 2), .int (v 3), .int (v 4), .ref (a 4), .int (v 5), .long hh])), (a 1, .inl (Γ.2.1, 130, .inl (g 0))), (a 2, .inl (Γ.2.1, 780, .inl (g 1))), (a 3, .inl (Γ.2.1, 60, .inl (g 2))), (a 4, .inl (Γ.2.1, 88, .inl (g 3)))] H → va_D A [(a 0, .inr (9, [.int (v 0), .ref (a 1), .ref (a 2), .int (v 1), .ref (a 3), .int (v 2), .int (v 3), .int (v 4), .ref (a 4), .int (v 5), .long hh])), (a 1, .inl (Γ.2.1, 130, .inl (g 0))), (a 2, .inl (Γ.2.1, 780, .inl (g 1))), (a 3, .inl (Γ.2.1, 60, .inl (g 2))), (a 4, .inl (Γ.2.1, 88, .inl (g 3)))] → va_S A s.heap H locs → ∀ ls : Array Slot, lv_has ls 3 [(0, .ref (a 0)), (1, .int (nI p0)), (2, .int (nI k))] → W p l e rm_X9_hashesPerson s m args below meth c H locs 0 0 (MQ below (va_Qv (S := Unit) (fun u => True) (fun u t9 => wd Γ A ([(a 0, .inr (9, [.int (v 0), .ref (a 1), .ref (a 2), .int (v 1), .ref (a 3), .int (v 2), .int (v 3), .int (v 4), .ref (a 4), .int (v 5), .long (mxPer σ hs p0)])), (a 1, .inl (Γ.2.1, 130, .inl (g 0))), (a 2, .inl (Γ.2.1, 780, .inl (g 1))), (a 3, .inl (Γ.2.1, 60, .inl (g 2))), (a 4, .inl (Γ.2.1, 88, .inl (g 3)))]) t9) A) args s 0 0 A) (F0 m 55 ls []) := by
    intro fuel
    induction fuel with
    | zero => intro hh k e_hh hk hfk; exact absurd hfk (by omega)
    | succ fuel ih_55 =>
      intro hh k e_hh hk hfk H locs hP hD hS ls hl
      refine lv_iload_n hx hb dX9_hashesPerson_55 rfl (lv_at hl 2 rfl) ?_
      refine lv_iconst (v := nI 4) hx hb dX9_hashesPerson_56 (by decide) ?_
      refine lv_icmp_ge (tgt := 81) hx hb dX9_hashesPerson_57 (by decide) (fun c_57 => ?_) (fun c_57 => ?_)
      · have n_57 := (nI_leI (a := 4) (b := k) (by omega) (by omega)).mp c_57
        refine lv_aload_n hx hb dX9_hashesPerson_81 rfl (lv_at hl 0 rfl) ?_
        refine lv_aload_n hx hb dX9_hashesPerson_82 rfl (lv_at hl 0 rfl) ?_
        refine lv_iload_n hx hb dX9_hashesPerson_83 rfl (lv_at hl 1 rfl) ?_
        refine lv_iconst (v := (-1)) hx hb dX9_hashesPerson_84 (by decide) ?_
        refine cRi (As := [.int (nI p0), .int (-1)]) (rest := [.ref (a 0)]) (m_X9_neededBy l Γ a v hh g σ hM hI p0 hp (-1)) S k_X9_neededBy gX9_hashesPerson_X9_neededBy rfl ⟨Nat.le_of_ble_eq_true rfl, Nat.le_of_ble_eq_true rfl⟩ hK hP [0, 1, 2, 3, 4] rfl 0 (ci := 9) rfl rfl rfl rfl hl.1 (Nat.le_of_ble_eq_true rfl) rfl dX9_hashesPerson_85 ⟨Nat.le_of_ble_eq_true rfl, Nat.le_of_ble_eq_true rfl⟩ (fun r hr => ?_)
        subst hr
        refine lv_i2l (v := (needQ σ p0 (-1)).toInt64) hx hb dX9_hashesPerson_88 rfl ?_
        refine cWv (As := [.long ((needQ σ p0 (-1)).toInt64)]) (rest := []) (wr := []) (m_X9_hashes l Γ _ a v hh g ((needQ σ p0 (-1)).toInt64)) S k_X9_hashes gX9_hashesPerson_X9_hashes rfl ⟨Nat.le_of_ble_eq_true rfl, Nat.le_of_ble_eq_true rfl⟩ hK hP hD hS hA [0, 1, 2, 3, 4] [] rfl rfl (by decide) (by decide) (by decide) 0 (ci := 9) rfl rfl rfl rfl hl.1 (Nat.le_of_ble_eq_true rfl) rfl dX9_hashesPerson_89 ⟨Nat.le_of_ble_eq_true rfl, Nat.le_of_ble_eq_true rfl⟩ (fun u H locs hr hP hD hS => ?_)
        have hP : gP Γ [(a 0, .inr (9, [.int (v 0), .ref (a 1), .ref (a 2), .int (v 1), .ref (a 3), .int (v 2), .int (v 3), .int (v 4), .ref (a 4), .int (v 5), .long (mx hh ((needQ σ p0 (-1)).toInt64))])), (a 1, .inl (Γ.2.1, 130, .inl (g 0))), (a 2, .inl (Γ.2.1, 780, .inl (g 1))), (a 3, .inl (Γ.2.1, 60, .inl (g 2))), (a 4, .inl (Γ.2.1, 88, .inl (g 3)))] H := hP
        have hD : va_D A [(a 0, .inr (9, [.int (v 0), .ref (a 1), .ref (a 2), .int (v 1), .ref (a 3), .int (v 2), .int (v 3), .int (v 4), .ref (a 4), .int (v 5), .long (mx hh ((needQ σ p0 (-1)).toInt64))])), (a 1, .inl (Γ.2.1, 130, .inl (g 0))), (a 2, .inl (Γ.2.1, 780, .inl (g 1))), (a 3, .inl (Γ.2.1, 60, .inl (g 2))), (a 4, .inl (Γ.2.1, 88, .inl (g 3)))] := hD
        rw [show mx hh (needQ σ p0 (-1)).toInt64 = mxPer σ hs p0 from by rw [e_hh, show k = 4 from by omega]; rfl] at hP hD
        exact W.vret hx hb hrt (fun t9 ht9 hW9 => ⟨⟨(), rfl, trivial, wd_end hK hP hD [0, 1, 2, 3, 4] (by decide) rfl t9 ht9 hW9⟩, hS.F ht9⟩) hS.2.2 dX9_hashesPerson_92 hlk
      · have n_57 := (not_congr (nI_leI (a := 4) (b := k) (by omega) (by omega))).mp c_57
        refine lv_aload_n hx hb dX9_hashesPerson_60 rfl (lv_at hl 0 rfl) ?_
        refine lv_aload_n hx hb dX9_hashesPerson_61 rfl (lv_at hl 0 rfl) ?_
        refine lv_iload_n hx hb dX9_hashesPerson_62 rfl (lv_at hl 1 rfl) ?_
        refine lv_iconst (v := (-1)) hx hb dX9_hashesPerson_63 (by decide) ?_
        refine lv_iconst (v := nI 0) hx hb dX9_hashesPerson_64 (by decide) ?_
        refine lv_bipush (v := nI 99) hx hb dX9_hashesPerson_65 (by decide) ?_
        refine lv_iload_n hx hb dX9_hashesPerson_67 rfl (lv_at hl 2 rfl) ?_
        refine cRi (As := [.int (nI p0), .int (-1), .int (nI 0), .int (nI 99), .int (nI k)]) (rest := [.ref (a 0)]) (m_X9_would l Γ a v hh g σ hM hI p0 hp (-1) 0 99 (by decide) (by decide) k (by omega)) S k_X9_would gX9_hashesPerson_X9_would rfl ⟨Nat.le_of_ble_eq_true rfl, Nat.le_of_ble_eq_true rfl⟩ hK hP [0, 1, 2, 3, 4] rfl 0 (ci := 9) rfl rfl rfl rfl hl.1 (Nat.le_of_ble_eq_true rfl) rfl dX9_hashesPerson_68 ⟨Nat.le_of_ble_eq_true rfl, Nat.le_of_ble_eq_true rfl⟩ (fun r hr => ?_)
        subst hr
        refine lv_i2l (v := (wouQ σ p0 (-1) 0 99 k).toInt64) hx hb dX9_hashesPerson_71 rfl ?_
        refine cWv (As := [.long ((wouQ σ p0 (-1) 0 99 k).toInt64)]) (rest := []) (wr := []) (m_X9_hashes l Γ _ a v hh g ((wouQ σ p0 (-1) 0 99 k).toInt64)) S k_X9_hashes gX9_hashesPerson_X9_hashes rfl ⟨Nat.le_of_ble_eq_true rfl, Nat.le_of_ble_eq_true rfl⟩ hK hP hD hS hA [0, 1, 2, 3, 4] [] rfl rfl (by decide) (by decide) (by decide) 0 (ci := 9) rfl rfl rfl rfl hl.1 (Nat.le_of_ble_eq_true rfl) rfl dX9_hashesPerson_72 ⟨Nat.le_of_ble_eq_true rfl, Nat.le_of_ble_eq_true rfl⟩ (fun u H locs hr hP hD hS => ?_)
        have hP : gP Γ [(a 0, .inr (9, [.int (v 0), .ref (a 1), .ref (a 2), .int (v 1), .ref (a 3), .int (v 2), .int (v 3), .int (v 4), .ref (a 4), .int (v 5), .long (mx hh ((wouQ σ p0 (-1) 0 99 k).toInt64))])), (a 1, .inl (Γ.2.1, 130, .inl (g 0))), (a 2, .inl (Γ.2.1, 780, .inl (g 1))), (a 3, .inl (Γ.2.1, 60, .inl (g 2))), (a 4, .inl (Γ.2.1, 88, .inl (g 3)))] H := hP
        have hD : va_D A [(a 0, .inr (9, [.int (v 0), .ref (a 1), .ref (a 2), .int (v 1), .ref (a 3), .int (v 2), .int (v 3), .int (v 4), .ref (a 4), .int (v 5), .long (mx hh ((wouQ σ p0 (-1) 0 99 k).toInt64))])), (a 1, .inl (Γ.2.1, 130, .inl (g 0))), (a 2, .inl (Γ.2.1, 780, .inl (g 1))), (a 3, .inl (Γ.2.1, 60, .inl (g 2))), (a 4, .inl (Γ.2.1, 88, .inl (g 3)))] := hD
        refine lv_iinc (v := nI (k + 1)) (lv' := [(2, .int (nI (k + 1))), (0, .ref (a 0)), (1, .int (nI p0))]) hx hb dX9_hashesPerson_75 hl (k := 2) rfl (nI_add _ _) (by decide) rfl (fun ls hl => ?_)
        refine lv_goto (tgt := 55) hx hb dX9_hashesPerson_78 (by decide) ?_
        exact ih_55 (mx hh ((wouQ σ p0 (-1) 0 99 k).toInt64)) (k + 1) (by rw [e_hh]; rfl) (by omega) (by omega) _ _ hP hD hS ls (lv_sub hl [1, 2, 0] rfl)
  have L_27 : ∀ (fuel : Nat), ∀ (hh : Int64) (k : Nat) (e_hh : hh = mxF (fun k => nI (oM σ p0 k)) (mxF (fun w => perN σ p0 w) hs 8) k) (hk : k ≤ oK σ p0) (hfk : oK σ p0 - k < fuel), ∀ (H : Heap) (locs : List Loc), gP Γ [(a 0, .inr (9, [.int (v 0), .ref (a 1), .ref (a 2), .int (v 1), .ref (a 3), .int (v 2), .int (v 3), .int (v 4), .ref (a 4), .int (v 5), .long hh])), (a 1, .inl (Γ.2.1, 130, .inl (g 0))), (a 2, .inl (Γ.2.1, 780, .inl (g 1))), (a 3, .inl (Γ.2.1, 60, .inl (g 2))), (a 4, .inl (Γ.2.1, 88, .inl (g 3)))] H → va_D A [(a 0, .inr (9, [.int (v 0), .ref (a 1), .ref (a 2), .int (v 1), .ref (a 3), .int (v 2), .int (v 3), .int (v 4), .ref (a 4), .int (v 5), .long hh])), (a 1, .inl (Γ.2.1, 130, .inl (g 0))), (a 2, .inl (Γ.2.1, 780, .inl (g 1))), (a 3, .inl (Γ.2.1, 60, .inl (g 2))), (a 4, .inl (Γ.2.1, 88, .inl (g 3)))] → va_S A s.heap H locs → ∀ ls : Array Slot, lv_has ls 3 [(0, .ref (a 0)), (1, .int (nI p0)), (2, .int (nI k))] → W p l e rm_X9_hashesPerson s m args below meth c H locs 0 0 (MQ below (va_Qv (S := Unit) (fun u => True) (fun u t9 => wd Γ A ([(a 0, .inr (9, [.int (v 0), .ref (a 1), .ref (a 2), .int (v 1), .ref (a 3), .int (v 2), .int (v 3), .int (v 4), .ref (a 4), .int (v 5), .long (mxPer σ hs p0)])), (a 1, .inl (Γ.2.1, 130, .inl (g 0))), (a 2, .inl (Γ.2.1, 780, .inl (g 1))), (a 3, .inl (Γ.2.1, 60, .inl (g 2))), (a 4, .inl (Γ.2.1, 88, .inl (g 3)))]) t9) A) args s 0 0 A) (F0 m 27 ls []) := by
    intro fuel
    induction fuel with
    | zero => intro hh k e_hh hk hfk; exact absurd hfk (by omega)
    | succ fuel ih_27 =>
      intro hh k e_hh hk hfk H locs hP hD hS ls hl
      refine lv_iload_n hx hb dX9_hashesPerson_27 rfl (lv_at hl 2 rfl) ?_
      refine lv_aload_n hx hb dX9_hashesPerson_28 rfl (lv_at hl 0 rfl) ?_
      refine lv_iload_n hx hb dX9_hashesPerson_29 rfl (lv_at hl 1 rfl) ?_
      refine cRi (As := [.int (nI p0)]) (rest := [.int (nI k)]) (m_X9_kept l Γ a v hh g σ hM hI p0 hp) S k_X9_kept gX9_hashesPerson_X9_kept rfl ⟨Nat.le_of_ble_eq_true rfl, Nat.le_of_ble_eq_true rfl⟩ hK hP [0, 1, 2, 3, 4] rfl 0 (ci := 9) rfl rfl rfl rfl hl.1 (Nat.le_of_ble_eq_true rfl) rfl dX9_hashesPerson_30 ⟨Nat.le_of_ble_eq_true rfl, Nat.le_of_ble_eq_true rfl⟩ (fun r hr => ?_)
      subst hr
      refine lv_icmp_ge (tgt := 53) hx hb dX9_hashesPerson_33 (by decide) (fun c_33 => ?_) (fun c_33 => ?_)
      · have n_33 := (nI_leI (a := (oK σ p0)) (b := k) (by omega) (by omega)).mp c_33
        refine lv_iconst (v := nI 0) hx hb dX9_hashesPerson_53 (by decide) ?_
        refine lv_istore_n (lv' := [(2, .int (nI 0)), (0, .ref (a 0)), (1, .int (nI p0))]) hx hb dX9_hashesPerson_54 rfl hl (by decide) rfl (fun ls hl => ?_)
        exact L_55 5 hh 0 (by rw [e_hh, show oK σ p0 = k from by omega]; rfl) (by omega) (by omega) _ _ hP hD hS ls (lv_sub hl [1, 2, 0] rfl)
      · have n_33 := (not_congr (nI_leI (a := (oK σ p0)) (b := k) (by omega) (by omega))).mp c_33
        refine lv_aload_n hx hb dX9_hashesPerson_36 rfl (lv_at hl 0 rfl) ?_
        refine lv_aload_n hx hb dX9_hashesPerson_37 rfl (lv_at hl 0 rfl) ?_
        refine lv_iload_n hx hb dX9_hashesPerson_38 rfl (lv_at hl 1 rfl) ?_
        refine lv_iload_n hx hb dX9_hashesPerson_39 rfl (lv_at hl 2 rfl) ?_
        refine cRi (As := [.int (nI p0), .int (nI k)]) (rest := [.ref (a 0)]) (m_X9_keptAt l Γ a v hh g σ hM hI p0 k (by omega)) S k_X9_keptAt gX9_hashesPerson_X9_keptAt rfl ⟨Nat.le_of_ble_eq_true rfl, Nat.le_of_ble_eq_true rfl⟩ hK hP [0, 1, 2, 3, 4] rfl 0 (ci := 9) rfl rfl rfl rfl hl.1 (Nat.le_of_ble_eq_true rfl) rfl dX9_hashesPerson_40 ⟨Nat.le_of_ble_eq_true rfl, Nat.le_of_ble_eq_true rfl⟩ (fun r hr => ?_)
        subst hr
        refine lv_i2l (v := (nI (oM σ p0 k)).toInt64) hx hb dX9_hashesPerson_43 rfl ?_
        refine cWv (As := [.long ((nI (oM σ p0 k)).toInt64)]) (rest := []) (wr := []) (m_X9_hashes l Γ _ a v hh g ((nI (oM σ p0 k)).toInt64)) S k_X9_hashes gX9_hashesPerson_X9_hashes rfl ⟨Nat.le_of_ble_eq_true rfl, Nat.le_of_ble_eq_true rfl⟩ hK hP hD hS hA [0, 1, 2, 3, 4] [] rfl rfl (by decide) (by decide) (by decide) 0 (ci := 9) rfl rfl rfl rfl hl.1 (Nat.le_of_ble_eq_true rfl) rfl dX9_hashesPerson_44 ⟨Nat.le_of_ble_eq_true rfl, Nat.le_of_ble_eq_true rfl⟩ (fun u H locs hr hP hD hS => ?_)
        have hP : gP Γ [(a 0, .inr (9, [.int (v 0), .ref (a 1), .ref (a 2), .int (v 1), .ref (a 3), .int (v 2), .int (v 3), .int (v 4), .ref (a 4), .int (v 5), .long (mx hh ((nI (oM σ p0 k)).toInt64))])), (a 1, .inl (Γ.2.1, 130, .inl (g 0))), (a 2, .inl (Γ.2.1, 780, .inl (g 1))), (a 3, .inl (Γ.2.1, 60, .inl (g 2))), (a 4, .inl (Γ.2.1, 88, .inl (g 3)))] H := hP
        have hD : va_D A [(a 0, .inr (9, [.int (v 0), .ref (a 1), .ref (a 2), .int (v 1), .ref (a 3), .int (v 2), .int (v 3), .int (v 4), .ref (a 4), .int (v 5), .long (mx hh ((nI (oM σ p0 k)).toInt64))])), (a 1, .inl (Γ.2.1, 130, .inl (g 0))), (a 2, .inl (Γ.2.1, 780, .inl (g 1))), (a 3, .inl (Γ.2.1, 60, .inl (g 2))), (a 4, .inl (Γ.2.1, 88, .inl (g 3)))] := hD
        refine lv_iinc (v := nI (k + 1)) (lv' := [(2, .int (nI (k + 1))), (0, .ref (a 0)), (1, .int (nI p0))]) hx hb dX9_hashesPerson_47 hl (k := 2) rfl (nI_add _ _) (by decide) rfl (fun ls hl => ?_)
        refine lv_goto (tgt := 27) hx hb dX9_hashesPerson_50 (by decide) ?_
        exact ih_27 (mx hh ((nI (oM σ p0 k)).toInt64)) (k + 1) (by rw [e_hh]; rfl) (by omega) (by omega) _ _ hP hD hS ls (lv_sub hl [1, 2, 0] rfl)
  have L_2 : ∀ (fuel : Nat), ∀ (hh : Int64) (k : Nat) (e_hh : hh = mxF (fun w => perN σ p0 w) hs k) (hk : k ≤ 8) (hfk : 8 - k < fuel), ∀ (H : Heap) (locs : List Loc), gP Γ [(a 0, .inr (9, [.int (v 0), .ref (a 1), .ref (a 2), .int (v 1), .ref (a 3), .int (v 2), .int (v 3), .int (v 4), .ref (a 4), .int (v 5), .long hh])), (a 1, .inl (Γ.2.1, 130, .inl (g 0))), (a 2, .inl (Γ.2.1, 780, .inl (g 1))), (a 3, .inl (Γ.2.1, 60, .inl (g 2))), (a 4, .inl (Γ.2.1, 88, .inl (g 3)))] H → va_D A [(a 0, .inr (9, [.int (v 0), .ref (a 1), .ref (a 2), .int (v 1), .ref (a 3), .int (v 2), .int (v 3), .int (v 4), .ref (a 4), .int (v 5), .long hh])), (a 1, .inl (Γ.2.1, 130, .inl (g 0))), (a 2, .inl (Γ.2.1, 780, .inl (g 1))), (a 3, .inl (Γ.2.1, 60, .inl (g 2))), (a 4, .inl (Γ.2.1, 88, .inl (g 3)))] → va_S A s.heap H locs → ∀ ls : Array Slot, lv_has ls 3 [(0, .ref (a 0)), (1, .int (nI p0)), (2, .int (nI k))] → W p l e rm_X9_hashesPerson s m args below meth c H locs 0 0 (MQ below (va_Qv (S := Unit) (fun u => True) (fun u t9 => wd Γ A ([(a 0, .inr (9, [.int (v 0), .ref (a 1), .ref (a 2), .int (v 1), .ref (a 3), .int (v 2), .int (v 3), .int (v 4), .ref (a 4), .int (v 5), .long (mxPer σ hs p0)])), (a 1, .inl (Γ.2.1, 130, .inl (g 0))), (a 2, .inl (Γ.2.1, 780, .inl (g 1))), (a 3, .inl (Γ.2.1, 60, .inl (g 2))), (a 4, .inl (Γ.2.1, 88, .inl (g 3)))]) t9) A) args s 0 0 A) (F0 m 2 ls []) := by
    intro fuel
    induction fuel with
    | zero => intro hh k e_hh hk hfk; exact absurd hfk (by omega)
    | succ fuel ih_2 =>
      intro hh k e_hh hk hfk H locs hP hD hS ls hl
      refine lv_iload_n hx hb dX9_hashesPerson_2 rfl (lv_at hl 2 rfl) ?_
      refine lv_bipush (v := nI 8) hx hb dX9_hashesPerson_3 (by decide) ?_
      refine lv_icmp_ge (tgt := 25) hx hb dX9_hashesPerson_5 (by decide) (fun c_5 => ?_) (fun c_5 => ?_)
      · have n_5 := (nI_leI (a := 8) (b := k) (by omega) (by omega)).mp c_5
        refine lv_iconst (v := nI 0) hx hb dX9_hashesPerson_25 (by decide) ?_
        refine lv_istore_n (lv' := [(2, .int (nI 0)), (0, .ref (a 0)), (1, .int (nI p0))]) hx hb dX9_hashesPerson_26 rfl hl (by decide) rfl (fun ls hl => ?_)
        exact L_27 (oK σ p0 + 1) hh 0 (by rw [e_hh, show 8 = k from by omega]; rfl) (by omega) (by omega) _ _ hP hD hS ls (lv_sub hl [1, 2, 0] rfl)
      · have n_5 := (not_congr (nI_leI (a := 8) (b := k) (by omega) (by omega))).mp c_5
        refine lv_aload_n hx hb dX9_hashesPerson_8 rfl (lv_at hl 0 rfl) ?_
        refine lv_aload_n hx hb dX9_hashesPerson_9 rfl (lv_at hl 0 rfl) ?_
        refine lv_iload_n hx hb dX9_hashesPerson_10 rfl (lv_at hl 1 rfl) ?_
        refine lv_iload_n hx hb dX9_hashesPerson_11 rfl (lv_at hl 2 rfl) ?_
        refine cRi (As := [.int (nI p0), .int (nI k)]) (rest := [.ref (a 0)]) (m_X9_tellsPerson l Γ a v hh g σ hM hI p0 k hp (by omega)) S k_X9_tellsPerson gX9_hashesPerson_X9_tellsPerson rfl ⟨Nat.le_of_ble_eq_true rfl, Nat.le_of_ble_eq_true rfl⟩ hK hP [0, 1, 2, 3, 4] rfl 0 (ci := 9) rfl rfl rfl rfl hl.1 (Nat.le_of_ble_eq_true rfl) rfl dX9_hashesPerson_12 ⟨Nat.le_of_ble_eq_true rfl, Nat.le_of_ble_eq_true rfl⟩ (fun r hr => ?_)
        subst hr
        refine lv_i2l (v := (perN σ p0 k).toInt64) hx hb dX9_hashesPerson_15 rfl ?_
        refine cWv (As := [.long ((perN σ p0 k).toInt64)]) (rest := []) (wr := []) (m_X9_hashes l Γ _ a v hh g ((perN σ p0 k).toInt64)) S k_X9_hashes gX9_hashesPerson_X9_hashes rfl ⟨Nat.le_of_ble_eq_true rfl, Nat.le_of_ble_eq_true rfl⟩ hK hP hD hS hA [0, 1, 2, 3, 4] [] rfl rfl (by decide) (by decide) (by decide) 0 (ci := 9) rfl rfl rfl rfl hl.1 (Nat.le_of_ble_eq_true rfl) rfl dX9_hashesPerson_16 ⟨Nat.le_of_ble_eq_true rfl, Nat.le_of_ble_eq_true rfl⟩ (fun u H locs hr hP hD hS => ?_)
        have hP : gP Γ [(a 0, .inr (9, [.int (v 0), .ref (a 1), .ref (a 2), .int (v 1), .ref (a 3), .int (v 2), .int (v 3), .int (v 4), .ref (a 4), .int (v 5), .long (mx hh ((perN σ p0 k).toInt64))])), (a 1, .inl (Γ.2.1, 130, .inl (g 0))), (a 2, .inl (Γ.2.1, 780, .inl (g 1))), (a 3, .inl (Γ.2.1, 60, .inl (g 2))), (a 4, .inl (Γ.2.1, 88, .inl (g 3)))] H := hP
        have hD : va_D A [(a 0, .inr (9, [.int (v 0), .ref (a 1), .ref (a 2), .int (v 1), .ref (a 3), .int (v 2), .int (v 3), .int (v 4), .ref (a 4), .int (v 5), .long (mx hh ((perN σ p0 k).toInt64))])), (a 1, .inl (Γ.2.1, 130, .inl (g 0))), (a 2, .inl (Γ.2.1, 780, .inl (g 1))), (a 3, .inl (Γ.2.1, 60, .inl (g 2))), (a 4, .inl (Γ.2.1, 88, .inl (g 3)))] := hD
        refine lv_iinc (v := nI (k + 1)) (lv' := [(2, .int (nI (k + 1))), (0, .ref (a 0)), (1, .int (nI p0))]) hx hb dX9_hashesPerson_19 hl (k := 2) rfl (nI_add _ _) (by decide) rfl (fun ls hl => ?_)
        refine lv_goto (tgt := 2) hx hb dX9_hashesPerson_22 (by decide) ?_
        exact ih_2 (mx hh ((perN σ p0 k).toInt64)) (k + 1) (by rw [e_hh]; rfl) (by omega) (by omega) _ _ hP hD hS ls (lv_sub hl [1, 2, 0] rfl)
  have hH : s.heap = s.heap := rfl
  refine lv_iconst (v := nI 0) hx hb dX9_hashesPerson_0 (by decide) ?_
  refine lv_istore_n (lv' := [(2, .int (nI 0)), (0, .ref (a 0)), (1, .int (nI p0))]) hx hb dX9_hashesPerson_1 rfl hl (by decide) rfl (fun ls hl => ?_)
  exact L_2 9 hs 0 rfl (by omega) (by omega) _ _ hP hD hS ls (lv_sub hl [1, 2, 0] rfl)

