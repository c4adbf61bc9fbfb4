abbrev wMd (Γ : Gm) (a : Nat → Nat) (v : Nat → Int32) (hs : Int64) (g : Nat → Nat → Int32) : va_W := [(a 0, .inr (9, [.int (v 0), .ref (a 1), .ref (a 2), .int (v 1), .ref (a 3), .int (v 2), .int (v 3), .int (v 4), .ref (a 4), .int (v 5), .long hs])), (a 1, .inl (Γ.2.1, 130, .inl (g 0))), (a 2, .inl (Γ.2.1, 780, .inl (g 1))), (a 3, .inl (Γ.2.1, 60, .inl (g 2))), (a 4, .inl (Γ.2.1, 88, .inl (g 3)))]
abbrev rm_X9_thrown : Room := { frames := 0, cells := 0, slots := 0, locals := 0 }
theorem k_X9_thrown : Cal yX9_thrown wsX9_thrown rm_X9_thrown cX9_thrown 1 (some .int) 0 0 0 := ⟨⟨_, rfl⟩, rfl, rfl, by decide +kernel⟩
set_option maxHeartbeats 4000000 in
set_option maxRecDepth 100000 in
theorem m_X9_thrown (l : Launch) (Γ : Gm) (a : Nat → Nat) (v : Nat → Int32) (hs : Int64) (g : Nat → Nat → Int32) : MRi l yX9_thrown wsX9_thrown rm_X9_thrown Γ (wMd Γ a v hs g) [.ref (a 0)] (fun r => r = v 0) := by
  refine mR (cc := cX9_thrown) (maxL := 1) (ret := (some .int)) (own := RX9) (by decide) rfl rfl (Nat.le_of_ble_eq_true rfl) ?_
  intro p e s m args below meth c S hrt hlk hK hP ls hl
  obtain ⟨hx, hb, hml, hown, hts⟩ := id S
  have hl : lv_has ls 1 [(0, .ref (a 0))] := hl
  have hP : gP Γ (wMd Γ a v hs g) s.heap := hP
  refine lv_aload_n hx hb dX9_thrown_0 rfl (lv_at hl 0 rfl) ?_
  refine va_get (D := Γ.1) (ci := 9) (v := .int (v 0)) (C := RX9) (T := TX9) (N := 11) hx hb hts (by decide +kernel) hown hK hP 0 rfl rfl 0 (by decide) (hts (.fieldLink RX9 22 "RowVeilsModel" "thrown" "I") (by decide +kernel)) (fun _ h9 => h9) rfl dX9_thrown_1 ?_
  exact W.iret (v := v 0) hx hb hrt (fun t9 ht9 hW9 => ⟨_, rfl, rfl, ht9⟩) (fun _ h9 => nomatch h9) dX9_thrown_4 hlk

abbrev rm_X9_in : Room := { frames := 0, cells := 0, slots := 0, locals := 0 }
theorem k_X9_in : Cal yX9_in wsX9_in rm_X9_in cX9_in 3 (some .boolean) 3 0 0 := ⟨⟨_, rfl⟩, rfl, rfl, by decide +kernel⟩
set_option maxHeartbeats 4000000 in
set_option maxRecDepth 100000 in
theorem m_X9_in (l : Launch) (x lo hi : Int32) : MSi l yX9_in wsX9_in rm_X9_in [.int x, .int lo, .int hi] (fun r => r = bI (inI x lo hi)) := by
  refine mS (cc := cX9_in) (maxL := 3) (ret := (some .boolean)) (own := RX9) (by decide) rfl rfl (Nat.le_of_ble_eq_true rfl) ?_
  intro p e s m args below meth c S hrt hlk ls hl
  obtain ⟨hx, hb, hml, hown, hts⟩ := id S
  have hl : lv_has ls 3 [(0, .int x), (1, .int lo), (2, .int hi)] := hl
  refine lv_iload_n hx hb dX9_in_0 rfl (lv_at hl 0 rfl) ?_
  refine lv_iload_n hx hb dX9_in_1 rfl (lv_at hl 1 rfl) ?_
  refine lv_icmp_lt (tgt := 14) hx hb dX9_in_2 (by decide) (fun c_2 => ?_) (fun c_2 => ?_)
  · refine lv_iconst (v := nI 0) hx hb dX9_in_14 (by decide) ?_
    exact W.zret (v := nI 0) hx hb hrt (z0) (fun t9 ht9 hW9 => ⟨_, rfl, bf (Bool.eq_false_iff.mpr (fun h => by have h2 := inI_t'.mp h; first | exact absurd h2.1 (in_l c_2) | exact absurd h2.2 (in_g c_7))), ht9⟩) (fun _ h9 => nomatch h9) dX9_in_15 hlk
  · refine lv_iload_n hx hb dX9_in_5 rfl (lv_at hl 0 rfl) ?_
    refine lv_iload_n hx hb dX9_in_6 rfl (lv_at hl 2 rfl) ?_
    refine lv_icmp_gt (tgt := 14) hx hb dX9_in_7 (by decide) (fun c_7 => ?_) (fun c_7 => ?_)
    · refine lv_iconst (v := nI 0) hx hb dX9_in_14 (by decide) ?_
      exact W.zret (v := nI 0) hx hb hrt (z0) (fun t9 ht9 hW9 => ⟨_, rfl, bf (Bool.eq_false_iff.mpr (fun h => by have h2 := inI_t'.mp h; first | exact absurd h2.1 (in_l c_2) | exact absurd h2.2 (in_g c_7))), ht9⟩) (fun _ h9 => nomatch h9) dX9_in_15 hlk
    · refine lv_iconst (v := nI 1) hx hb dX9_in_10 (by decide) ?_
      refine lv_goto (tgt := 15) hx hb dX9_in_11 (by decide) ?_
      exact W.zret (v := nI 1) hx hb hrt (z1) (fun t9 ht9 hW9 => ⟨_, rfl, bt (inI_t ⟨in_nl c_2, in_ng c_7⟩), ht9⟩) (fun _ h9 => nomatch h9) dX9_in_15 hlk

abbrev rm_X9_ones : Room := { frames := 0, cells := 0, slots := 0, locals := 0 }
theorem k_X9_ones : Cal yX9_ones wsX9_ones rm_X9_ones cX9_ones 3 (some .int) 1 0 0 := ⟨⟨_, rfl⟩, rfl, rfl, by decide +kernel⟩
set_option maxHeartbeats 4000000 in
set_option maxRecDepth 100000 in
theorem m_X9_ones (l : Launch) (x : Nat) (hx : x < 2 ^ 31) : MSi l yX9_ones wsX9_ones rm_X9_ones [.int (nI x)] (fun r => r = nI (ones x)) := by
  refine mS (cc := cX9_ones) (maxL := 3) (ret := (some .int)) (own := RX9) (by decide) rfl rfl (Nat.le_of_ble_eq_true rfl) ?_
  intro p e s m args below meth c S hrt hlk ls hl
  obtain ⟨hx, hb, hml, hown, hts⟩ := id S
  have hl : lv_has ls 3 [(0, .int (nI x))] := hl
  have L_4 : ∀ (fuel : Nat), ∀ (k : Nat) (x1 : Int32) (hk : k ≤ 16) (hfk : 16 - k < fuel) (e_x1 : x1 = nI (cnt (fun j => x.testBit j) k)), ∀ ls : Array Slot, lv_has ls 3 [(0, .int (nI x)), (2, .int (nI k)), (1, .int x1)] → W p l e rm_X9_ones s m args below meth c s.heap [] 0 0 (MQ below (vp_Si (fun r => r = nI (ones x))) args s 0 0 (fun _ => False)) (F0 m 4 ls []) := by
    intro fuel
    induction fuel with
    | zero => intro k x1 hk hfk e_x1; exact absurd hfk (by omega)
    | succ fuel ih_4 =>
      intro k x1 hk hfk e_x1 ls hl
      subst e_x1
      refine lv_iload_n hx hb dX9_ones_4 rfl (lv_at hl 1 rfl) ?_
      refine lv_bipush (v := nI 16) hx hb dX9_ones_5 (by decide) ?_
      refine lv_icmp_ge (tgt := 24) hx hb dX9_ones_7 (by decide) (fun c_7 => ?_) (fun c_7 => ?_)
      · have n_7 := (nI_leI (a := 16) (b := k) (by omega) (by omega)).mp c_7
        refine lv_iload_n hx hb dX9_ones_24 rfl (lv_at hl 2 rfl) ?_
        exact W.iret (v := nI (cnt (fun j => x.testBit j) k)) hx hb hrt (fun t9 ht9 hW9 => ⟨_, rfl, by unfold ones; rw [show 16 = k from by omega], ht9⟩) (fun _ h9 => nomatch h9) dX9_ones_25 hlk
      · have n_7 := (not_congr (nI_leI (a := 16) (b := k) (by omega) (by omega))).mp c_7
        refine lv_iload_n hx hb dX9_ones_10 rfl (lv_at hl 2 rfl) ?_
        refine lv_iload_n hx hb dX9_ones_11 rfl (lv_at hl 0 rfl) ?_
        refine lv_iload_n hx hb dX9_ones_12 rfl (lv_at hl 1 rfl) ?_
        refine lv_ishr hx hb dX9_ones_13 ?_
        refine asi (z := nI (x >>> k)) (shr_n (by omega) (by omega)) ?_
        refine lv_iconst (v := nI 1) hx hb dX9_ones_14 (by decide) ?_
        refine lv_iand hx hb dX9_ones_15 ?_
        refine asi (z := nI ((x >>> k) % 2)) (by rw [nI_and, Nat.and_one_is_mod]) ?_
        refine lv_iadd hx hb dX9_ones_16 ?_
        refine asi (z := nI ((cnt (fun j => x.testBit j) k) + ((x >>> k) % 2))) (nI_add _ _) ?_
        refine lv_istore_n (lv' := [(1, .int (nI ((cnt (fun j => x.testBit j) k) + ((x >>> k) % 2)))), (0, .int (nI x)), (2, .int (nI k))]) hx hb dX9_ones_17 rfl hl (by decide) rfl (fun ls hl => ?_)
        refine lv_iinc (v := nI (k + 1)) (lv' := [(2, .int (nI (k + 1))), (1, .int (nI ((cnt (fun j => x.testBit j) k) + ((x >>> k) % 2)))), (0, .int (nI x))]) hx hb dX9_ones_18 hl (k := 2) rfl (nI_add _ _) (by decide) rfl (fun ls hl => ?_)
        refine lv_goto (tgt := 4) hx hb dX9_ones_21 (by decide) ?_
        exact ih_4 (k + 1) (nI ((cnt (fun j => x.testBit j) k) + ((x >>> k) % 2))) (by omega) (by omega) (by rw [cnt_bit x k]) ls (lv_sub hl [2, 0, 1] rfl)
  refine lv_iconst (v := nI 0) hx hb dX9_ones_0 (by decide) ?_
  refine lv_istore_n (lv' := [(1, .int (nI 0)), (0, .int (nI x))]) hx hb dX9_ones_1 rfl hl (by decide) rfl (fun ls hl => ?_)
  refine lv_iconst (v := nI 0) hx hb dX9_ones_2 (by decide) ?_
  refine lv_istore_n (lv' := [(2, .int (nI 0)), (1, .int (nI 0)), (0, .int (nI x))]) hx hb dX9_ones_3 rfl hl (by decide) rfl (fun ls hl => ?_)
  exact L_4 (16 + 1) 0 (nI 0) (by omega) (by omega) rfl ls (lv_sub hl [2, 0, 1] rfl)

abbrev rm_X9_of : Room := { frames := 0, cells := 0, slots := 0, locals := 0 }
theorem k_X9_of : Cal yX9_of wsX9_of rm_X9_of cX9_of 3 (some .int) 2 0 0 := ⟨⟨_, rfl⟩, rfl, rfl, by decide +kernel⟩
set_option maxHeartbeats 4000000 in
set_option maxRecDepth 100000 in
theorem m_X9_of (l : Launch) (Γ : Gm) (a : Nat → Nat) (v : Nat → Int32) (hs : Int64) (g : Nat → Nat → Int32) (σ : Nat → Nat) (hM : RepM σ (g 0)) (hI : Inv σ) (q w : Nat) (h : 6 + 4 * q + w < 130) : MRi l yX9_of wsX9_of rm_X9_of Γ (wMd Γ a v hs g) [.ref (a 0), .int (nI q), .int (nI w)] (fun r => r = nI (oR σ q w)) := by
  refine mR (cc := cX9_of) (maxL := 3) (ret := (some .int)) (own := RX9) (by decide) rfl rfl (Nat.le_of_ble_eq_true rfl) ?_
  intro p e s m args below meth c S hrt hlk hK hP ls hl
  obtain ⟨hx, hb, hml, hown, hts⟩ := id S
  have hl : lv_has ls 3 [(0, .ref (a 0)), (1, .int (nI q)), (2, .int (nI w))] := hl
  have hP : gP Γ (wMd Γ a v hs g) s.heap := hP
  refine lv_aload_n hx hb dX9_of_0 rfl (lv_at hl 0 rfl) ?_
  refine va_get (D := Γ.1) (ci := 9) (v := .ref (a 1)) (C := RX9) (T := TX9) (N := 11) hx hb hts (by decide +kernel) hown hK hP 0 rfl rfl 1 (by decide) (hts (.fieldLink RX9 7 "RowVeilsModel" "s" "[I") (by decide +kernel)) (fun _ h9 => h9) rfl dX9_of_1 ?_
  refine lv_bipush (v := nI 6) hx hb dX9_of_4 (by decide) ?_
  refine lv_iconst (v := nI 4) hx hb dX9_of_6 (by decide) ?_
  refine lv_iload_n hx hb dX9_of_7 rfl (lv_at hl 1 rfl) ?_
  refine lv_imul hx hb dX9_of_8 ?_
  refine asi (z := nI (4 * q)) (pk_mul _ _) ?_
  refine lv_iadd hx hb dX9_of_9 ?_
  refine asi (z := nI (6 + (4 * q))) (nI_add _ _) ?_
  refine lv_iload_n hx hb dX9_of_10 rfl (lv_at hl 2 rfl) ?_
  refine lv_iadd hx hb dX9_of_11 ?_
  refine asi (z := nI ((6 + (4 * q)) + w)) (nI_add _ _) ?_
  refine va_iald hx hb hK hP 1 0 rfl rfl (vp_in_nI (by omega) (by omega)) dX9_of_12 ?_
  refine asi (z := nI (σ ((6 + (4 * q)) + w))) ((congrArg _ (nI_clamp (by omega))).trans (hM _ (by omega))) ?_
  exact W.iret (v := nI (σ ((6 + (4 * q)) + w))) hx hb hrt (fun t9 ht9 hW9 => ⟨_, rfl, rfl, ht9⟩) (fun _ h9 => nomatch h9) dX9_of_13 hlk

abbrev rm_X9_ofPerson : Room := { frames := 0, cells := 0, slots := 0, locals := 0 }
theorem k_X9_ofPerson : Cal yX9_ofPerson wsX9_ofPerson rm_X9_ofPerson cX9_ofPerson 3 (some .int) 2 0 0 := ⟨⟨_, rfl⟩, rfl, rfl, by decide +kernel⟩
set_option maxHeartbeats 4000000 in
set_option maxRecDepth 100000 in
theorem m_X9_ofPerson (l : Launch) (Γ : Gm) (a : Nat → Nat) (v : Nat → Int32) (hs : Int64) (g : Nat → Nat → Int32) (σ : Nat → Nat) (hM : RepM σ (g 0)) (hI : Inv σ) (p0 w : Nat) (h : 70 + 5 * p0 + w < 130) : MRi l yX9_ofPerson wsX9_ofPerson rm_X9_ofPerson Γ (wMd Γ a v hs g) [.ref (a 0), .int (nI p0), .int (nI w)] (fun r => r = nI (oP σ p0 w)) := by
  refine mR (cc := cX9_ofPerson) (maxL := 3) (ret := (some .int)) (own := RX9) (by decide) rfl rfl (Nat.le_of_ble_eq_true rfl) ?_
  intro p e s m args below meth c S hrt hlk hK hP ls hl
  obtain ⟨hx, hb, hml, hown, hts⟩ := id S
  have hl : lv_has ls 3 [(0, .ref (a 0)), (1, .int (nI p0)), (2, .int (nI w))] := hl
  have hP : gP Γ (wMd Γ a v hs g) s.heap := hP
  refine lv_aload_n hx hb dX9_ofPerson_0 rfl (lv_at hl 0 rfl) ?_
  refine va_get (D := Γ.1) (ci := 9) (v := .ref (a 1)) (C := RX9) (T := TX9) (N := 11) hx hb hts (by decide +kernel) hown hK hP 0 rfl rfl 1 (by decide) (hts (.fieldLink RX9 7 "RowVeilsModel" "s" "[I") (by decide +kernel)) (fun _ h9 => h9) rfl dX9_ofPerson_1 ?_
  refine lv_bipush (v := nI 70) hx hb dX9_ofPerson_4 (by decide) ?_
  refine lv_iconst (v := nI 5) hx hb dX9_ofPerson_6 (by decide) ?_
  refine lv_iload_n hx hb dX9_ofPerson_7 rfl (lv_at hl 1 rfl) ?_
  refine lv_imul hx hb dX9_ofPerson_8 ?_
  refine asi (z := nI (5 * p0)) (pk_mul _ _) ?_
  refine lv_iadd hx hb dX9_ofPerson_9 ?_
  refine asi (z := nI (70 + (5 * p0))) (nI_add _ _) ?_
  refine lv_iload_n hx hb dX9_ofPerson_10 rfl (lv_at hl 2 rfl) ?_
  refine lv_iadd hx hb dX9_ofPerson_11 ?_
  refine asi (z := nI ((70 + (5 * p0)) + w)) (nI_add _ _) ?_
  refine va_iald hx hb hK hP 1 0 rfl rfl (vp_in_nI (by omega) (by omega)) dX9_ofPerson_12 ?_
  refine asi (z := nI (σ ((70 + (5 * p0)) + w))) ((congrArg _ (nI_clamp (by omega))).trans (hM _ (by omega))) ?_
  exact W.iret (v := nI (σ ((70 + (5 * p0)) + w))) hx hb hrt (fun t9 ht9 hW9 => ⟨_, rfl, rfl, ht9⟩) (fun _ h9 => nomatch h9) dX9_ofPerson_13 hlk

abbrev rm_X9_masterOf : Room := { frames := 1, cells := 0, slots := 0, locals := 22 }
theorem k_X9_masterOf : Cal yX9_masterOf wsX9_masterOf rm_X9_masterOf cX9_masterOf 2 (some .int) 1 0 0 := ⟨⟨_, rfl⟩, rfl, rfl, by decide +kernel⟩
set_option maxHeartbeats 4000000 in
set_option maxRecDepth 100000 in
theorem m_X9_masterOf (l : Launch) (Γ : Gm) (a : Nat → Nat) (v : Nat → Int32) (hs : Int64) (g : Nat → Nat → Int32) (σ : Nat → Nat) (hM : RepM σ (g 0)) (hI : Inv σ) (p0 : Nat) (hp : p0 < 5) : MRi l yX9_masterOf wsX9_masterOf rm_X9_masterOf Γ (wMd Γ a v hs g) [.ref (a 0), .int (nI p0)] (fun r => r = mI (oP σ p0 2)) := by
  refine mR (cc := cX9_masterOf) (maxL := 2) (ret := (some .int)) (own := RX9) (by decide) rfl rfl (Nat.le_of_ble_eq_true rfl) ?_
  intro p e s m args below meth c S hrt hlk hK hP ls hl
  obtain ⟨hx, hb, hml, hown, hts⟩ := id S
  have hl : lv_has ls 2 [(0, .ref (a 0)), (1, .int (nI p0))] := hl
  have hP : gP Γ (wMd Γ a v hs g) s.heap := hP
  refine lv_aload_n hx hb dX9_masterOf_0 rfl (lv_at hl 0 rfl) ?_
  refine lv_iload_n hx hb dX9_masterOf_1 rfl (lv_at hl 1 rfl) ?_
  refine lv_iconst (v := nI 2) hx hb dX9_masterOf_2 (by decide) ?_
  refine cRi (As := [.int (nI p0), .int (nI 2)]) (rest := []) (m_X9_ofPerson l Γ a v hs g σ hM hI p0 2 (by omega)) S k_X9_ofPerson gX9_masterOf_X9_ofPerson rfl ⟨Nat.le_of_ble_eq_true rfl, Nat.le_of_ble_eq_true rfl⟩ hK hP [0, 1, 2, 3, 4] rfl 0 (ci := 9) rfl rfl rfl rfl hl.1 (Nat.le_of_ble_eq_true rfl) rfl dX9_masterOf_3 ⟨Nat.le_of_ble_eq_true rfl, Nat.le_of_ble_eq_true rfl⟩ (fun r hr => ?_)
  subst hr
  refine lv_iconst (v := nI 1) hx hb dX9_masterOf_6 (by decide) ?_
  refine lv_isub hx hb dX9_masterOf_7 ?_
  refine asi (z := mI (oP σ p0 2)) (rfl) ?_
  exact W.iret (v := mI (oP σ p0 2)) hx hb hrt (fun t9 ht9 hW9 => ⟨_, rfl, rfl, ht9⟩) (fun _ h9 => nomatch h9) dX9_masterOf_8 hlk

abbrev rm_X9_isPerson : Room := { frames := 1, cells := 0, slots := 0, locals := 22 }
theorem k_X9_isPerson : Cal yX9_isPerson wsX9_isPerson rm_X9_isPerson cX9_isPerson 1 (some .boolean) 1 0 0 := ⟨⟨_, rfl⟩, rfl, rfl, by decide +kernel⟩
set_option maxHeartbeats 4000000 in
set_option maxRecDepth 100000 in
theorem m_X9_isPerson (l : Launch) (x : Int32) : MSi l yX9_isPerson wsX9_isPerson rm_X9_isPerson [.int x] (fun r => r = bI (inI x (nI 0) (nI 4))) := by
  refine mS (cc := cX9_isPerson) (maxL := 1) (ret := (some .boolean)) (own := RX9) (by decide) rfl rfl (Nat.le_of_ble_eq_true rfl) ?_
  intro p e s m args below meth c S hrt hlk ls hl
  obtain ⟨hx, hb, hml, hown, hts⟩ := id S
  have hl : lv_has ls 1 [(0, .int x)] := hl
  refine lv_iload_n hx hb dX9_isPerson_0 rfl (lv_at hl 0 rfl) ?_
  refine lv_iconst (v := nI 0) hx hb dX9_isPerson_1 (by decide) ?_
  refine lv_iconst (v := nI 4) hx hb dX9_isPerson_2 (by decide) ?_
  refine cSi (As := [.int x, .int (nI 0), .int (nI 4)]) (rest := []) (m_X9_in l x (nI 0) (nI 4)) S k_X9_in gX9_isPerson_X9_in ⟨Nat.le_of_ble_eq_true rfl, Nat.le_of_ble_eq_true rfl⟩ rfl hl.1 (Nat.le_of_ble_eq_true rfl) rfl dX9_isPerson_3 ⟨Nat.le_of_ble_eq_true rfl, Nat.le_of_ble_eq_true rfl⟩ (fun r hr => ?_)
  subst hr
  exact W.zret (v := bI (inI x (nI 0) (nI 4))) hx hb hrt (zb _) (fun t9 ht9 hW9 => ⟨_, rfl, rfl, ht9⟩) (fun _ h9 => nomatch h9) dX9_isPerson_6 hlk

abbrev rm_X9_isRow : Room := { frames := 1, cells := 0, slots := 0, locals := 22 }
theorem k_X9_isRow : Cal yX9_isRow wsX9_isRow rm_X9_isRow cX9_isRow 2 (some .boolean) 1 0 0 := ⟨⟨_, rfl⟩, rfl, rfl, by decide +kernel⟩
set_option maxHeartbeats 4000000 in
set_option maxRecDepth 100000 in
theorem m_X9_isRow (l : Launch) (Γ : Gm) (a : Nat → Nat) (v : Nat → Int32) (hs : Int64) (g : Nat → Nat → Int32) (σ : Nat → Nat) (hM : RepM σ (g 0)) (hI : Inv σ) (x : Int32) : MRi l yX9_isRow wsX9_isRow rm_X9_isRow Γ (wMd Γ a v hs g) [.ref (a 0), .int x] (fun r => r = bI (inI x (nI 0) (nI (σ 0) - nI 1))) := by
  refine mR (cc := cX9_isRow) (maxL := 2) (ret := (some .boolean)) (own := RX9) (by decide) rfl rfl (Nat.le_of_ble_eq_true rfl) ?_
  intro p e s m args below meth c S hrt hlk hK hP ls hl
  obtain ⟨hx, hb, hml, hown, hts⟩ := id S
  have hl : lv_has ls 2 [(0, .ref (a 0)), (1, .int x)] := hl
  have hP : gP Γ (wMd Γ a v hs g) s.heap := hP
  refine lv_iload_n hx hb dX9_isRow_0 rfl (lv_at hl 1 rfl) ?_
  refine lv_iconst (v := nI 0) hx hb dX9_isRow_1 (by decide) ?_
  refine lv_aload_n hx hb dX9_isRow_2 rfl (lv_at hl 0 rfl) ?_
  refine va_get (D := Γ.1) (ci := 9) (v := .ref (a 1)) (C := RX9) (T := TX9) (N := 11) hx hb hts (by decide +kernel) hown hK hP 0 rfl rfl 1 (by decide) (hts (.fieldLink RX9 7 "RowVeilsModel" "s" "[I") (by decide +kernel)) (fun _ h9 => h9) rfl dX9_isRow_3 ?_
  refine lv_iconst (v := nI 0) hx hb dX9_isRow_6 (by decide) ?_
  refine va_iald hx hb hK hP 1 0 rfl rfl (vp_in_nI (by omega) (by omega)) dX9_isRow_7 ?_
  refine asi (z := nI (σ 0)) ((congrArg _ (nI_clamp (by omega))).trans (hM _ (by omega))) ?_
  refine lv_iconst (v := nI 1) hx hb dX9_isRow_8 (by decide) ?_
  refine lv_isub hx hb dX9_isRow_9 ?_
  refine cSi (As := [.int x, .int (nI 0), .int ((nI (σ 0)) - (nI 1))]) (rest := []) (m_X9_in l x (nI 0) ((nI (σ 0)) - (nI 1))) S k_X9_in gX9_isRow_X9_in ⟨Nat.le_of_ble_eq_true rfl, Nat.le_of_ble_eq_true rfl⟩ rfl hl.1 (Nat.le_of_ble_eq_true rfl) rfl dX9_isRow_10 ⟨Nat.le_of_ble_eq_true rfl, Nat.le_of_ble_eq_true rfl⟩ (fun r hr => ?_)
  subst hr
  exact W.zret (v := bI (inI x (nI 0) ((nI (σ 0)) - (nI 1)))) hx hb hrt (zb _) (fun t9 ht9 hW9 => ⟨_, rfl, rfl, ht9⟩) (fun _ h9 => nomatch h9) dX9_isRow_13 hlk

abbrev rm_X9_isMasterOver : Room := { frames := 2, cells := 0, slots := 0, locals := 43 }
theorem k_X9_isMasterOver : Cal yX9_isMasterOver wsX9_isMasterOver rm_X9_isMasterOver cX9_isMasterOver 4 (some .boolean) 2 0 0 := ⟨⟨_, rfl⟩, rfl, rfl, by decide +kernel⟩
set_option maxHeartbeats 4000000 in
set_option maxRecDepth 100000 in
theorem m_X9_isMasterOver (l : Launch) (Γ : Gm) (a : Nat → Nat) (v : Nat → Int32) (hs : Int64) (g : Nat → Nat → Int32) (σ : Nat → Nat) (hM : RepM σ (g 0)) (hI : Inv σ) (p0 o : Nat) (hp : p0 < 5) (ho : o < 5) : MRi l yX9_isMasterOver wsX9_isMasterOver rm_X9_isMasterOver Γ (wMd Γ a v hs g) [.ref (a 0), .int (nI p0), .int (nI o)] (fun r => r = bI (movQ σ p0 o)) := by
  refine mR (cc := cX9_isMasterOver) (maxL := 4) (ret := (some .boolean)) (own := RX9) (by decide) rfl rfl (Nat.le_of_ble_eq_true rfl) ?_
  intro p e s m args below meth c S hrt hlk hK hP ls hl
  obtain ⟨hx, hb, hml, hown, hts⟩ := id S
  have ho2 := (hI.person ho).2.2
  have hl : lv_has ls 4 [(0, .ref (a 0)), (1, .int (nI p0)), (2, .int (nI o))] := hl
  have hP : gP Γ (wMd Γ a v hs g) s.heap := hP
  refine lv_aload_n hx hb dX9_isMasterOver_0 rfl (lv_at hl 0 rfl) ?_
  refine lv_iload_n hx hb dX9_isMasterOver_1 rfl (lv_at hl 2 rfl) ?_
  refine cRi (As := [.int (nI o)]) (rest := []) (m_X9_masterOf l Γ a v hs g σ hM hI o (by omega)) S k_X9_masterOf gX9_isMasterOver_X9_masterOf rfl ⟨Nat.le_of_ble_eq_true rfl, Nat.le_of_ble_eq_true rfl⟩ hK hP [0, 1, 2, 3, 4] rfl 0 (ci := 9) rfl rfl rfl rfl hl.1 (Nat.le_of_ble_eq_true rfl) rfl dX9_isMasterOver_2 ⟨Nat.le_of_ble_eq_true rfl, Nat.le_of_ble_eq_true rfl⟩ (fun r hr => ?_)
  subst hr
  refine lv_istore_n (lv' := [(3, .int (mI (oP σ o 2))), (0, .ref (a 0)), (1, .int (nI p0)), (2, .int (nI o))]) hx hb dX9_isMasterOver_5 rfl hl (by decide) rfl (fun ls hl => ?_)
  refine lv_iload_n hx hb dX9_isMasterOver_6 rfl (lv_at hl 0 rfl) ?_
  refine lv_iload_n hx hb dX9_isMasterOver_7 rfl (lv_at hl 2 rfl) ?_
  refine lv_icmp_eq (tgt := 25) hx hb dX9_isMasterOver_8 (by decide) (fun c_8 => ?_) (fun c_8 => ?_)
  · have n_8 := (mI_eq ho2 hp).mp c_8.symm
    refine lv_iconst (v := nI 1) hx hb dX9_isMasterOver_25 (by decide) ?_
    refine lv_goto (tgt := 30) hx hb dX9_isMasterOver_26 (by decide) ?_
    exact W.zret (v := nI 1) hx hb hrt (z1) (fun t9 ht9 hW9 => ⟨_, rfl, bt (movQ_iff.mpr (by omega)), ht9⟩) (fun _ h9 => nomatch h9) dX9_isMasterOver_30 hlk
  · have n_8 := (not_congr (mI_eq ho2 hp)).mp (fun h => c_8 h.symm)
    refine lv_iload_n hx hb dX9_isMasterOver_11 rfl (lv_at hl 0 rfl) ?_
    refine lv_iconst (v := (-1)) hx hb dX9_isMasterOver_12 (by decide) ?_
    refine lv_icmp_eq (tgt := 29) hx hb dX9_isMasterOver_13 (by decide) (fun c_13 => ?_) (fun c_13 => ?_)
    · have n_13 := (mI_none ho2).mp c_13
      refine lv_iconst (v := nI 0) hx hb dX9_isMasterOver_29 (by decide) ?_
      exact W.zret (v := nI 0) hx hb hrt (z0) (fun t9 ht9 hW9 => ⟨_, rfl, bf (Bool.eq_false_iff.mpr (fun h => by have := movQ_iff.mp h; omega)), ht9⟩) (fun _ h9 => nomatch h9) dX9_isMasterOver_30 hlk
    · have n_13 : ¬ oP σ o 2 = 0 := fun h => c_13 ((mI_none ho2).mpr h)
      refine lv_aload_n hx hb dX9_isMasterOver_16 rfl (lv_at hl 1 rfl) ?_
      refine lv_iload_n hx hb dX9_isMasterOver_17 rfl (lv_at hl 0 rfl) ?_
      refine asi (z := nI (oP σ o 2 - 1)) (mI_pos n_13) ?_
      have ho3 := (hI.person (p := oP σ o 2 - 1) (by omega)).2.2
      refine cRi (As := [.int (nI (oP σ o 2 - 1))]) (rest := []) (m_X9_masterOf l Γ a v hs g σ hM hI (oP σ o 2 - 1) (by omega)) S k_X9_masterOf gX9_isMasterOver_X9_masterOf rfl ⟨Nat.le_of_ble_eq_true rfl, Nat.le_of_ble_eq_true rfl⟩ hK hP [0, 1, 2, 3, 4] rfl 0 (ci := 9) rfl rfl rfl rfl hl.1 (Nat.le_of_ble_eq_true rfl) rfl dX9_isMasterOver_18 ⟨Nat.le_of_ble_eq_true rfl, Nat.le_of_ble_eq_true rfl⟩ (fun r hr => ?_)
      subst hr
      refine lv_iload_n hx hb dX9_isMasterOver_21 rfl (lv_at hl 2 rfl) ?_
      refine lv_icmp_ne (tgt := 29) hx hb dX9_isMasterOver_22 (by decide) (fun c_22 => ?_) (fun c_22 => ?_)
      · have n_22 := (not_congr (mI_eq ho3 hp)).mp (fun h => c_22 h.symm)
        refine lv_iconst (v := nI 0) hx hb dX9_isMasterOver_29 (by decide) ?_
        exact W.zret (v := nI 0) hx hb hrt (z0) (fun t9 ht9 hW9 => ⟨_, rfl, bf (Bool.eq_false_iff.mpr (fun h => by have := movQ_iff.mp h; omega)), ht9⟩) (fun _ h9 => nomatch h9) dX9_isMasterOver_30 hlk
      · have n_22 := (mI_eq ho3 hp).mp c_22.symm
        refine lv_iconst (v := nI 1) hx hb dX9_isMasterOver_25 (by decide) ?_
        refine lv_goto (tgt := 30) hx hb dX9_isMasterOver_26 (by decide) ?_
        exact W.zret (v := nI 1) hx hb hrt (z1) (fun t9 ht9 hW9 => ⟨_, rfl, bt (movQ_iff.mpr (by omega)), ht9⟩) (fun _ h9 => nomatch h9) dX9_isMasterOver_30 hlk

abbrev rm_X9_isVeiledBy : Room := { frames := 3, cells := 0, slots := 0, locals := 66 }
theorem k_X9_isVeiledBy : Cal yX9_isVeiledBy wsX9_isVeiledBy rm_X9_isVeiledBy cX9_isVeiledBy 5 (some .boolean) 3 0 0 := ⟨⟨_, rfl⟩, rfl, rfl, by decide +kernel⟩
set_option maxHeartbeats 4000000 in
set_option maxRecDepth 100000 in
theorem m_X9_isVeiledBy (l : Launch) (Γ : Gm) (a : Nat → Nat) (v : Nat → Int32) (hs : Int64) (g : Nat → Nat → Int32) (σ : Nat → Nat) (hM : RepM σ (g 0)) (hI : Inv σ) (w p0 q : Nat) (hw : w < 4) (hp : p0 < 5) (hq0 : q < σ 0) (hne : ¬ oR σ q 0 = p0) : MRi l yX9_isVeiledBy wsX9_isVeiledBy rm_X9_isVeiledBy Γ (wMd Γ a v hs g) [.ref (a 0), .int (nI w), .int (nI p0), .int (nI q)] (fun r => r = bI (vm σ p0 q w)) := by
  refine mR (cc := cX9_isVeiledBy) (maxL := 5) (ret := (some .boolean)) (own := RX9) (by decide) rfl rfl (Nat.le_of_ble_eq_true rfl) ?_
  intro p e s m args below meth c S hrt hlk hK hP ls hl
  obtain ⟨hx, hb, hml, hown, hts⟩ := id S
  have hn := hI.n
  have hrow := hI.row hq0
  have hper := hI.person hp
  have hl : lv_has ls 5 [(0, .ref (a 0)), (1, .int (nI w)), (2, .int (nI p0)), (3, .int (nI q))] := hl
  have hP : gP Γ (wMd Γ a v hs g) s.heap := hP
  refine lv_aload_n hx hb dX9_isVeiledBy_0 rfl (lv_at hl 0 rfl) ?_
  refine lv_iload_n hx hb dX9_isVeiledBy_1 rfl (lv_at hl 3 rfl) ?_
  refine lv_iconst (v := nI 3) hx hb dX9_isVeiledBy_2 (by decide) ?_
  refine cRi (As := [.int (nI q), .int (nI 3)]) (rest := []) (m_X9_of l Γ a v hs g σ hM hI q 3 (by omega)) S k_X9_of gX9_isVeiledBy_X9_of rfl ⟨Nat.le_of_ble_eq_true rfl, Nat.le_of_ble_eq_true rfl⟩ hK hP [0, 1, 2, 3, 4] rfl 0 (ci := 9) rfl rfl rfl rfl hl.1 (Nat.le_of_ble_eq_true rfl) rfl dX9_isVeiledBy_3 ⟨Nat.le_of_ble_eq_true rfl, Nat.le_of_ble_eq_true rfl⟩ (fun r hr => ?_)
  subst hr
  refine lv_istore (lv' := [(4, .int (nI (oR σ q 3))), (0, .ref (a 0)), (1, .int (nI w)), (2, .int (nI p0)), (3, .int (nI q))]) hx hb dX9_isVeiledBy_6 hl (by decide) rfl (fun ls hl => ?_)
  refine lv_iload_n hx hb dX9_isVeiledBy_8 rfl (lv_at hl 2 rfl) ?_
  rcases (by omega : w = 0 ∨ w = 1 ∨ w = 2 ∨ w = 3) with rfl | rfl | rfl | rfl
  · refine lv_tableIn (off := 27) (tgt := 36) hx hb dX9_isVeiledBy_9 (by decide) (by decide) (by decide) (by decide) ?_
    refine lv_iload hx hb dX9_isVeiledBy_36 (lv_at hl 0 rfl) ?_
    refine lv_aload_n hx hb dX9_isVeiledBy_38 rfl (lv_at hl 1 rfl) ?_
    refine lv_iload_n hx hb dX9_isVeiledBy_39 rfl (lv_at hl 3 rfl) ?_
    refine lv_iconst (v := nI 0) hx hb dX9_isVeiledBy_40 (by decide) ?_
    refine cRi (As := [.int (nI p0), .int (nI 0)]) (rest := [.int (nI (oR σ q 3))]) (m_X9_ofPerson l Γ a v hs g σ hM hI p0 0 (by omega)) S k_X9_ofPerson gX9_isVeiledBy_X9_ofPerson rfl ⟨Nat.le_of_ble_eq_true rfl, Nat.le_of_ble_eq_true rfl⟩ hK hP [0, 1, 2, 3, 4] rfl 0 (ci := 9) rfl rfl rfl rfl hl.1 (Nat.le_of_ble_eq_true rfl) rfl dX9_isVeiledBy_41 ⟨Nat.le_of_ble_eq_true rfl, Nat.le_of_ble_eq_true rfl⟩ (fun r hr => ?_)
    subst hr
    refine lv_icmp_le (tgt := 51) hx hb dX9_isVeiledBy_44 (by decide) (fun c_44 => ?_) (fun c_44 => ?_)
    · have n_44 := (nI_leI (a := (oR σ q 3)) (b := (oP σ p0 0)) (by omega) (by omega)).mp c_44
      refine lv_iconst (v := nI 0) hx hb dX9_isVeiledBy_51 (by decide) ?_
      exact W.zret (v := nI 0) hx hb hrt (z0) (fun t9 ht9 hW9 => ⟨_, rfl, bf (Bool.eq_false_iff.mpr (fun h => by have := vm0_iff.mp h; omega)), ht9⟩) (fun _ h9 => nomatch h9) dX9_isVeiledBy_52 hlk
    · have n_44 := (not_congr (nI_leI (a := (oR σ q 3)) (b := (oP σ p0 0)) (by omega) (by omega))).mp c_44
      refine lv_iconst (v := nI 1) hx hb dX9_isVeiledBy_47 (by decide) ?_
      refine lv_goto (tgt := 52) hx hb dX9_isVeiledBy_48 (by decide) ?_
      exact W.zret (v := nI 1) hx hb hrt (z1) (fun t9 ht9 hW9 => ⟨_, rfl, bt (vm0_iff.mpr (by omega)), ht9⟩) (fun _ h9 => nomatch h9) dX9_isVeiledBy_52 hlk
  · refine lv_tableIn (off := 44) (tgt := 53) hx hb dX9_isVeiledBy_9 (by decide) (by decide) (by decide) (by decide) ?_
    refine lv_aload_n hx hb dX9_isVeiledBy_53 rfl (lv_at hl 1 rfl) ?_
    refine lv_iload_n hx hb dX9_isVeiledBy_54 rfl (lv_at hl 4 rfl) ?_
    refine lv_iconst (v := nI 1) hx hb dX9_isVeiledBy_55 (by decide) ?_
    refine cRi (As := [.int (nI q), .int (nI 1)]) (rest := []) (m_X9_of l Γ a v hs g σ hM hI q 1 (by omega)) S k_X9_of gX9_isVeiledBy_X9_of rfl ⟨Nat.le_of_ble_eq_true rfl, Nat.le_of_ble_eq_true rfl⟩ hK hP [0, 1, 2, 3, 4] rfl 0 (ci := 9) rfl rfl rfl rfl hl.1 (Nat.le_of_ble_eq_true rfl) rfl dX9_isVeiledBy_56 ⟨Nat.le_of_ble_eq_true rfl, Nat.le_of_ble_eq_true rfl⟩ (fun r hr => ?_)
    subst hr
    refine lv_aload_n hx hb dX9_isVeiledBy_59 rfl (lv_at hl 1 rfl) ?_
    refine lv_iload_n hx hb dX9_isVeiledBy_60 rfl (lv_at hl 3 rfl) ?_
    refine lv_iconst (v := nI 1) hx hb dX9_isVeiledBy_61 (by decide) ?_
    refine cRi (As := [.int (nI p0), .int (nI 1)]) (rest := [.int (nI (oR σ q 1))]) (m_X9_ofPerson l Γ a v hs g σ hM hI p0 1 (by omega)) S k_X9_ofPerson gX9_isVeiledBy_X9_ofPerson rfl ⟨Nat.le_of_ble_eq_true rfl, Nat.le_of_ble_eq_true rfl⟩ hK hP [0, 1, 2, 3, 4] rfl 0 (ci := 9) rfl rfl rfl rfl hl.1 (Nat.le_of_ble_eq_true rfl) rfl dX9_isVeiledBy_62 ⟨Nat.le_of_ble_eq_true rfl, Nat.le_of_ble_eq_true rfl⟩ (fun r hr => ?_)
    subst hr
    refine lv_icmp_eq (tgt := 78) hx hb dX9_isVeiledBy_65 (by decide) (fun c_65 => ?_) (fun c_65 => ?_)
    · have n_65 := (nI_eq (a := (oR σ q 1)) (b := (oP σ p0 1)) (by omega) (by omega)).mp c_65
      refine lv_iconst (v := nI 0) hx hb dX9_isVeiledBy_78 (by decide) ?_
      exact W.zret (v := nI 0) hx hb hrt (z0) (fun t9 ht9 hW9 => ⟨_, rfl, bf (Bool.eq_false_iff.mpr (fun h => by have := vm1_iff.mp h; omega)), ht9⟩) (fun _ h9 => nomatch h9) dX9_isVeiledBy_79 hlk
    · have n_65 := (not_congr (nI_eq (a := (oR σ q 1)) (b := (oP σ p0 1)) (by omega) (by omega))).mp c_65
      refine lv_iload hx hb dX9_isVeiledBy_68 (lv_at hl 0 rfl) ?_
      refine lv_iconst (v := nI 2) hx hb dX9_isVeiledBy_70 (by decide) ?_
      refine lv_icmp_lt (tgt := 78) hx hb dX9_isVeiledBy_71 (by decide) (fun c_71 => ?_) (fun c_71 => ?_)
      · have n_71 := (nI_ltI (a := (oR σ q 3)) (b := 2) (by omega) (by omega)).mp c_71
        refine lv_iconst (v := nI 0) hx hb dX9_isVeiledBy_78 (by decide) ?_
        exact W.zret (v := nI 0) hx hb hrt (z0) (fun t9 ht9 hW9 => ⟨_, rfl, bf (Bool.eq_false_iff.mpr (fun h => by have := vm1_iff.mp h; omega)), ht9⟩) (fun _ h9 => nomatch h9) dX9_isVeiledBy_79 hlk
      · have n_71 := (not_congr (nI_ltI (a := (oR σ q 3)) (b := 2) (by omega) (by omega))).mp c_71
        refine lv_iconst (v := nI 1) hx hb dX9_isVeiledBy_74 (by decide) ?_
        refine lv_goto (tgt := 79) hx hb dX9_isVeiledBy_75 (by decide) ?_
        exact W.zret (v := nI 1) hx hb hrt (z1) (fun t9 ht9 hW9 => ⟨_, rfl, bt (vm1_iff.mpr (by omega)), ht9⟩) (fun _ h9 => nomatch h9) dX9_isVeiledBy_79 hlk
  · refine lv_tableIn (off := 71) (tgt := 80) hx hb dX9_isVeiledBy_9 (by decide) (by decide) (by decide) (by decide) ?_
    refine lv_aload_n hx hb dX9_isVeiledBy_80 rfl (lv_at hl 1 rfl) ?_
    refine lv_iload_n hx hb dX9_isVeiledBy_81 rfl (lv_at hl 4 rfl) ?_
    refine lv_iconst (v := nI 0) hx hb dX9_isVeiledBy_82 (by decide) ?_
    refine cRi (As := [.int (nI q), .int (nI 0)]) (rest := []) (m_X9_of l Γ a v hs g σ hM hI q 0 (by omega)) S k_X9_of gX9_isVeiledBy_X9_of rfl ⟨Nat.le_of_ble_eq_true rfl, Nat.le_of_ble_eq_true rfl⟩ hK hP [0, 1, 2, 3, 4] rfl 0 (ci := 9) rfl rfl rfl rfl hl.1 (Nat.le_of_ble_eq_true rfl) rfl dX9_isVeiledBy_83 ⟨Nat.le_of_ble_eq_true rfl, Nat.le_of_ble_eq_true rfl⟩ (fun r hr => ?_)
    subst hr
    refine lv_iload_n hx hb dX9_isVeiledBy_86 rfl (lv_at hl 3 rfl) ?_
    refine lv_icmp_eq (tgt := 105) hx hb dX9_isVeiledBy_87 (by decide) (fun c_87 => ?_) (fun c_87 => ?_)
    · have n_87 := (nI_eq (a := (oR σ q 0)) (b := p0) (by omega) (by omega)).mp c_87
      exact absurd n_87 (by omega)
    · have n_87 := (not_congr (nI_eq (a := (oR σ q 0)) (b := p0) (by omega) (by omega))).mp c_87
      refine lv_aload_n hx hb dX9_isVeiledBy_90 rfl (lv_at hl 1 rfl) ?_
      refine lv_iload_n hx hb dX9_isVeiledBy_91 rfl (lv_at hl 4 rfl) ?_
      refine lv_iconst (v := nI 2) hx hb dX9_isVeiledBy_92 (by decide) ?_
      refine cRi (As := [.int (nI q), .int (nI 2)]) (rest := []) (m_X9_of l Γ a v hs g σ hM hI q 2 (by omega)) S k_X9_of gX9_isVeiledBy_X9_of rfl ⟨Nat.le_of_ble_eq_true rfl, Nat.le_of_ble_eq_true rfl⟩ hK hP [0, 1, 2, 3, 4] rfl 0 (ci := 9) rfl rfl rfl rfl hl.1 (Nat.le_of_ble_eq_true rfl) rfl dX9_isVeiledBy_93 ⟨Nat.le_of_ble_eq_true rfl, Nat.le_of_ble_eq_true rfl⟩ (fun r hr => ?_)
      subst hr
      refine lv_bipush (v := nI 90) hx hb dX9_isVeiledBy_96 (by decide) ?_
      refine lv_icmp_lt (tgt := 105) hx hb dX9_isVeiledBy_98 (by decide) (fun c_98 => ?_) (fun c_98 => ?_)
      · have n_98 := (nI_ltI (a := (oR σ q 2)) (b := 90) (by omega) (by omega)).mp c_98
        refine lv_iconst (v := nI 0) hx hb dX9_isVeiledBy_105 (by decide) ?_
        exact W.zret (v := nI 0) hx hb hrt (z0) (fun t9 ht9 hW9 => ⟨_, rfl, bf (Bool.eq_false_iff.mpr (fun h => by have := vm2_iff.mp h; omega)), ht9⟩) (fun _ h9 => nomatch h9) dX9_isVeiledBy_106 hlk
      · have n_98 := (not_congr (nI_ltI (a := (oR σ q 2)) (b := 90) (by omega) (by omega))).mp c_98
        refine lv_iconst (v := nI 1) hx hb dX9_isVeiledBy_101 (by decide) ?_
        refine lv_goto (tgt := 106) hx hb dX9_isVeiledBy_102 (by decide) ?_
        exact W.zret (v := nI 1) hx hb hrt (z1) (fun t9 ht9 hW9 => ⟨_, rfl, bt (vm2_iff.mpr (by omega)), ht9⟩) (fun _ h9 => nomatch h9) dX9_isVeiledBy_106 hlk
  · refine lv_tableOut (tgt := 107) hx hb dX9_isVeiledBy_9 (by decide) (by decide) ?_
    refine lv_iload hx hb dX9_isVeiledBy_107 (lv_at hl 0 rfl) ?_
    refine lv_iconst (v := nI 3) hx hb dX9_isVeiledBy_109 (by decide) ?_
    refine lv_icmp_ne (tgt := 131) hx hb dX9_isVeiledBy_110 (by decide) (fun c_110 => ?_) (fun c_110 => ?_)
    · have n_110 := (not_congr (nI_eq (a := (oR σ q 3)) (b := 3) (by omega) (by omega))).mp c_110
      refine lv_iconst (v := nI 0) hx hb dX9_isVeiledBy_131 (by decide) ?_
      exact W.zret (v := nI 0) hx hb hrt (z0) (fun t9 ht9 hW9 => ⟨_, rfl, bf (Bool.eq_false_iff.mpr (fun h => by have := vm3_iff.mp h; omega)), ht9⟩) (fun _ h9 => nomatch h9) dX9_isVeiledBy_132 hlk
    · have n_110 := (nI_eq (a := (oR σ q 3)) (b := 3) (by omega) (by omega)).mp c_110
      refine lv_aload_n hx hb dX9_isVeiledBy_113 rfl (lv_at hl 1 rfl) ?_
      refine lv_iload_n hx hb dX9_isVeiledBy_114 rfl (lv_at hl 3 rfl) ?_
      refine lv_aload_n hx hb dX9_isVeiledBy_115 rfl (lv_at hl 1 rfl) ?_
      refine lv_iload_n hx hb dX9_isVeiledBy_116 rfl (lv_at hl 4 rfl) ?_
      refine lv_iconst (v := nI 0) hx hb dX9_isVeiledBy_117 (by decide) ?_
      refine cRi (As := [.int (nI q), .int (nI 0)]) (rest := [.int (nI p0), .ref (a 0)]) (m_X9_of l Γ a v hs g σ hM hI q 0 (by omega)) S k_X9_of gX9_isVeiledBy_X9_of rfl ⟨Nat.le_of_ble_eq_true rfl, Nat.le_of_ble_eq_true rfl⟩ hK hP [0, 1, 2, 3, 4] rfl 0 (ci := 9) rfl rfl rfl rfl hl.1 (Nat.le_of_ble_eq_true rfl) rfl dX9_isVeiledBy_118 ⟨Nat.le_of_ble_eq_true rfl, Nat.le_of_ble_eq_true rfl⟩ (fun r hr => ?_)
      subst hr
      refine cRi (As := [.int (nI p0), .int (nI (oR σ q 0))]) (rest := []) (m_X9_isMasterOver l Γ a v hs g σ hM hI p0 (oR σ q 0) hp (by omega)) S k_X9_isMasterOver gX9_isVeiledBy_X9_isMasterOver rfl ⟨Nat.le_of_ble_eq_true rfl, Nat.le_of_ble_eq_true rfl⟩ hK hP [0, 1, 2, 3, 4] rfl 0 (ci := 9) rfl rfl rfl rfl hl.1 (Nat.le_of_ble_eq_true rfl) rfl dX9_isVeiledBy_121 ⟨Nat.le_of_ble_eq_true rfl, Nat.le_of_ble_eq_true rfl⟩ (fun r hr => ?_)
      subst hr
      refine lv_if_eq (tgt := 131) hx hb dX9_isVeiledBy_124 (by decide) (fun c_124 => ?_) (fun c_124 => ?_)
      · have n_124 := bI_z.mp c_124
        rw [movQ_eq] at n_124; simp only [decide_eq_true_eq, decide_eq_false_iff_not] at n_124
        refine lv_iconst (v := nI 0) hx hb dX9_isVeiledBy_131 (by decide) ?_
        exact W.zret (v := nI 0) hx hb hrt (z0) (fun t9 ht9 hW9 => ⟨_, rfl, bf (Bool.eq_false_iff.mpr (fun h => by have := vm3_iff.mp h; omega)), ht9⟩) (fun _ h9 => nomatch h9) dX9_isVeiledBy_132 hlk
      · have n_124 := bI_nz.mp c_124
        rw [movQ_eq] at n_124; simp only [decide_eq_true_eq, decide_eq_false_iff_not] at n_124
        refine lv_iconst (v := nI 1) hx hb dX9_isVeiledBy_127 (by decide) ?_
        refine lv_goto (tgt := 132) hx hb dX9_isVeiledBy_128 (by decide) ?_
        exact W.zret (v := nI 1) hx hb hrt (z1) (fun t9 ht9 hW9 => ⟨_, rfl, bt (vm3_iff.mpr (by omega)), ht9⟩) (fun _ h9 => nomatch h9) dX9_isVeiledBy_132 hlk

abbrev rm_X9_veilsOf : Room := { frames := 4, cells := 0, slots := 0, locals := 90 }
theorem k_X9_veilsOf : Cal yX9_veilsOf wsX9_veilsOf rm_X9_veilsOf cX9_veilsOf 6 (some .int) 2 0 0 := ⟨⟨_, rfl⟩, rfl, rfl, by decide +kernel⟩
set_option maxHeartbeats 4000000 in
set_option maxRecDepth 100000 in
theorem m_X9_veilsOf (l : Launch) (Γ : Gm) (a : Nat → Nat) (v : Nat → Int32) (hs : Int64) (g : Nat → Nat → Int32) (σ : Nat → Nat) (hM : RepM σ (g 0)) (hI : Inv σ) (p0 q : Nat) (hp : p0 < 5) (hq0 : q < σ 0) : MRi l yX9_veilsOf wsX9_veilsOf rm_X9_veilsOf Γ (wMd Γ a v hs g) [.ref (a 0), .int (nI p0), .int (nI q)] (fun r => r = nI (vmk σ p0 q)) := by
  refine mR (cc := cX9_veilsOf) (maxL := 6) (ret := (some .int)) (own := RX9) (by decide) rfl rfl (Nat.le_of_ble_eq_true rfl) ?_
  intro p e s m args below meth c S hrt hlk hK hP ls hl
  obtain ⟨hx, hb, hml, hown, hts⟩ := id S
  have hn := hI.n
  have hrow := hI.row hq0
  have hu := hI.rules
  have hl : lv_has ls 6 [(0, .ref (a 0)), (1, .int (nI p0)), (2, .int (nI q))] := hl
  have hP : gP Γ (wMd Γ a v hs g) s.heap := hP
  have L_5 : ∀ (fuel : Nat), ∀ (k : Nat) (x3 : Int32) (hk : k ≤ 4) (hfk : 4 - k < fuel) (e_x3 : x3 = nI (bset (pvQ σ p0 q) k)) (hox : k = 0 ∨ ¬ oR σ q 0 = p0), ∀ ls : Array Slot, lv_has ls 6 [(0, .ref (a 0)), (1, .int (nI p0)), (2, .int (nI q)), (4, .int (nI k)), (3, .int x3)] → W p l e rm_X9_veilsOf s m args below meth c s.heap [] 0 0 (MQ below (vp_Si (fun r => r = nI (vmk σ p0 q))) args s 0 0 (fun _ => False)) (F0 m 5 ls []) := by
    intro fuel
    induction fuel with
    | zero => intro k x3 hk hfk e_x3 hox; exact absurd hfk (by omega)
    | succ fuel ih_5 =>
      intro k x3 hk hfk e_x3 hox ls hl
      subst e_x3
      have L_52 : ∀ (y : Int32) (e_y : y = bI ((pvQ σ p0 q) k)) (n_18 : ¬ oR σ q 0 = p0) (n_8 : ¬ 4 ≤ k), ∀ ls : Array Slot, lv_has ls 6 [(0, .ref (a 0)), (1, .int (nI p0)), (2, .int (nI q)), (3, .int (nI (bset (pvQ σ p0 q) k))), (4, .int (nI k))] → W p l e rm_X9_veilsOf s m args below meth c s.heap [] 0 0 (MQ below (vp_Si (fun r => r = nI (vmk σ p0 q))) args s 0 0 (fun _ => False)) (F0 m 52 ls [.int y]) := by
        intro y e_y n_18 n_8 ls hl
        subst e_y
        refine lv_istore (lv' := [(5, .int (bI ((pvQ σ p0 q) k))), (0, .ref (a 0)), (1, .int (nI p0)), (2, .int (nI q)), (3, .int (nI (bset (pvQ σ p0 q) k))), (4, .int (nI k))]) hx hb dX9_veilsOf_52 hl (by decide) rfl (fun ls hl => ?_)
        refine lv_iload_n hx hb dX9_veilsOf_54 rfl (lv_at hl 4 rfl) ?_
        refine lv_iload hx hb dX9_veilsOf_55 (lv_at hl 0 rfl) ?_
        refine lv_if_eq (tgt := 67) hx hb dX9_veilsOf_57 (by decide) (fun c_57 => ?_) (fun c_57 => ?_)
        · have n_57 := bI_z.mp c_57
          refine lv_iconst (v := nI 0) hx hb dX9_veilsOf_67 (by decide) ?_
          refine lv_ior hx hb dX9_veilsOf_68 ?_
          refine asi (z := nI (bset (pvQ σ p0 q) (k + 1))) (by first | exact bo_s (p := (pvQ σ p0 q)) (by omega) n_57 | exact bo_z (p := (pvQ σ p0 q)) n_57) ?_
          refine lv_istore_n (lv' := [(3, .int (nI (bset (pvQ σ p0 q) (k + 1)))), (5, .int (bI ((pvQ σ p0 q) k))), (0, .ref (a 0)), (1, .int (nI p0)), (2, .int (nI q)), (4, .int (nI k))]) hx hb dX9_veilsOf_69 rfl hl (by decide) rfl (fun ls hl => ?_)
          refine lv_iinc (v := nI (k + 1)) (lv' := [(4, .int (nI (k + 1))), (3, .int (nI (bset (pvQ σ p0 q) (k + 1)))), (5, .int (bI ((pvQ σ p0 q) k))), (0, .ref (a 0)), (1, .int (nI p0)), (2, .int (nI q))]) hx hb dX9_veilsOf_70 hl (k := 5) rfl (nI_add _ _) (by decide) rfl (fun ls hl => ?_)
          refine lv_goto (tgt := 5) hx hb dX9_veilsOf_73 (by decide) ?_
          exact ih_5 (k + 1) (nI (bset (pvQ σ p0 q) (k + 1))) (by omega) (by omega) rfl (Or.inr n_18) ls (lv_sub hl [3, 4, 5, 0, 1] rfl)
        · have n_57 := bI_nz.mp c_57
          refine lv_iconst (v := nI 1) hx hb dX9_veilsOf_60 (by decide) ?_
          refine lv_iload hx hb dX9_veilsOf_61 (lv_at hl 5 rfl) ?_
          refine lv_ishl hx hb dX9_veilsOf_63 ?_
          refine lv_goto (tgt := 68) hx hb dX9_veilsOf_64 (by decide) ?_
          refine lv_ior hx hb dX9_veilsOf_68 ?_
          refine asi (z := nI (bset (pvQ σ p0 q) (k + 1))) (by first | exact bo_s (p := (pvQ σ p0 q)) (by omega) n_57 | exact bo_z (p := (pvQ σ p0 q)) n_57) ?_
          refine lv_istore_n (lv' := [(3, .int (nI (bset (pvQ σ p0 q) (k + 1)))), (5, .int (bI ((pvQ σ p0 q) k))), (0, .ref (a 0)), (1, .int (nI p0)), (2, .int (nI q)), (4, .int (nI k))]) hx hb dX9_veilsOf_69 rfl hl (by decide) rfl (fun ls hl => ?_)
          refine lv_iinc (v := nI (k + 1)) (lv' := [(4, .int (nI (k + 1))), (3, .int (nI (bset (pvQ σ p0 q) (k + 1)))), (5, .int (bI ((pvQ σ p0 q) k))), (0, .ref (a 0)), (1, .int (nI p0)), (2, .int (nI q))]) hx hb dX9_veilsOf_70 hl (k := 5) rfl (nI_add _ _) (by decide) rfl (fun ls hl => ?_)
          refine lv_goto (tgt := 5) hx hb dX9_veilsOf_73 (by decide) ?_
          exact ih_5 (k + 1) (nI (bset (pvQ σ p0 q) (k + 1))) (by omega) (by omega) rfl (Or.inr n_18) ls (lv_sub hl [3, 4, 5, 0, 1] rfl)
      refine lv_iload hx hb dX9_veilsOf_5 (lv_at hl 3 rfl) ?_
      refine lv_iconst (v := nI 4) hx hb dX9_veilsOf_7 (by decide) ?_
      refine lv_icmp_ge (tgt := 76) hx hb dX9_veilsOf_8 (by decide) (fun c_8 => ?_) (fun c_8 => ?_)
      · have n_8 := (nI_leI (a := 4) (b := k) (by omega) (by omega)).mp c_8
        refine lv_iload_n hx hb dX9_veilsOf_76 rfl (lv_at hl 4 rfl) ?_
        exact W.iret (v := nI (bset (pvQ σ p0 q) k)) hx hb hrt (fun t9 ht9 hW9 => ⟨_, rfl, by first | rw [vmk_own n_18, show k = 0 from by omega]; rfl | rw [vmk_ne (by omega), show k = 4 from by omega, pv_and hu], ht9⟩) (fun _ h9 => nomatch h9) dX9_veilsOf_77 hlk
      · have n_8 := (not_congr (nI_leI (a := 4) (b := k) (by omega) (by omega))).mp c_8
        refine lv_aload_n hx hb dX9_veilsOf_11 rfl (lv_at hl 0 rfl) ?_
        refine lv_iload_n hx hb dX9_veilsOf_12 rfl (lv_at hl 2 rfl) ?_
        refine lv_iconst (v := nI 0) hx hb dX9_veilsOf_13 (by decide) ?_
        refine cRi (As := [.int (nI q), .int (nI 0)]) (rest := []) (m_X9_of l Γ a v hs g σ hM hI q 0 (by omega)) S k_X9_of gX9_veilsOf_X9_of rfl ⟨Nat.le_of_ble_eq_true rfl, Nat.le_of_ble_eq_true rfl⟩ hK hP [0, 1, 2, 3, 4] rfl 0 (ci := 9) rfl rfl rfl rfl hl.1 (Nat.le_of_ble_eq_true rfl) rfl dX9_veilsOf_14 ⟨Nat.le_of_ble_eq_true rfl, Nat.le_of_ble_eq_true rfl⟩ (fun r hr => ?_)
        subst hr
        refine lv_iload_n hx hb dX9_veilsOf_17 rfl (lv_at hl 1 rfl) ?_
        refine lv_icmp_eq (tgt := 76) hx hb dX9_veilsOf_18 (by decide) (fun c_18 => ?_) (fun c_18 => ?_)
        · have n_18 := (nI_eq (a := (oR σ q 0)) (b := p0) (by omega) (by omega)).mp c_18
          refine lv_iload_n hx hb dX9_veilsOf_76 rfl (lv_at hl 4 rfl) ?_
          exact W.iret (v := nI (bset (pvQ σ p0 q) k)) hx hb hrt (fun t9 ht9 hW9 => ⟨_, rfl, by first | rw [vmk_own n_18, show k = 0 from by omega]; rfl | rw [vmk_ne (by omega), show k = 4 from by omega, pv_and hu], ht9⟩) (fun _ h9 => nomatch h9) dX9_veilsOf_77 hlk
        · have n_18 := (not_congr (nI_eq (a := (oR σ q 0)) (b := p0) (by omega) (by omega))).mp c_18
          refine lv_aload_n hx hb dX9_veilsOf_21 rfl (lv_at hl 0 rfl) ?_
          refine va_get (D := Γ.1) (ci := 9) (v := .ref (a 1)) (C := RX9) (T := TX9) (N := 11) hx hb hts (by decide +kernel) hown hK hP 0 rfl rfl 1 (by decide) (hts (.fieldLink RX9 7 "RowVeilsModel" "s" "[I") (by decide +kernel)) (fun _ h9 => h9) rfl dX9_veilsOf_22 ?_
          refine lv_iconst (v := nI 1) hx hb dX9_veilsOf_25 (by decide) ?_
          refine va_iald hx hb hK hP 1 0 rfl rfl (vp_in_nI (by omega) (by omega)) dX9_veilsOf_26 ?_
          refine asi (z := nI (σ 1)) ((congrArg _ (nI_clamp (by omega))).trans (hM _ (by omega))) ?_
          refine lv_iload hx hb dX9_veilsOf_27 (lv_at hl 3 rfl) ?_
          refine lv_ishr hx hb dX9_veilsOf_29 ?_
          refine asi (z := nI (σ 1 >>> k)) (shr_n (by omega) (by omega)) ?_
          refine lv_iconst (v := nI 1) hx hb dX9_veilsOf_30 (by decide) ?_
          refine lv_iand hx hb dX9_veilsOf_31 ?_
          refine asi (z := nI ((σ 1 >>> k) % 2)) (by rw [nI_and, Nat.and_one_is_mod]) ?_
          refine lv_iconst (v := nI 1) hx hb dX9_veilsOf_32 (by decide) ?_
          refine lv_icmp_ne (tgt := 51) hx hb dX9_veilsOf_33 (by decide) (fun c_33 => ?_) (fun c_33 => ?_)
          · have n_33 : (σ 1).testBit k = false := tb_f (fun h => c_33 (by rw [h]))
            refine lv_iconst (v := nI 0) hx hb dX9_veilsOf_51 (by decide) ?_
            exact L_52 (nI 0) (by unfold pvQ; first | exact bt (by rw [n_33, n_44]; rfl) | exact bf (by rw [n_33]; rfl) | exact bf (by rw [n_44, Bool.and_false])) n_18 n_8 ls (lv_sub hl [0, 1, 2, 4, 3] rfl)
          · have n_33 : (σ 1).testBit k = true := tb_t ((nI_eq (by omega) (by decide)).mp c_33)
            refine lv_aload_n hx hb dX9_veilsOf_36 rfl (lv_at hl 0 rfl) ?_
            refine lv_iload hx hb dX9_veilsOf_37 (lv_at hl 3 rfl) ?_
            refine lv_iload_n hx hb dX9_veilsOf_39 rfl (lv_at hl 1 rfl) ?_
            refine lv_iload_n hx hb dX9_veilsOf_40 rfl (lv_at hl 2 rfl) ?_
            refine cRi (As := [.int (nI k), .int (nI p0), .int (nI q)]) (rest := []) (m_X9_isVeiledBy l Γ a v hs g σ hM hI k p0 q (by omega) hp hq0 n_18) S k_X9_isVeiledBy gX9_veilsOf_X9_isVeiledBy rfl ⟨Nat.le_of_ble_eq_true rfl, Nat.le_of_ble_eq_true rfl⟩ hK hP [0, 1, 2, 3, 4] rfl 0 (ci := 9) rfl rfl rfl rfl hl.1 (Nat.le_of_ble_eq_true rfl) rfl dX9_veilsOf_41 ⟨Nat.le_of_ble_eq_true rfl, Nat.le_of_ble_eq_true rfl⟩ (fun r hr => ?_)
            subst hr
            refine lv_if_eq (tgt := 51) hx hb dX9_veilsOf_44 (by decide) (fun c_44 => ?_) (fun c_44 => ?_)
            · have n_44 := bI_z.mp c_44
              refine lv_iconst (v := nI 0) hx hb dX9_veilsOf_51 (by decide) ?_
              exact L_52 (nI 0) (by unfold pvQ; first | exact bt (by rw [n_33, n_44]; rfl) | exact bf (by rw [n_33]; rfl) | exact bf (by rw [n_44, Bool.and_false])) n_18 n_8 ls (lv_sub hl [0, 1, 2, 4, 3] rfl)
            · have n_44 := bI_nz.mp c_44
              refine lv_iconst (v := nI 1) hx hb dX9_veilsOf_47 (by decide) ?_
              refine lv_goto (tgt := 52) hx hb dX9_veilsOf_48 (by decide) ?_
              exact L_52 (nI 1) (by unfold pvQ; first | exact bt (by rw [n_33, n_44]; rfl) | exact bf (by rw [n_33]; rfl) | exact bf (by rw [n_44, Bool.and_false])) n_18 n_8 ls (lv_sub hl [0, 1, 2, 4, 3] rfl)
  refine lv_iconst (v := nI 0) hx hb dX9_veilsOf_0 (by decide) ?_
  refine lv_istore_n (lv' := [(3, .int (nI 0)), (0, .ref (a 0)), (1, .int (nI p0)), (2, .int (nI q))]) hx hb dX9_veilsOf_1 rfl hl (by decide) rfl (fun ls hl => ?_)
  refine lv_iconst (v := nI 0) hx hb dX9_veilsOf_2 (by decide) ?_
  refine lv_istore (lv' := [(4, .int (nI 0)), (3, .int (nI 0)), (0, .ref (a 0)), (1, .int (nI p0)), (2, .int (nI q))]) hx hb dX9_veilsOf_3 hl (by decide) rfl (fun ls hl => ?_)
  exact L_5 (4 + 1) 0 (nI 0) (by omega) (by omega) rfl (Or.inl rfl) ls (lv_sub hl [2, 3, 4, 0, 1] rfl)

abbrev rm_X9_seenBy : Room := { frames := 5, cells := 0, slots := 0, locals := 115 }
theorem k_X9_seenBy : Cal yX9_seenBy wsX9_seenBy rm_X9_seenBy cX9_seenBy 4 (some .int) 1 0 0 := ⟨⟨_, rfl⟩, rfl, rfl, by decide +kernel⟩
set_option maxHeartbeats 4000000 in
set_option maxRecDepth 100000 in
theorem m_X9_seenBy (l : Launch) (Γ : Gm) (a : Nat → Nat) (v : Nat → Int32) (hs : Int64) (g : Nat → Nat → Int32) (σ : Nat → Nat) (hM : RepM σ (g 0)) (hI : Inv σ) (p0 : Nat) (hp : p0 < 5) : MRi l yX9_seenBy wsX9_seenBy rm_X9_seenBy Γ (wMd Γ a v hs g) [.ref (a 0), .int (nI p0)] (fun r => r = nI (sAll σ p0)) := by
  refine mR (cc := cX9_seenBy) (maxL := 4) (ret := (some .int)) (own := RX9) (by decide) rfl rfl (Nat.le_of_ble_eq_true rfl) ?_
  intro p e s m args below meth c S hrt hlk hK hP ls hl
  obtain ⟨hx, hb, hml, hown, hts⟩ := id S
  have hn := hI.n
  have hl : lv_has ls 4 [(0, .ref (a 0)), (1, .int (nI p0))] := hl
  have hP : gP Γ (wMd Γ a v hs g) s.heap := hP
  have L_4 : ∀ (fuel : Nat), ∀ (k : Nat) (x2 : Int32) (hk : k ≤ σ 0) (hfk : σ 0 - k < fuel) (e_x2 : x2 = nI (bset (fun r => decide (vmk σ p0 r = 0)) k)), ∀ ls : Array Slot, lv_has ls 4 [(0, .ref (a 0)), (1, .int (nI p0)), (3, .int (nI k)), (2, .int x2)] → W p l e rm_X9_seenBy s m args below meth c s.heap [] 0 0 (MQ below (vp_Si (fun r => r = nI (sAll σ p0))) args s 0 0 (fun _ => False)) (F0 m 4 ls []) := by
    intro fuel
    induction fuel with
    | zero => intro k x2 hk hfk e_x2; exact absurd hfk (by omega)
    | succ fuel ih_4 =>
      intro k x2 hk hfk e_x2 ls hl
      subst e_x2
      refine lv_iload_n hx hb dX9_seenBy_4 rfl (lv_at hl 2 rfl) ?_
      refine lv_aload_n hx hb dX9_seenBy_5 rfl (lv_at hl 0 rfl) ?_
      refine va_get (D := Γ.1) (ci := 9) (v := .ref (a 1)) (C := RX9) (T := TX9) (N := 11) hx hb hts (by decide +kernel) hown hK hP 0 rfl rfl 1 (by decide) (hts (.fieldLink RX9 7 "RowVeilsModel" "s" "[I") (by decide +kernel)) (fun _ h9 => h9) rfl dX9_seenBy_6 ?_
      refine lv_iconst (v := nI 0) hx hb dX9_seenBy_9 (by decide) ?_
      refine va_iald hx hb hK hP 1 0 rfl rfl (vp_in_nI (by omega) (by omega)) dX9_seenBy_10 ?_
      refine asi (z := nI (σ 0)) ((congrArg _ (nI_clamp (by omega))).trans (hM _ (by omega))) ?_
      refine lv_icmp_ge (tgt := 39) hx hb dX9_seenBy_11 (by decide) (fun c_11 => ?_) (fun c_11 => ?_)
      · have n_11 := (nI_leI (a := (σ 0)) (b := k) (by omega) (by omega)).mp c_11
        refine lv_iload_n hx hb dX9_seenBy_39 rfl (lv_at hl 3 rfl) ?_
        exact W.iret (v := nI (bset (fun r => decide (vmk σ p0 r = 0)) k)) hx hb hrt (fun t9 ht9 hW9 => ⟨_, rfl, by rw [sAll_b hI, show σ 0 = k from by omega], ht9⟩) (fun _ h9 => nomatch h9) dX9_seenBy_40 hlk
      · have n_11 := (not_congr (nI_leI (a := (σ 0)) (b := k) (by omega) (by omega))).mp c_11
        refine lv_iload_n hx hb dX9_seenBy_14 rfl (lv_at hl 3 rfl) ?_
        refine lv_aload_n hx hb dX9_seenBy_15 rfl (lv_at hl 0 rfl) ?_
        refine lv_iload_n hx hb dX9_seenBy_16 rfl (lv_at hl 1 rfl) ?_
        refine lv_iload_n hx hb dX9_seenBy_17 rfl (lv_at hl 2 rfl) ?_
        refine cRi (As := [.int (nI p0), .int (nI k)]) (rest := [.int (nI (bset (fun r => decide (vmk σ p0 r = 0)) k))]) (m_X9_veilsOf l Γ a v hs g σ hM hI p0 k hp (by omega)) S k_X9_veilsOf gX9_seenBy_X9_veilsOf rfl ⟨Nat.le_of_ble_eq_true rfl, Nat.le_of_ble_eq_true rfl⟩ hK hP [0, 1, 2, 3, 4] rfl 0 (ci := 9) rfl rfl rfl rfl hl.1 (Nat.le_of_ble_eq_true rfl) rfl dX9_seenBy_18 ⟨Nat.le_of_ble_eq_true rfl, Nat.le_of_ble_eq_true rfl⟩ (fun r hr => ?_)
        subst hr
        have hv := vmk_lt σ p0 k
        refine lv_if_ne (tgt := 30) hx hb dX9_seenBy_21 (by decide) (fun c_21 => ?_) (fun c_21 => ?_)
        · have n_21 := (not_congr (nI_eq (a := (vmk σ p0 k)) (b := 0) (by omega) (by omega))).mp c_21
          refine lv_iconst (v := nI 0) hx hb dX9_seenBy_30 (by decide) ?_
          refine lv_ior hx hb dX9_seenBy_31 ?_
          refine asi (z := nI (bset (fun r => decide (vmk σ p0 r = 0)) (k + 1))) (by first | exact bo_s (p := (fun r => decide (vmk σ p0 r = 0))) (by omega) (decide_eq_true n_21) | exact bo_z (p := (fun r => decide (vmk σ p0 r = 0))) (decide_eq_false n_21)) ?_
          refine lv_istore_n (lv' := [(2, .int (nI (bset (fun r => decide (vmk σ p0 r = 0)) (k + 1)))), (0, .ref (a 0)), (1, .int (nI p0)), (3, .int (nI k))]) hx hb dX9_seenBy_32 rfl hl (by decide) rfl (fun ls hl => ?_)
          refine lv_iinc (v := nI (k + 1)) (lv' := [(3, .int (nI (k + 1))), (2, .int (nI (bset (fun r => decide (vmk σ p0 r = 0)) (k + 1)))), (0, .ref (a 0)), (1, .int (nI p0))]) hx hb dX9_seenBy_33 hl (k := 3) rfl (nI_add _ _) (by decide) rfl (fun ls hl => ?_)
          refine lv_goto (tgt := 4) hx hb dX9_seenBy_36 (by decide) ?_
          exact ih_4 (k + 1) (nI (bset (fun r => decide (vmk σ p0 r = 0)) (k + 1))) (by omega) (by omega) rfl ls (lv_sub hl [2, 3, 0, 1] rfl)
        · have n_21 := (nI_eq (a := (vmk σ p0 k)) (b := 0) (by omega) (by omega)).mp c_21
          refine lv_iconst (v := nI 1) hx hb dX9_seenBy_24 (by decide) ?_
          refine lv_iload_n hx hb dX9_seenBy_25 rfl (lv_at hl 2 rfl) ?_
          refine lv_ishl hx hb dX9_seenBy_26 ?_
          refine lv_goto (tgt := 31) hx hb dX9_seenBy_27 (by decide) ?_
          refine lv_ior hx hb dX9_seenBy_31 ?_
          refine asi (z := nI (bset (fun r => decide (vmk σ p0 r = 0)) (k + 1))) (by first | exact bo_s (p := (fun r => decide (vmk σ p0 r = 0))) (by omega) (decide_eq_true n_21) | exact bo_z (p := (fun r => decide (vmk σ p0 r = 0))) (decide_eq_false n_21)) ?_
          refine lv_istore_n (lv' := [(2, .int (nI (bset (fun r => decide (vmk σ p0 r = 0)) (k + 1)))), (0, .ref (a 0)), (1, .int (nI p0)), (3, .int (nI k))]) hx hb dX9_seenBy_32 rfl hl (by decide) rfl (fun ls hl => ?_)
          refine lv_iinc (v := nI (k + 1)) (lv' := [(3, .int (nI (k + 1))), (2, .int (nI (bset (fun r => decide (vmk σ p0 r = 0)) (k + 1)))), (0, .ref (a 0)), (1, .int (nI p0))]) hx hb dX9_seenBy_33 hl (k := 3) rfl (nI_add _ _) (by decide) rfl (fun ls hl => ?_)
          refine lv_goto (tgt := 4) hx hb dX9_seenBy_36 (by decide) ?_
          exact ih_4 (k + 1) (nI (bset (fun r => decide (vmk σ p0 r = 0)) (k + 1))) (by omega) (by omega) rfl ls (lv_sub hl [2, 3, 0, 1] rfl)
  refine lv_iconst (v := nI 0) hx hb dX9_seenBy_0 (by decide) ?_
  refine lv_istore_n (lv' := [(2, .int (nI 0)), (0, .ref (a 0)), (1, .int (nI p0))]) hx hb dX9_seenBy_1 rfl hl (by decide) rfl (fun ls hl => ?_)
  refine lv_iconst (v := nI 0) hx hb dX9_seenBy_2 (by decide) ?_
  refine lv_istore_n (lv' := [(3, .int (nI 0)), (2, .int (nI 0)), (0, .ref (a 0)), (1, .int (nI p0))]) hx hb dX9_seenBy_3 rfl hl (by decide) rfl (fun ls hl => ?_)
  exact L_4 ((σ 0) + 1) 0 (nI 0) (by omega) (by omega) rfl ls (lv_sub hl [2, 3, 0, 1] rfl)

abbrev rm_X9_rowsOf : Room := { frames := 1, cells := 0, slots := 0, locals := 22 }
theorem k_X9_rowsOf : Cal yX9_rowsOf wsX9_rowsOf rm_X9_rowsOf cX9_rowsOf 7 (some .int) 3 0 0 := ⟨⟨_, rfl⟩, rfl, rfl, by decide +kernel⟩
set_option maxHeartbeats 4000000 in
set_option maxRecDepth 100000 in
theorem m_X9_rowsOf (l : Launch) (Γ : Gm) (a : Nat → Nat) (v : Nat → Int32) (hs : Int64) (g : Nat → Nat → Int32) (σ : Nat → Nat) (hM : RepM σ (g 0)) (hI : Inv σ) (pl : Int32) (lo hi2 : Nat) (hlo : lo < 2 ^ 31) (hhi : hi2 < 2 ^ 31)  : MRi l yX9_rowsOf wsX9_rowsOf rm_X9_rowsOf Γ (wMd Γ a v hs g) [.ref (a 0), .int pl, .int (nI lo), .int (nI hi2)] (fun r => r = nI (bset (rowQ σ pl lo hi2) (σ 0))) := by
  refine mR (cc := cX9_rowsOf) (maxL := 7) (ret := (some .int)) (own := RX9) (by decide) rfl rfl (Nat.le_of_ble_eq_true rfl) ?_
  intro p e s m args below meth c S hrt hlk hK hP ls hl
  obtain ⟨hx, hb, hml, hown, hts⟩ := id S
  have hn := hI.n
  have hl : lv_has ls 7 [(0, .ref (a 0)), (1, .int pl), (2, .int (nI lo)), (3, .int (nI hi2))] := hl
  have hP : gP Γ (wMd Γ a v hs g) s.heap := hP
  have L_6 : ∀ (fuel : Nat), ∀ (k : Nat) (x4 : Int32) (hk : k ≤ σ 0) (hfk : σ 0 - k < fuel) (e_x4 : x4 = nI (bset (rowQ σ pl lo hi2) k)), ∀ ls : Array Slot, lv_has ls 7 [(0, .ref (a 0)), (1, .int pl), (2, .int (nI lo)), (3, .int (nI hi2)), (5, .int (nI k)), (4, .int x4)] → W p l e rm_X9_rowsOf s m args below meth c s.heap [] 0 0 (MQ below (vp_Si (fun r => r = nI (bset (rowQ σ pl lo hi2) (σ 0)))) args s 0 0 (fun _ => False)) (F0 m 6 ls []) := by
    intro fuel
    induction fuel with
    | zero => intro k x4 hk hfk e_x4; exact absurd hfk (by omega)
    | succ fuel ih_6 =>
      intro k x4 hk hfk e_x4 ls hl
      subst e_x4
      have L_53 : ∀ (y : Int32) (e_y : y = bI ((rowQ σ pl lo hi2) k)) (n_14 : ¬ σ 0 ≤ k), ∀ ls : Array Slot, lv_has ls 7 [(0, .ref (a 0)), (1, .int pl), (2, .int (nI lo)), (3, .int (nI hi2)), (4, .int (nI (bset (rowQ σ pl lo hi2) k))), (5, .int (nI k))] → W p l e rm_X9_rowsOf s m args below meth c s.heap [] 0 0 (MQ below (vp_Si (fun r => r = nI (bset (rowQ σ pl lo hi2) (σ 0)))) args s 0 0 (fun _ => False)) (F0 m 53 ls [.int y]) := by
        intro y e_y n_14 ls hl
        subst e_y
        refine lv_istore (lv' := [(6, .int (bI ((rowQ σ pl lo hi2) k))), (0, .ref (a 0)), (1, .int pl), (2, .int (nI lo)), (3, .int (nI hi2)), (4, .int (nI (bset (rowQ σ pl lo hi2) k))), (5, .int (nI k))]) hx hb dX9_rowsOf_53 hl (by decide) rfl (fun ls hl => ?_)
        refine lv_iload hx hb dX9_rowsOf_55 (lv_at hl 5 rfl) ?_
        refine lv_iload hx hb dX9_rowsOf_57 (lv_at hl 0 rfl) ?_
        refine lv_if_eq (tgt := 69) hx hb dX9_rowsOf_59 (by decide) (fun c_59 => ?_) (fun c_59 => ?_)
        · have n_59 := bI_z.mp c_59
          refine lv_iconst (v := nI 0) hx hb dX9_rowsOf_69 (by decide) ?_
          refine lv_ior hx hb dX9_rowsOf_70 ?_
          refine asi (z := nI (bset (rowQ σ pl lo hi2) (k + 1))) (by first | exact bo_s (p := (rowQ σ pl lo hi2)) (by omega) n_59 | exact bo_z (p := (rowQ σ pl lo hi2)) n_59) ?_
          refine lv_istore (lv' := [(4, .int (nI (bset (rowQ σ pl lo hi2) (k + 1)))), (6, .int (bI ((rowQ σ pl lo hi2) k))), (0, .ref (a 0)), (1, .int pl), (2, .int (nI lo)), (3, .int (nI hi2)), (5, .int (nI k))]) hx hb dX9_rowsOf_71 hl (by decide) rfl (fun ls hl => ?_)
          refine lv_iinc (v := nI (k + 1)) (lv' := [(5, .int (nI (k + 1))), (4, .int (nI (bset (rowQ σ pl lo hi2) (k + 1)))), (6, .int (bI ((rowQ σ pl lo hi2) k))), (0, .ref (a 0)), (1, .int pl), (2, .int (nI lo)), (3, .int (nI hi2))]) hx hb dX9_rowsOf_73 hl (k := 6) rfl (nI_add _ _) (by decide) rfl (fun ls hl => ?_)
          refine lv_goto (tgt := 6) hx hb dX9_rowsOf_76 (by decide) ?_
          exact ih_6 (k + 1) (nI (bset (rowQ σ pl lo hi2) (k + 1))) (by omega) (by omega) rfl ls (lv_sub hl [3, 4, 5, 6, 0, 1] rfl)
        · have n_59 := bI_nz.mp c_59
          refine lv_iconst (v := nI 1) hx hb dX9_rowsOf_62 (by decide) ?_
          refine lv_iload hx hb dX9_rowsOf_63 (lv_at hl 6 rfl) ?_
          refine lv_ishl hx hb dX9_rowsOf_65 ?_
          refine lv_goto (tgt := 70) hx hb dX9_rowsOf_66 (by decide) ?_
          refine lv_ior hx hb dX9_rowsOf_70 ?_
          refine asi (z := nI (bset (rowQ σ pl lo hi2) (k + 1))) (by first | exact bo_s (p := (rowQ σ pl lo hi2)) (by omega) n_59 | exact bo_z (p := (rowQ σ pl lo hi2)) n_59) ?_
          refine lv_istore (lv' := [(4, .int (nI (bset (rowQ σ pl lo hi2) (k + 1)))), (6, .int (bI ((rowQ σ pl lo hi2) k))), (0, .ref (a 0)), (1, .int pl), (2, .int (nI lo)), (3, .int (nI hi2)), (5, .int (nI k))]) hx hb dX9_rowsOf_71 hl (by decide) rfl (fun ls hl => ?_)
          refine lv_iinc (v := nI (k + 1)) (lv' := [(5, .int (nI (k + 1))), (4, .int (nI (bset (rowQ σ pl lo hi2) (k + 1)))), (6, .int (bI ((rowQ σ pl lo hi2) k))), (0, .ref (a 0)), (1, .int pl), (2, .int (nI lo)), (3, .int (nI hi2))]) hx hb dX9_rowsOf_73 hl (k := 6) rfl (nI_add _ _) (by decide) rfl (fun ls hl => ?_)
          refine lv_goto (tgt := 6) hx hb dX9_rowsOf_76 (by decide) ?_
          exact ih_6 (k + 1) (nI (bset (rowQ σ pl lo hi2) (k + 1))) (by omega) (by omega) rfl ls (lv_sub hl [3, 4, 5, 6, 0, 1] rfl)
      refine lv_iload hx hb dX9_rowsOf_6 (lv_at hl 4 rfl) ?_
      refine lv_aload_n hx hb dX9_rowsOf_8 rfl (lv_at hl 0 rfl) ?_
      refine va_get (D := Γ.1) (ci := 9) (v := .ref (a 1)) (C := RX9) (T := TX9) (N := 11) hx hb hts (by decide +kernel) hown hK hP 0 rfl rfl 1 (by decide) (hts (.fieldLink RX9 7 "RowVeilsModel" "s" "[I") (by decide +kernel)) (fun _ h9 => h9) rfl dX9_rowsOf_9 ?_
      refine lv_iconst (v := nI 0) hx hb dX9_rowsOf_12 (by decide) ?_
      refine va_iald hx hb hK hP 1 0 rfl rfl (vp_in_nI (by omega) (by omega)) dX9_rowsOf_13 ?_
      refine asi (z := nI (σ 0)) ((congrArg _ (nI_clamp (by omega))).trans (hM _ (by omega))) ?_
      refine lv_icmp_ge (tgt := 79) hx hb dX9_rowsOf_14 (by decide) (fun c_14 => ?_) (fun c_14 => ?_)
      · have n_14 := (nI_leI (a := (σ 0)) (b := k) (by omega) (by omega)).mp c_14
        refine lv_iload hx hb dX9_rowsOf_79 (lv_at hl 5 rfl) ?_
        exact W.iret (v := nI (bset (rowQ σ pl lo hi2) k)) hx hb hrt (fun t9 ht9 hW9 => ⟨_, rfl, by rw [show σ 0 = k from by omega], ht9⟩) (fun _ h9 => nomatch h9) dX9_rowsOf_81 hlk
      · have n_14 := (not_congr (nI_leI (a := (σ 0)) (b := k) (by omega) (by omega))).mp c_14
        have hrk := hI.row (r := k) (by omega)
        refine lv_iload_n hx hb dX9_rowsOf_17 rfl (lv_at hl 1 rfl) ?_
        refine lv_iconst (v := (-1)) hx hb dX9_rowsOf_18 (by decide) ?_
        refine lv_icmp_eq (tgt := 33) hx hb dX9_rowsOf_19 (by decide) (fun c_19 => ?_) (fun c_19 => ?_)
        · refine lv_aload_n hx hb dX9_rowsOf_33 rfl (lv_at hl 0 rfl) ?_
          refine lv_iload hx hb dX9_rowsOf_34 (lv_at hl 4 rfl) ?_
          refine lv_iconst (v := nI 2) hx hb dX9_rowsOf_36 (by decide) ?_
          refine cRi (As := [.int (nI k), .int (nI 2)]) (rest := []) (m_X9_of l Γ a v hs g σ hM hI k 2 (by omega)) S k_X9_of gX9_rowsOf_X9_of rfl ⟨Nat.le_of_ble_eq_true rfl, Nat.le_of_ble_eq_true rfl⟩ hK hP [0, 1, 2, 3, 4] rfl 0 (ci := 9) rfl rfl rfl rfl hl.1 (Nat.le_of_ble_eq_true rfl) rfl dX9_rowsOf_37 ⟨Nat.le_of_ble_eq_true rfl, Nat.le_of_ble_eq_true rfl⟩ (fun r hr => ?_)
          subst hr
          refine lv_iload_n hx hb dX9_rowsOf_40 rfl (lv_at hl 2 rfl) ?_
          refine lv_iload_n hx hb dX9_rowsOf_41 rfl (lv_at hl 3 rfl) ?_
          refine cSi (As := [.int (nI (oR σ k 2)), .int (nI lo), .int (nI hi2)]) (rest := []) (m_X9_in l (nI (oR σ k 2)) (nI lo) (nI hi2)) S k_X9_in gX9_rowsOf_X9_in ⟨Nat.le_of_ble_eq_true rfl, Nat.le_of_ble_eq_true rfl⟩ rfl hl.1 (Nat.le_of_ble_eq_true rfl) rfl dX9_rowsOf_42 ⟨Nat.le_of_ble_eq_true rfl, Nat.le_of_ble_eq_true rfl⟩ (fun r hr => ?_)
          subst hr
          refine lv_if_eq (tgt := 52) hx hb dX9_rowsOf_45 (by decide) (fun c_45 => ?_) (fun c_45 => ?_)
          · have n_45 := bI_z.mp c_45
            rw [inI_n (by omega) hlo hhi] at n_45
            refine lv_iconst (v := nI 0) hx hb dX9_rowsOf_52 (by decide) ?_
            exact L_53 (nI 0) (by first | exact bt (by unfold rowQ mtch; rw [n_45, decide_eq_true c_19]; rfl) | exact bt (by unfold rowQ mtch; rw [n_45, decide_eq_true c_30, Bool.or_true]; rfl) | exact bf (by unfold rowQ mtch; rw [n_45, Bool.and_false]) | exact bf (by unfold rowQ mtch; rw [decide_eq_false c_19, decide_eq_false c_30]; rfl)) n_14 ls (lv_sub hl [0, 1, 2, 3, 5, 4] rfl)
          · have n_45 := bI_nz.mp c_45
            rw [inI_n (by omega) hlo hhi] at n_45
            refine lv_iconst (v := nI 1) hx hb dX9_rowsOf_48 (by decide) ?_
            refine lv_goto (tgt := 53) hx hb dX9_rowsOf_49 (by decide) ?_
            exact L_53 (nI 1) (by first | exact bt (by unfold rowQ mtch; rw [n_45, decide_eq_true c_19]; rfl) | exact bt (by unfold rowQ mtch; rw [n_45, decide_eq_true c_30, Bool.or_true]; rfl) | exact bf (by unfold rowQ mtch; rw [n_45, Bool.and_false]) | exact bf (by unfold rowQ mtch; rw [decide_eq_false c_19, decide_eq_false c_30]; rfl)) n_14 ls (lv_sub hl [0, 1, 2, 3, 5, 4] rfl)
        · refine lv_aload_n hx hb dX9_rowsOf_22 rfl (lv_at hl 0 rfl) ?_
          refine lv_iload hx hb dX9_rowsOf_23 (lv_at hl 4 rfl) ?_
          refine lv_iconst (v := nI 1) hx hb dX9_rowsOf_25 (by decide) ?_
          refine cRi (As := [.int (nI k), .int (nI 1)]) (rest := []) (m_X9_of l Γ a v hs g σ hM hI k 1 (by omega)) S k_X9_of gX9_rowsOf_X9_of rfl ⟨Nat.le_of_ble_eq_true rfl, Nat.le_of_ble_eq_true rfl⟩ hK hP [0, 1, 2, 3, 4] rfl 0 (ci := 9) rfl rfl rfl rfl hl.1 (Nat.le_of_ble_eq_true rfl) rfl dX9_rowsOf_26 ⟨Nat.le_of_ble_eq_true rfl, Nat.le_of_ble_eq_true rfl⟩ (fun r hr => ?_)
          subst hr
          refine lv_iload_n hx hb dX9_rowsOf_29 rfl (lv_at hl 1 rfl) ?_
          refine lv_icmp_ne (tgt := 52) hx hb dX9_rowsOf_30 (by decide) (fun c_30 => ?_) (fun c_30 => ?_)
          · refine lv_iconst (v := nI 0) hx hb dX9_rowsOf_52 (by decide) ?_
            exact L_53 (nI 0) (by first | exact bt (by unfold rowQ mtch; rw [n_45, decide_eq_true c_19]; rfl) | exact bt (by unfold rowQ mtch; rw [n_45, decide_eq_true c_30, Bool.or_true]; rfl) | exact bf (by unfold rowQ mtch; rw [n_45, Bool.and_false]) | exact bf (by unfold rowQ mtch; rw [decide_eq_false c_19, decide_eq_false c_30]; rfl)) n_14 ls (lv_sub hl [0, 1, 2, 3, 5, 4] rfl)
          · refine lv_aload_n hx hb dX9_rowsOf_33 rfl (lv_at hl 0 rfl) ?_
            refine lv_iload hx hb dX9_rowsOf_34 (lv_at hl 4 rfl) ?_
            refine lv_iconst (v := nI 2) hx hb dX9_rowsOf_36 (by decide) ?_
            refine cRi (As := [.int (nI k), .int (nI 2)]) (rest := []) (m_X9_of l Γ a v hs g σ hM hI k 2 (by omega)) S k_X9_of gX9_rowsOf_X9_of rfl ⟨Nat.le_of_ble_eq_true rfl, Nat.le_of_ble_eq_true rfl⟩ hK hP [0, 1, 2, 3, 4] rfl 0 (ci := 9) rfl rfl rfl rfl hl.1 (Nat.le_of_ble_eq_true rfl) rfl dX9_rowsOf_37 ⟨Nat.le_of_ble_eq_true rfl, Nat.le_of_ble_eq_true rfl⟩ (fun r hr => ?_)
            subst hr
            refine lv_iload_n hx hb dX9_rowsOf_40 rfl (lv_at hl 2 rfl) ?_
            refine lv_iload_n hx hb dX9_rowsOf_41 rfl (lv_at hl 3 rfl) ?_
            refine cSi (As := [.int (nI (oR σ k 2)), .int (nI lo), .int (nI hi2)]) (rest := []) (m_X9_in l (nI (oR σ k 2)) (nI lo) (nI hi2)) S k_X9_in gX9_rowsOf_X9_in ⟨Nat.le_of_ble_eq_true rfl, Nat.le_of_ble_eq_true rfl⟩ rfl hl.1 (Nat.le_of_ble_eq_true rfl) rfl dX9_rowsOf_42 ⟨Nat.le_of_ble_eq_true rfl, Nat.le_of_ble_eq_true rfl⟩ (fun r hr => ?_)
            subst hr
            refine lv_if_eq (tgt := 52) hx hb dX9_rowsOf_45 (by decide) (fun c_45 => ?_) (fun c_45 => ?_)
            · have n_45 := bI_z.mp c_45
              rw [inI_n (by omega) hlo hhi] at n_45
              refine lv_iconst (v := nI 0) hx hb dX9_rowsOf_52 (by decide) ?_
              exact L_53 (nI 0) (by first | exact bt (by unfold rowQ mtch; rw [n_45, decide_eq_true c_19]; rfl) | exact bt (by unfold rowQ mtch; rw [n_45, decide_eq_true c_30, Bool.or_true]; rfl) | exact bf (by unfold rowQ mtch; rw [n_45, Bool.and_false]) | exact bf (by unfold rowQ mtch; rw [decide_eq_false c_19, decide_eq_false c_30]; rfl)) n_14 ls (lv_sub hl [0, 1, 2, 3, 5, 4] rfl)
            · have n_45 := bI_nz.mp c_45
              rw [inI_n (by omega) hlo hhi] at n_45
              refine lv_iconst (v := nI 1) hx hb dX9_rowsOf_48 (by decide) ?_
              refine lv_goto (tgt := 53) hx hb dX9_rowsOf_49 (by decide) ?_
              exact L_53 (nI 1) (by first | exact bt (by unfold rowQ mtch; rw [n_45, decide_eq_true c_19]; rfl) | exact bt (by unfold rowQ mtch; rw [n_45, decide_eq_true c_30, Bool.or_true]; rfl) | exact bf (by unfold rowQ mtch; rw [n_45, Bool.and_false]) | exact bf (by unfold rowQ mtch; rw [decide_eq_false c_19, decide_eq_false c_30]; rfl)) n_14 ls (lv_sub hl [0, 1, 2, 3, 5, 4] rfl)
  refine lv_iconst (v := nI 0) hx hb dX9_rowsOf_0 (by decide) ?_
  refine lv_istore (lv' := [(4, .int (nI 0)), (0, .ref (a 0)), (1, .int pl), (2, .int (nI lo)), (3, .int (nI hi2))]) hx hb dX9_rowsOf_1 hl (by decide) rfl (fun ls hl => ?_)
  refine lv_iconst (v := nI 0) hx hb dX9_rowsOf_3 (by decide) ?_
  refine lv_istore (lv' := [(5, .int (nI 0)), (4, .int (nI 0)), (0, .ref (a 0)), (1, .int pl), (2, .int (nI lo)), (3, .int (nI hi2))]) hx hb dX9_rowsOf_4 hl (by decide) rfl (fun ls hl => ?_)
  exact L_6 ((σ 0) + 1) 0 (nI 0) (by omega) (by omega) rfl ls (lv_sub hl [2, 3, 4, 5, 0, 1] rfl)

abbrev rm_X9_asked : Room := { frames := 6, cells := 0, slots := 0, locals := 138 }
theorem k_X9_asked : Cal yX9_asked wsX9_asked rm_X9_asked cX9_asked 5 (some .int) 4 0 0 := ⟨⟨_, rfl⟩, rfl, rfl, by decide +kernel⟩
set_option maxHeartbeats 4000000 in
set_option maxRecDepth 100000 in
theorem m_X9_asked (l : Launch) (Γ : Gm) (a : Nat → Nat) (v : Nat → Int32) (hs : Int64) (g : Nat → Nat → Int32) (σ : Nat → Nat) (hM : RepM σ (g 0)) (hI : Inv σ) (p0 : Nat) (hp : p0 < 5) (pl : Int32) (lo hi2 : Nat) (hlo : lo < 2 ^ 31) (hhi : hi2 < 2 ^ 31)  : MRi l yX9_asked wsX9_asked rm_X9_asked Γ (wMd Γ a v hs g) [.ref (a 0), .int (nI p0), .int pl, .int (nI lo), .int (nI hi2)] (fun r => r = nI (seenQ σ p0 pl lo hi2)) := by
  refine mR (cc := cX9_asked) (maxL := 5) (ret := (some .int)) (own := RX9) (by decide) rfl rfl (Nat.le_of_ble_eq_true rfl) ?_
  intro p e s m args below meth c S hrt hlk hK hP ls hl
  obtain ⟨hx, hb, hml, hown, hts⟩ := id S
  have hl : lv_has ls 5 [(0, .ref (a 0)), (1, .int (nI p0)), (2, .int pl), (3, .int (nI lo)), (4, .int (nI hi2))] := hl
  have hP : gP Γ (wMd Γ a v hs g) s.heap := hP
  refine lv_aload_n hx hb dX9_asked_0 rfl (lv_at hl 0 rfl) ?_
  refine lv_iload_n hx hb dX9_asked_1 rfl (lv_at hl 2 rfl) ?_
  refine lv_iload_n hx hb dX9_asked_2 rfl (lv_at hl 3 rfl) ?_
  refine lv_iload hx hb dX9_asked_3 (lv_at hl 4 rfl) ?_
  refine cRi (As := [.int pl, .int (nI lo), .int (nI hi2)]) (rest := []) (m_X9_rowsOf l Γ a v hs g σ hM hI pl lo hi2 hlo hhi) S k_X9_rowsOf gX9_asked_X9_rowsOf rfl ⟨Nat.le_of_ble_eq_true rfl, Nat.le_of_ble_eq_true rfl⟩ hK hP [0, 1, 2, 3, 4] rfl 0 (ci := 9) rfl rfl rfl rfl hl.1 (Nat.le_of_ble_eq_true rfl) rfl dX9_asked_5 ⟨Nat.le_of_ble_eq_true rfl, Nat.le_of_ble_eq_true rfl⟩ (fun r hr => ?_)
  subst hr
  refine lv_aload_n hx hb dX9_asked_8 rfl (lv_at hl 0 rfl) ?_
  refine lv_iload_n hx hb dX9_asked_9 rfl (lv_at hl 1 rfl) ?_
  refine cRi (As := [.int (nI p0)]) (rest := [.int (nI (bset (rowQ σ pl lo hi2) (σ 0)))]) (m_X9_seenBy l Γ a v hs g σ hM hI p0 hp) S k_X9_seenBy gX9_asked_X9_seenBy rfl ⟨Nat.le_of_ble_eq_true rfl, Nat.le_of_ble_eq_true rfl⟩ hK hP [0, 1, 2, 3, 4] rfl 0 (ci := 9) rfl rfl rfl rfl hl.1 (Nat.le_of_ble_eq_true rfl) rfl dX9_asked_10 ⟨Nat.le_of_ble_eq_true rfl, Nat.le_of_ble_eq_true rfl⟩ (fun r hr => ?_)
  subst hr
  refine lv_iand hx hb dX9_asked_13 ?_
  refine asi (z := nI (seenQ σ p0 pl lo hi2)) (by rw [nI_and, sAll_b hI, bset_and]; rfl) ?_
  exact W.iret (v := nI (seenQ σ p0 pl lo hi2)) hx hb hrt (fun t9 ht9 hW9 => ⟨_, rfl, rfl, ht9⟩) (fun _ h9 => nomatch h9) dX9_asked_14 hlk

abbrev rm_X9_kept : Room := { frames := 0, cells := 0, slots := 0, locals := 0 }
theorem k_X9_kept : Cal yX9_kept wsX9_kept rm_X9_kept cX9_kept 2 (some .int) 1 0 0 := ⟨⟨_, rfl⟩, rfl, rfl, by decide +kernel⟩
set_option maxHeartbeats 4000000 in
set_option maxRecDepth 100000 in
theorem m_X9_kept (l : Launch) (Γ : Gm) (a : Nat → Nat) (v : Nat → Int32) (hs : Int64) (g : Nat → Nat → Int32) (σ : Nat → Nat) (hM : RepM σ (g 0)) (hI : Inv σ) (p0 : Nat) (hp : p0 < 5) : MRi l yX9_kept wsX9_kept rm_X9_kept Γ (wMd Γ a v hs g) [.ref (a 0), .int (nI p0)] (fun r => r = nI (oK σ p0)) := by
  refine mR (cc := cX9_kept) (maxL := 2) (ret := (some .int)) (own := RX9) (by decide) rfl rfl (Nat.le_of_ble_eq_true rfl) ?_
  intro p e s m args below meth c S hrt hlk hK hP ls hl
  obtain ⟨hx, hb, hml, hown, hts⟩ := id S
  have hl : lv_has ls 2 [(0, .ref (a 0)), (1, .int (nI p0))] := hl
  have hP : gP Γ (wMd Γ a v hs g) s.heap := hP
  refine lv_aload_n hx hb dX9_kept_0 rfl (lv_at hl 0 rfl) ?_
  refine va_get (D := Γ.1) (ci := 9) (v := .ref (a 1)) (C := RX9) (T := TX9) (N := 11) hx hb hts (by decide +kernel) hown hK hP 0 rfl rfl 1 (by decide) (hts (.fieldLink RX9 7 "RowVeilsModel" "s" "[I") (by decide +kernel)) (fun _ h9 => h9) rfl dX9_kept_1 ?_
  refine lv_bipush (v := nI 95) hx hb dX9_kept_4 (by decide) ?_
  refine lv_bipush (v := nI 7) hx hb dX9_kept_6 (by decide) ?_
  refine lv_iload_n hx hb dX9_kept_8 rfl (lv_at hl 1 rfl) ?_
  refine lv_imul hx hb dX9_kept_9 ?_
  refine asi (z := nI (7 * p0)) (pk_mul _ _) ?_
  refine lv_iadd hx hb dX9_kept_10 ?_
  refine asi (z := nI (95 + (7 * p0))) (nI_add _ _) ?_
  refine va_iald hx hb hK hP 1 0 rfl rfl (vp_in_nI (by omega) (by omega)) dX9_kept_11 ?_
  refine asi (z := nI (σ (95 + (7 * p0)))) ((congrArg _ (nI_clamp (by omega))).trans (hM _ (by omega))) ?_
  exact W.iret (v := nI (σ (95 + (7 * p0)))) hx hb hrt (fun t9 ht9 hW9 => ⟨_, rfl, rfl, ht9⟩) (fun _ h9 => nomatch h9) dX9_kept_12 hlk

abbrev rm_X9_keptAt : Room := { frames := 0, cells := 0, slots := 0, locals := 0 }
theorem k_X9_keptAt : Cal yX9_keptAt wsX9_keptAt rm_X9_keptAt cX9_keptAt 3 (some .int) 2 0 0 := ⟨⟨_, rfl⟩, rfl, rfl, by decide +kernel⟩
set_option maxHeartbeats 4000000 in
set_option maxRecDepth 100000 in
theorem m_X9_keptAt (l : Launch) (Γ : Gm) (a : Nat → Nat) (v : Nat → Int32) (hs : Int64) (g : Nat → Nat → Int32) (σ : Nat → Nat) (hM : RepM σ (g 0)) (hI : Inv σ) (p0 j : Nat) (h : 95 + 7 * p0 + 1 + j < 130) : MRi l yX9_keptAt wsX9_keptAt rm_X9_keptAt Γ (wMd Γ a v hs g) [.ref (a 0), .int (nI p0), .int (nI j)] (fun r => r = nI (oM σ p0 j)) := by
  refine mR (cc := cX9_keptAt) (maxL := 3) (ret := (some .int)) (own := RX9) (by decide) rfl rfl (Nat.le_of_ble_eq_true rfl) ?_
  intro p e s m args below meth c S hrt hlk hK hP ls hl
  obtain ⟨hx, hb, hml, hown, hts⟩ := id S
  have hl : lv_has ls 3 [(0, .ref (a 0)), (1, .int (nI p0)), (2, .int (nI j))] := hl
  have hP : gP Γ (wMd Γ a v hs g) s.heap := hP
  refine lv_aload_n hx hb dX9_keptAt_0 rfl (lv_at hl 0 rfl) ?_
  refine va_get (D := Γ.1) (ci := 9) (v := .ref (a 1)) (C := RX9) (T := TX9) (N := 11) hx hb hts (by decide +kernel) hown hK hP 0 rfl rfl 1 (by decide) (hts (.fieldLink RX9 7 "RowVeilsModel" "s" "[I") (by decide +kernel)) (fun _ h9 => h9) rfl dX9_keptAt_1 ?_
  refine lv_bipush (v := nI 95) hx hb dX9_keptAt_4 (by decide) ?_
  refine lv_bipush (v := nI 7) hx hb dX9_keptAt_6 (by decide) ?_
  refine lv_iload_n hx hb dX9_keptAt_8 rfl (lv_at hl 1 rfl) ?_
  refine lv_imul hx hb dX9_keptAt_9 ?_
  refine asi (z := nI (7 * p0)) (pk_mul _ _) ?_
  refine lv_iadd hx hb dX9_keptAt_10 ?_
  refine asi (z := nI (95 + (7 * p0))) (nI_add _ _) ?_
  refine lv_iconst (v := nI 1) hx hb dX9_keptAt_11 (by decide) ?_
  refine lv_iadd hx hb dX9_keptAt_12 ?_
  refine asi (z := nI ((95 + (7 * p0)) + 1)) (nI_add _ _) ?_
  refine lv_iload_n hx hb dX9_keptAt_13 rfl (lv_at hl 2 rfl) ?_
  refine lv_iadd hx hb dX9_keptAt_14 ?_
  refine asi (z := nI (((95 + (7 * p0)) + 1) + j)) (nI_add _ _) ?_
  refine va_iald hx hb hK hP 1 0 rfl rfl (vp_in_nI (by omega) (by omega)) dX9_keptAt_15 ?_
  refine asi (z := nI (σ (((95 + (7 * p0)) + 1) + j))) ((congrArg _ (nI_clamp (by omega))).trans (hM _ (by omega))) ?_
  exact W.iret (v := nI (σ (((95 + (7 * p0)) + 1) + j))) hx hb hrt (fun t9 ht9 hW9 => ⟨_, rfl, by unfold oM; rw [show 96 + 7 * p0 + j = 95 + 7 * p0 + 1 + j from by omega], ht9⟩) (fun _ h9 => nomatch h9) dX9_keptAt_16 hlk

abbrev rm_X9_givesAway : Room := { frames := 1, cells := 0, slots := 0, locals := 22 }
theorem k_X9_givesAway : Cal yX9_givesAway wsX9_givesAway rm_X9_givesAway cX9_givesAway 5 (some .boolean) 2 0 0 := ⟨⟨_, rfl⟩, rfl, rfl, by decide +kernel⟩
set_option maxHeartbeats 4000000 in
set_option maxRecDepth 100000 in
theorem m_X9_givesAway (l : Launch) (Γ : Gm) (a : Nat → Nat) (v : Nat → Int32) (hs : Int64) (g : Nat → Nat → Int32) (σ : Nat → Nat) (hM : RepM σ (g 0)) (hI : Inv σ) (p0 x : Nat) (hp : p0 < 5) (hx0 : x < 65536) : MRi l yX9_givesAway wsX9_givesAway rm_X9_givesAway Γ (wMd Γ a v hs g) [.ref (a 0), .int (nI p0), .int (nI x)] (fun r => r = bI (givesQ σ p0 x)) := by
  refine mR (cc := cX9_givesAway) (maxL := 5) (ret := (some .boolean)) (own := RX9) (by decide) rfl rfl (Nat.le_of_ble_eq_true rfl) ?_
  intro p e s m args below meth c S hrt hlk hK hP ls hl
  obtain ⟨hx, hb, hml, hown, hts⟩ := id S
  have hk6 := hI.kept hp
  have hl : lv_has ls 5 [(0, .ref (a 0)), (1, .int (nI p0)), (2, .int (nI x))] := hl
  have hP : gP Γ (wMd Γ a v hs g) s.heap := hP
  have L_5 : ∀ (fuel : Nat), ∀ (k : Nat) (x3 : Int32) (hk : k ≤ oK σ p0) (hfk : oK σ p0 - k < fuel) (e_x3 : x3 = bI (gvS σ p0 x k)), ∀ ls : Array Slot, lv_has ls 5 [(0, .ref (a 0)), (1, .int (nI p0)), (2, .int (nI x)), (4, .int (nI k)), (3, .int x3)] → W p l e rm_X9_givesAway s m args below meth c s.heap [] 0 0 (MQ below (vp_Si (fun r => r = bI (givesQ σ p0 x))) args s 0 0 (fun _ => False)) (F0 m 5 ls []) := by
    intro fuel
    induction fuel with
    | zero => intro k x3 hk hfk e_x3; exact absurd hfk (by omega)
    | succ fuel ih_5 =>
      intro k x3 hk hfk e_x3 ls hl
      subst e_x3
      have L_40 : ∀ (y : Int32) (e_y : y = bI (gvS σ p0 x (k + 1))) (n_12 : ¬ oK σ p0 ≤ k), ∀ ls : Array Slot, lv_has ls 5 [(0, .ref (a 0)), (1, .int (nI p0)), (2, .int (nI x)), (4, .int (nI k))] → W p l e rm_X9_givesAway s m args below meth c s.heap [] 0 0 (MQ below (vp_Si (fun r => r = bI (givesQ σ p0 x))) args s 0 0 (fun _ => False)) (F0 m 40 ls [.int y]) := by
        intro y e_y n_12 ls hl
        subst e_y
        refine lv_istore_n (lv' := [(3, .int (bI (gvS σ p0 x (k + 1)))), (0, .ref (a 0)), (1, .int (nI p0)), (2, .int (nI x)), (4, .int (nI k))]) hx hb dX9_givesAway_40 rfl hl (by decide) rfl (fun ls hl => ?_)
        refine lv_iinc (v := nI (k + 1)) (lv' := [(4, .int (nI (k + 1))), (3, .int (bI (gvS σ p0 x (k + 1)))), (0, .ref (a 0)), (1, .int (nI p0)), (2, .int (nI x))]) hx hb dX9_givesAway_41 hl (k := 4) rfl (nI_add _ _) (by decide) rfl (fun ls hl => ?_)
        refine lv_goto (tgt := 5) hx hb dX9_givesAway_44 (by decide) ?_
        exact ih_5 (k + 1) (bI (gvS σ p0 x (k + 1))) (by omega) (by omega) rfl ls (lv_sub hl [2, 3, 4, 0, 1] rfl)
      refine lv_iload hx hb dX9_givesAway_5 (lv_at hl 3 rfl) ?_
      refine lv_aload_n hx hb dX9_givesAway_7 rfl (lv_at hl 0 rfl) ?_
      refine lv_iload_n hx hb dX9_givesAway_8 rfl (lv_at hl 1 rfl) ?_
      refine cRi (As := [.int (nI p0)]) (rest := [.int (nI k)]) (m_X9_kept l Γ a v hs g σ hM hI p0 hp) S k_X9_kept gX9_givesAway_X9_kept rfl ⟨Nat.le_of_ble_eq_true rfl, Nat.le_of_ble_eq_true rfl⟩ hK hP [0, 1, 2, 3, 4] rfl 0 (ci := 9) rfl rfl rfl rfl hl.1 (Nat.le_of_ble_eq_true rfl) rfl dX9_givesAway_9 ⟨Nat.le_of_ble_eq_true rfl, Nat.le_of_ble_eq_true rfl⟩ (fun r hr => ?_)
      subst hr
      refine lv_icmp_ge (tgt := 47) hx hb dX9_givesAway_12 (by decide) (fun c_12 => ?_) (fun c_12 => ?_)
      · have n_12 := (nI_leI (a := (oK σ p0)) (b := k) (by omega) (by omega)).mp c_12
        refine lv_iload_n hx hb dX9_givesAway_47 rfl (lv_at hl 4 rfl) ?_
        exact W.zret (v := bI (gvS σ p0 x k)) hx hb hrt (zb _) (fun t9 ht9 hW9 => ⟨_, rfl, by unfold givesQ; rw [show oK σ p0 = k from by omega], ht9⟩) (fun _ h9 => nomatch h9) dX9_givesAway_48 hlk
      · have n_12 := (not_congr (nI_leI (a := (oK σ p0)) (b := k) (by omega) (by omega))).mp c_12
        refine lv_iload_n hx hb dX9_givesAway_15 rfl (lv_at hl 4 rfl) ?_
        refine lv_if_ne (tgt := 35) hx hb dX9_givesAway_16 (by decide) (fun c_16 => ?_) (fun c_16 => ?_)
        · have n_16 := bI_nz.mp c_16
          refine lv_iconst (v := nI 1) hx hb dX9_givesAway_35 (by decide) ?_
          refine lv_goto (tgt := 40) hx hb dX9_givesAway_36 (by decide) ?_
          exact L_40 (nI 1) (by first | exact bt (by show (gvS σ p0 x k || _) = true; rw [n_16]; rfl) | exact bt (by show (gvS σ p0 x k || _) = true; rw [decide_eq_true n_32, Bool.or_true]) | exact bf (by show (gvS σ p0 x k || _) = false; rw [n_16, decide_eq_false n_32]; rfl)) n_12 ls (lv_sub hl [0, 1, 2, 3] rfl)
        · have n_16 := bI_z.mp c_16
          refine lv_aload_n hx hb dX9_givesAway_19 rfl (lv_at hl 0 rfl) ?_
          refine lv_iload_n hx hb dX9_givesAway_20 rfl (lv_at hl 1 rfl) ?_
          refine lv_iload hx hb dX9_givesAway_21 (lv_at hl 3 rfl) ?_
          refine cRi (As := [.int (nI p0), .int (nI k)]) (rest := []) (m_X9_keptAt l Γ a v hs g σ hM hI p0 k (by omega)) S k_X9_keptAt gX9_givesAway_X9_keptAt rfl ⟨Nat.le_of_ble_eq_true rfl, Nat.le_of_ble_eq_true rfl⟩ hK hP [0, 1, 2, 3, 4] rfl 0 (ci := 9) rfl rfl rfl rfl hl.1 (Nat.le_of_ble_eq_true rfl) rfl dX9_givesAway_23 ⟨Nat.le_of_ble_eq_true rfl, Nat.le_of_ble_eq_true rfl⟩ (fun r hr => ?_)
          subst hr
          refine lv_iload_n hx hb dX9_givesAway_26 rfl (lv_at hl 2 rfl) ?_
          refine lv_ixor hx hb dX9_givesAway_27 ?_
          refine asi (z := nI (oM σ p0 k ^^^ x)) (nI_xor _ _) ?_
          have hok := ones_le (oM σ p0 k ^^^ x)
          refine cSi (As := [.int (nI (oM σ p0 k ^^^ x))]) (rest := []) (m_X9_ones l (oM σ p0 k ^^^ x) (Nat.lt_trans (xor_lt (hI.mask hp (by omega)) hx0) (by decide))) S k_X9_ones gX9_givesAway_X9_ones ⟨Nat.le_of_ble_eq_true rfl, Nat.le_of_ble_eq_true rfl⟩ rfl hl.1 (Nat.le_of_ble_eq_true rfl) rfl dX9_givesAway_28 ⟨Nat.le_of_ble_eq_true rfl, Nat.le_of_ble_eq_true rfl⟩ (fun r hr => ?_)
          subst hr
          refine lv_iconst (v := nI 1) hx hb dX9_givesAway_31 (by decide) ?_
          refine lv_icmp_ne (tgt := 39) hx hb dX9_givesAway_32 (by decide) (fun c_32 => ?_) (fun c_32 => ?_)
          · have n_32 := (not_congr (nI_eq (a := (ones (oM σ p0 k ^^^ x))) (b := 1) (by omega) (by omega))).mp c_32
            refine lv_iconst (v := nI 0) hx hb dX9_givesAway_39 (by decide) ?_
            exact L_40 (nI 0) (by first | exact bt (by show (gvS σ p0 x k || _) = true; rw [n_16]; rfl) | exact bt (by show (gvS σ p0 x k || _) = true; rw [decide_eq_true n_32, Bool.or_true]) | exact bf (by show (gvS σ p0 x k || _) = false; rw [n_16, decide_eq_false n_32]; rfl)) n_12 ls (lv_sub hl [0, 1, 2, 3] rfl)
          · have n_32 := (nI_eq (a := (ones (oM σ p0 k ^^^ x))) (b := 1) (by omega) (by omega)).mp c_32
            refine lv_iconst (v := nI 1) hx hb dX9_givesAway_35 (by decide) ?_
            refine lv_goto (tgt := 40) hx hb dX9_givesAway_36 (by decide) ?_
            exact L_40 (nI 1) (by first | exact bt (by show (gvS σ p0 x k || _) = true; rw [n_16]; rfl) | exact bt (by show (gvS σ p0 x k || _) = true; rw [decide_eq_true n_32, Bool.or_true]) | exact bf (by show (gvS σ p0 x k || _) = false; rw [n_16, decide_eq_false n_32]; rfl)) n_12 ls (lv_sub hl [0, 1, 2, 3] rfl)
  refine lv_iconst (v := nI 0) hx hb dX9_givesAway_0 (by decide) ?_
  refine lv_istore_n (lv' := [(3, .int (nI 0)), (0, .ref (a 0)), (1, .int (nI p0)), (2, .int (nI x))]) hx hb dX9_givesAway_1 rfl hl (by decide) rfl (fun ls hl => ?_)
  refine lv_iconst (v := nI 0) hx hb dX9_givesAway_2 (by decide) ?_
  refine lv_istore (lv' := [(4, .int (nI 0)), (3, .int (nI 0)), (0, .ref (a 0)), (1, .int (nI p0)), (2, .int (nI x))]) hx hb dX9_givesAway_3 hl (by decide) rfl (fun ls hl => ?_)
  exact L_5 ((oK σ p0) + 1) 0 (nI 0) (by omega) (by omega) rfl ls (lv_sub hl [2, 3, 4, 0, 1] rfl)

abbrev rm_X9_isTooSmall : Room := { frames := 1, cells := 0, slots := 0, locals := 22 }
theorem k_X9_isTooSmall : Cal yX9_isTooSmall wsX9_isTooSmall rm_X9_isTooSmall cX9_isTooSmall 3 (some .boolean) 1 0 0 := ⟨⟨_, rfl⟩, rfl, rfl, by decide +kernel⟩
set_option maxHeartbeats 4000000 in
set_option maxRecDepth 100000 in
theorem m_X9_isTooSmall (l : Launch) (Γ : Gm) (a : Nat → Nat) (v : Nat → Int32) (hs : Int64) (g : Nat → Nat → Int32) (σ : Nat → Nat) (hM : RepM σ (g 0)) (hI : Inv σ) (x : Nat) (hx0 : x < 65536) : MRi l yX9_isTooSmall wsX9_isTooSmall rm_X9_isTooSmall Γ (wMd Γ a v hs g) [.ref (a 0), .int (nI x)] (fun r => r = bI (small σ x)) := by
  refine mR (cc := cX9_isTooSmall) (maxL := 3) (ret := (some .boolean)) (own := RX9) (by decide) rfl rfl (Nat.le_of_ble_eq_true rfl) ?_
  intro p e s m args below meth c S hrt hlk hK hP ls hl
  obtain ⟨hx, hb, hml, hown, hts⟩ := id S
  have ho := ones_le x
  have hl0 := hI.least
  have hop := ones_pos hx0
  have hl : lv_has ls 3 [(0, .ref (a 0)), (1, .int (nI x))] := hl
  have hP : gP Γ (wMd Γ a v hs g) s.heap := hP
  refine lv_iload_n hx hb dX9_isTooSmall_0 rfl (lv_at hl 1 rfl) ?_
  refine cSi (As := [.int (nI x)]) (rest := []) (m_X9_ones l x (by omega)) S k_X9_ones gX9_isTooSmall_X9_ones ⟨Nat.le_of_ble_eq_true rfl, Nat.le_of_ble_eq_true rfl⟩ rfl hl.1 (Nat.le_of_ble_eq_true rfl) rfl dX9_isTooSmall_1 ⟨Nat.le_of_ble_eq_true rfl, Nat.le_of_ble_eq_true rfl⟩ (fun r hr => ?_)
  subst hr
  refine lv_istore_n (lv' := [(2, .int (nI (ones x))), (0, .ref (a 0)), (1, .int (nI x))]) hx hb dX9_isTooSmall_4 rfl hl (by decide) rfl (fun ls hl => ?_)
  refine lv_iload_n hx hb dX9_isTooSmall_5 rfl (lv_at hl 0 rfl) ?_
  refine lv_if_le (tgt := 23) hx hb dX9_isTooSmall_6 (by decide) (fun c_6 => ?_) (fun c_6 => ?_)
  · have n_6 := (nI_leI (a := (ones x)) (b := 0) (by omega) (by omega)).mp c_6
    refine lv_iconst (v := nI 0) hx hb dX9_isTooSmall_23 (by decide) ?_
    exact W.zret (v := nI 0) hx hb hrt (z0) (fun t9 ht9 hW9 => ⟨_, rfl, bf (by unfold small; first | (rw [decide_eq_false (p := ¬ x = 0) (by omega)]; rfl) | (rw [decide_eq_false (p := ones x < σ 2) (by omega), Bool.and_false])), ht9⟩) (fun _ h9 => nomatch h9) dX9_isTooSmall_24 hlk
  · have n_6 := (not_congr (nI_leI (a := (ones x)) (b := 0) (by omega) (by omega))).mp c_6
    refine lv_iload_n hx hb dX9_isTooSmall_9 rfl (lv_at hl 0 rfl) ?_
    refine lv_aload_n hx hb dX9_isTooSmall_10 rfl (lv_at hl 1 rfl) ?_
    refine va_get (D := Γ.1) (ci := 9) (v := .ref (a 1)) (C := RX9) (T := TX9) (N := 11) hx hb hts (by decide +kernel) hown hK hP 0 rfl rfl 1 (by decide) (hts (.fieldLink RX9 7 "RowVeilsModel" "s" "[I") (by decide +kernel)) (fun _ h9 => h9) rfl dX9_isTooSmall_11 ?_
    refine lv_iconst (v := nI 2) hx hb dX9_isTooSmall_14 (by decide) ?_
    refine va_iald hx hb hK hP 1 0 rfl rfl (vp_in_nI (by omega) (by omega)) dX9_isTooSmall_15 ?_
    refine asi (z := nI (σ 2)) ((congrArg _ (nI_clamp (by omega))).trans (hM _ (by omega))) ?_
    refine lv_icmp_ge (tgt := 23) hx hb dX9_isTooSmall_16 (by decide) (fun c_16 => ?_) (fun c_16 => ?_)
    · have n_16 := (nI_leI (a := (σ 2)) (b := (ones x)) (by omega) (by omega)).mp c_16
      refine lv_iconst (v := nI 0) hx hb dX9_isTooSmall_23 (by decide) ?_
      exact W.zret (v := nI 0) hx hb hrt (z0) (fun t9 ht9 hW9 => ⟨_, rfl, bf (by unfold small; first | (rw [decide_eq_false (p := ¬ x = 0) (by omega)]; rfl) | (rw [decide_eq_false (p := ones x < σ 2) (by omega), Bool.and_false])), ht9⟩) (fun _ h9 => nomatch h9) dX9_isTooSmall_24 hlk
    · have n_16 := (not_congr (nI_leI (a := (σ 2)) (b := (ones x)) (by omega) (by omega))).mp c_16
      refine lv_iconst (v := nI 1) hx hb dX9_isTooSmall_19 (by decide) ?_
      refine lv_goto (tgt := 24) hx hb dX9_isTooSmall_20 (by decide) ?_
      exact W.zret (v := nI 1) hx hb hrt (z1) (fun t9 ht9 hW9 => ⟨_, rfl, bt (by unfold small; rw [decide_eq_true (by omega), decide_eq_true (by omega)]; rfl), ht9⟩) (fun _ h9 => nomatch h9) dX9_isTooSmall_24 hlk

abbrev rm_X9_countTold : Room := { frames := 2, cells := 0, slots := 0, locals := 46 }
theorem k_X9_countTold : Cal yX9_countTold wsX9_countTold rm_X9_countTold cX9_countTold 4 (some .int) 2 0 0 := ⟨⟨_, rfl⟩, rfl, rfl, by decide +kernel⟩
set_option maxHeartbeats 4000000 in
set_option maxRecDepth 100000 in
theorem m_X9_countTold (l : Launch) (Γ : Gm) (a : Nat → Nat) (v : Nat → Int32) (hs : Int64) (g : Nat → Nat → Int32) (σ : Nat → Nat) (hM : RepM σ (g 0)) (hI : Inv σ) (p0 x : Nat) (hp : p0 < 5) (hx0 : x < 65536) : MRi l yX9_countTold wsX9_countTold rm_X9_countTold Γ (wMd Γ a v hs g) [.ref (a 0), .int (nI p0), .int (nI x)] (fun r => r = cAns σ p0 x) := by
  refine mR (cc := cX9_countTold) (maxL := 4) (ret := (some .int)) (own := RX9) (by decide) rfl rfl (Nat.le_of_ble_eq_true rfl) ?_
  intro p e s m args below meth c S hrt hlk hK hP ls hl
  obtain ⟨hx, hb, hml, hown, hts⟩ := id S
  have ho := ones_le x
  have hl0 := hI.coarse
  have hd0 := hI.diff
  have hl : lv_has ls 4 [(0, .ref (a 0)), (1, .int (nI p0)), (2, .int (nI x))] := hl
  have hP : gP Γ (wMd Γ a v hs g) s.heap := hP
  have L_32 : ∀ (y : Int32) (e_y : y = bI (cRef σ p0 x)), ∀ ls : Array Slot, lv_has ls 4 [(0, .ref (a 0)), (1, .int (nI p0)), (2, .int (nI x))] → W p l e rm_X9_countTold s m args below meth c s.heap [] 0 0 (MQ below (vp_Si (fun r => r = cAns σ p0 x)) args s 0 0 (fun _ => False)) (F0 m 32 ls [.int y]) := by
    intro y e_y ls hl
    subst e_y
    refine lv_istore_n (lv' := [(3, .int (bI (cRef σ p0 x))), (0, .ref (a 0)), (1, .int (nI p0)), (2, .int (nI x))]) hx hb dX9_countTold_32 rfl hl (by decide) rfl (fun ls hl => ?_)
    refine lv_iload_n hx hb dX9_countTold_33 rfl (lv_at hl 0 rfl) ?_
    refine lv_if_eq (tgt := 41) hx hb dX9_countTold_34 (by decide) (fun c_34 => ?_) (fun c_34 => ?_)
    · have n_34 := bI_z.mp c_34
      refine lv_iload_n hx hb dX9_countTold_41 rfl (lv_at hl 3 rfl) ?_
      refine cSi (As := [.int (nI x)]) (rest := []) (m_X9_ones l x (by omega)) S k_X9_ones gX9_countTold_X9_ones ⟨Nat.le_of_ble_eq_true rfl, Nat.le_of_ble_eq_true rfl⟩ rfl hl.1 (Nat.le_of_ble_eq_true rfl) rfl dX9_countTold_42 ⟨Nat.le_of_ble_eq_true rfl, Nat.le_of_ble_eq_true rfl⟩ (fun r hr => ?_)
      subst hr
      refine lv_iload_n hx hb dX9_countTold_45 rfl (lv_at hl 3 rfl) ?_
      refine cSi (As := [.int (nI x)]) (rest := [.int (nI (ones x))]) (m_X9_ones l x (by omega)) S k_X9_ones gX9_countTold_X9_ones ⟨Nat.le_of_ble_eq_true rfl, Nat.le_of_ble_eq_true rfl⟩ rfl hl.1 (Nat.le_of_ble_eq_true rfl) rfl dX9_countTold_46 ⟨Nat.le_of_ble_eq_true rfl, Nat.le_of_ble_eq_true rfl⟩ (fun r hr => ?_)
      subst hr
      refine lv_aload_n hx hb dX9_countTold_49 rfl (lv_at hl 1 rfl) ?_
      refine va_get (D := Γ.1) (ci := 9) (v := .ref (a 1)) (C := RX9) (T := TX9) (N := 11) hx hb hts (by decide +kernel) hown hK hP 0 rfl rfl 1 (by decide) (hts (.fieldLink RX9 7 "RowVeilsModel" "s" "[I") (by decide +kernel)) (fun _ h9 => h9) rfl dX9_countTold_50 ?_
      refine lv_iconst (v := nI 3) hx hb dX9_countTold_53 (by decide) ?_
      refine va_iald hx hb hK hP 1 0 rfl rfl (vp_in_nI (by omega) (by omega)) dX9_countTold_54 ?_
      refine asi (z := nI (σ 3)) ((congrArg _ (nI_clamp (by omega))).trans (hM _ (by omega))) ?_
      refine lv_irem hx hb dX9_countTold_55 (nI_ne0 (by omega) (by omega)) ?_
      refine asi (z := nI (ones x % σ 3)) (pk_rem (by omega) (by omega) (by omega)) ?_
      refine lv_isub hx hb dX9_countTold_56 ?_
      refine asi (z := nI (ones x - ones x % σ 3)) (pk_sub (Nat.mod_le _ _)) ?_
      exact W.iret (v := nI (ones x - ones x % σ 3)) hx hb hrt (fun t9 ht9 hW9 => ⟨_, rfl, by unfold cAns; rw [if_neg (by rw [n_34]; decide)], ht9⟩) (fun _ h9 => nomatch h9) dX9_countTold_57 hlk
    · have n_34 := bI_nz.mp c_34
      refine lv_iconst (v := (-1)) hx hb dX9_countTold_37 (by decide) ?_
      refine lv_goto (tgt := 57) hx hb dX9_countTold_38 (by decide) ?_
      exact W.iret (v := (-1)) hx hb hrt (fun t9 ht9 hW9 => ⟨_, rfl, by unfold cAns; rw [if_pos n_34], ht9⟩) (fun _ h9 => nomatch h9) dX9_countTold_57 hlk
  refine lv_aload_n hx hb dX9_countTold_0 rfl (lv_at hl 0 rfl) ?_
  refine lv_iload_n hx hb dX9_countTold_1 rfl (lv_at hl 2 rfl) ?_
  refine cRi (As := [.int (nI x)]) (rest := []) (m_X9_isTooSmall l Γ a v hs g σ hM hI x hx0) S k_X9_isTooSmall gX9_countTold_X9_isTooSmall rfl ⟨Nat.le_of_ble_eq_true rfl, Nat.le_of_ble_eq_true rfl⟩ hK hP [0, 1, 2, 3, 4] rfl 0 (ci := 9) rfl rfl rfl rfl hl.1 (Nat.le_of_ble_eq_true rfl) rfl dX9_countTold_2 ⟨Nat.le_of_ble_eq_true rfl, Nat.le_of_ble_eq_true rfl⟩ (fun r hr => ?_)
  subst hr
  refine lv_if_ne (tgt := 27) hx hb dX9_countTold_5 (by decide) (fun c_5 => ?_) (fun c_5 => ?_)
  · have n_5 := bI_nz.mp c_5
    refine lv_iconst (v := nI 1) hx hb dX9_countTold_27 (by decide) ?_
    refine lv_goto (tgt := 32) hx hb dX9_countTold_28 (by decide) ?_
    exact L_32 (nI 1) (by unfold cRef; first | exact bt (by rw [n_5]; rfl) | exact bt (by rw [n_24, decide_eq_true (by omega), Bool.and_true, Bool.or_true]) | exact bf (by rw [n_5, decide_eq_false (by omega)]; rfl) | exact bf (by rw [n_5, n_24, Bool.and_false]; rfl)) ls (lv_sub hl [0, 1, 2] rfl)
  · have n_5 := bI_z.mp c_5
    refine lv_aload_n hx hb dX9_countTold_8 rfl (lv_at hl 0 rfl) ?_
    refine va_get (D := Γ.1) (ci := 9) (v := .ref (a 1)) (C := RX9) (T := TX9) (N := 11) hx hb hts (by decide +kernel) hown hK hP 0 rfl rfl 1 (by decide) (hts (.fieldLink RX9 7 "RowVeilsModel" "s" "[I") (by decide +kernel)) (fun _ h9 => h9) rfl dX9_countTold_9 ?_
    refine lv_iconst (v := nI 4) hx hb dX9_countTold_12 (by decide) ?_
    refine va_iald hx hb hK hP 1 0 rfl rfl (vp_in_nI (by omega) (by omega)) dX9_countTold_13 ?_
    refine asi (z := nI (σ 4)) ((congrArg _ (nI_clamp (by omega))).trans (hM _ (by omega))) ?_
    refine lv_iconst (v := nI 1) hx hb dX9_countTold_14 (by decide) ?_
    refine lv_icmp_ne (tgt := 31) hx hb dX9_countTold_15 (by decide) (fun c_15 => ?_) (fun c_15 => ?_)
    · have n_15 := (not_congr (nI_eq (a := (σ 4)) (b := 1) (by omega) (by omega))).mp c_15
      refine lv_iconst (v := nI 0) hx hb dX9_countTold_31 (by decide) ?_
      exact L_32 (nI 0) (by unfold cRef; first | exact bt (by rw [n_5]; rfl) | exact bt (by rw [n_24, decide_eq_true (by omega), Bool.and_true, Bool.or_true]) | exact bf (by rw [n_5, decide_eq_false (by omega)]; rfl) | exact bf (by rw [n_5, n_24, Bool.and_false]; rfl)) ls (lv_sub hl [0, 1, 2] rfl)
    · have n_15 := (nI_eq (a := (σ 4)) (b := 1) (by omega) (by omega)).mp c_15
      refine lv_aload_n hx hb dX9_countTold_18 rfl (lv_at hl 0 rfl) ?_
      refine lv_iload_n hx hb dX9_countTold_19 rfl (lv_at hl 1 rfl) ?_
      refine lv_iload_n hx hb dX9_countTold_20 rfl (lv_at hl 2 rfl) ?_
      refine cRi (As := [.int (nI p0), .int (nI x)]) (rest := []) (m_X9_givesAway l Γ a v hs g σ hM hI p0 x hp hx0) S k_X9_givesAway gX9_countTold_X9_givesAway rfl ⟨Nat.le_of_ble_eq_true rfl, Nat.le_of_ble_eq_true rfl⟩ hK hP [0, 1, 2, 3, 4] rfl 0 (ci := 9) rfl rfl rfl rfl hl.1 (Nat.le_of_ble_eq_true rfl) rfl dX9_countTold_21 ⟨Nat.le_of_ble_eq_true rfl, Nat.le_of_ble_eq_true rfl⟩ (fun r hr => ?_)
      subst hr
      refine lv_if_eq (tgt := 31) hx hb dX9_countTold_24 (by decide) (fun c_24 => ?_) (fun c_24 => ?_)
      · have n_24 := bI_z.mp c_24
        refine lv_iconst (v := nI 0) hx hb dX9_countTold_31 (by decide) ?_
        exact L_32 (nI 0) (by unfold cRef; first | exact bt (by rw [n_5]; rfl) | exact bt (by rw [n_24, decide_eq_true (by omega), Bool.and_true, Bool.or_true]) | exact bf (by rw [n_5, decide_eq_false (by omega)]; rfl) | exact bf (by rw [n_5, n_24, Bool.and_false]; rfl)) ls (lv_sub hl [0, 1, 2] rfl)
      · have n_24 := bI_nz.mp c_24
        refine lv_iconst (v := nI 1) hx hb dX9_countTold_27 (by decide) ?_
        refine lv_goto (tgt := 32) hx hb dX9_countTold_28 (by decide) ?_
        exact L_32 (nI 1) (by unfold cRef; first | exact bt (by rw [n_5]; rfl) | exact bt (by rw [n_24, decide_eq_true (by omega), Bool.and_true, Bool.or_true]) | exact bf (by rw [n_5, decide_eq_false (by omega)]; rfl) | exact bf (by rw [n_5, n_24, Bool.and_false]; rfl)) ls (lv_sub hl [0, 1, 2] rfl)

abbrev rm_X9_sumTold : Room := { frames := 2, cells := 0, slots := 0, locals := 44 }
theorem k_X9_sumTold : Cal yX9_sumTold wsX9_sumTold rm_X9_sumTold cX9_sumTold 6 (some .int) 1 0 0 := ⟨⟨_, rfl⟩, rfl, rfl, by decide +kernel⟩
set_option maxHeartbeats 4000000 in
set_option maxRecDepth 100000 in
theorem m_X9_sumTold (l : Launch) (Γ : Gm) (a : Nat → Nat) (v : Nat → Int32) (hs : Int64) (g : Nat → Nat → Int32) (σ : Nat → Nat) (hM : RepM σ (g 0)) (hI : Inv σ) (x : Nat) (hx0 : x < 65536) : MRi l yX9_sumTold wsX9_sumTold rm_X9_sumTold Γ (wMd Γ a v hs g) [.ref (a 0), .int (nI x)] (fun r => r = sAns σ x) := by
  refine mR (cc := cX9_sumTold) (maxL := 6) (ret := (some .int)) (own := RX9) (by decide) rfl rfl (Nat.le_of_ble_eq_true rfl) ?_
  intro p e s m args below meth c S hrt hlk hK hP ls hl
  obtain ⟨hx, hb, hml, hown, hts⟩ := id S
  have hn := hI.n
  have hl : lv_has ls 6 [(0, .ref (a 0)), (1, .int (nI x))] := hl
  have hP : gP Γ (wMd Γ a v hs g) s.heap := hP
  have L_7 : ∀ (fuel : Nat), ∀ (k : Nat) (x2 : Int32) (x3 : Int32) (hk : k ≤ σ 0) (hfk : σ 0 - k < fuel) (e_x2 : x2 = nI (sumS σ x k)) (e_x3 : x3 = nI (topS σ x k)), ∀ ls : Array Slot, lv_has ls 6 [(0, .ref (a 0)), (1, .int (nI x)), (4, .int (nI k)), (2, .int x2), (3, .int x3)] → W p l e rm_X9_sumTold s m args below meth c s.heap [] 0 0 (MQ below (vp_Si (fun r => r = sAns σ x)) args s 0 0 (fun _ => False)) (F0 m 7 ls []) := by
    intro fuel
    induction fuel with
    | zero => intro k x2 x3 hk hfk e_x2 e_x3; exact absurd hfk (by omega)
    | succ fuel ih_7 =>
      intro k x2 x3 hk hfk e_x2 e_x3 ls hl
      subst e_x2 e_x3
      have L_39 : ∀ (y : Int32) (e_y : y = nI (if x.testBit k then oR σ k 2 else 0)) (n_15 : ¬ σ 0 ≤ k), ∀ ls : Array Slot, lv_has ls 6 [(0, .ref (a 0)), (1, .int (nI x)), (2, .int (nI (sumS σ x k))), (3, .int (nI (topS σ x k))), (4, .int (nI k))] → W p l e rm_X9_sumTold s m args below meth c s.heap [] 0 0 (MQ below (vp_Si (fun r => r = sAns σ x)) args s 0 0 (fun _ => False)) (F0 m 39 ls [.int y]) := by
        intro y e_y n_15 ls hl
        have htk := topS_le hI x (n := k) (by omega)
        have hrk := hI.row (r := k) (by omega)
        have hiv : (if x.testBit k then oR σ k 2 else 0) < 100 := by split <;> omega
        subst e_y
        refine lv_istore (lv' := [(5, .int (nI (if x.testBit k then oR σ k 2 else 0))), (0, .ref (a 0)), (1, .int (nI x)), (2, .int (nI (sumS σ x k))), (3, .int (nI (topS σ x k))), (4, .int (nI k))]) hx hb dX9_sumTold_39 hl (by decide) rfl (fun ls hl => ?_)
        refine lv_iload_n hx hb dX9_sumTold_41 rfl (lv_at hl 3 rfl) ?_
        refine lv_iload hx hb dX9_sumTold_42 (lv_at hl 0 rfl) ?_
        refine lv_iadd hx hb dX9_sumTold_44 ?_
        refine asi (z := nI (sumS σ x (k + 1))) (nI_add _ _) ?_
        refine lv_istore_n (lv' := [(2, .int (nI (sumS σ x (k + 1)))), (5, .int (nI (if x.testBit k then oR σ k 2 else 0))), (0, .ref (a 0)), (1, .int (nI x)), (3, .int (nI (topS σ x k))), (4, .int (nI k))]) hx hb dX9_sumTold_45 rfl hl (by decide) rfl (fun ls hl => ?_)
        refine lv_iload hx hb dX9_sumTold_46 (lv_at hl 1 rfl) ?_
        refine lv_iload_n hx hb dX9_sumTold_48 rfl (lv_at hl 4 rfl) ?_
        refine lv_icmp_le (tgt := 57) hx hb dX9_sumTold_49 (by decide) (fun c_49 => ?_) (fun c_49 => ?_)
        · have n_49 := (nI_leI (a := (if x.testBit k then oR σ k 2 else 0)) (b := (topS σ x k)) (by omega) (by omega)).mp c_49
          refine lv_iload_n hx hb dX9_sumTold_57 rfl (lv_at hl 4 rfl) ?_
          refine lv_istore_n (lv' := [(3, .int (nI (topS σ x k))), (2, .int (nI (sumS σ x (k + 1)))), (5, .int (nI (if x.testBit k then oR σ k 2 else 0))), (0, .ref (a 0)), (1, .int (nI x)), (4, .int (nI k))]) hx hb dX9_sumTold_58 rfl hl (by decide) rfl (fun ls hl => ?_)
          refine lv_iinc (v := nI (k + 1)) (lv' := [(4, .int (nI (k + 1))), (3, .int (nI (topS σ x k))), (2, .int (nI (sumS σ x (k + 1)))), (5, .int (nI (if x.testBit k then oR σ k 2 else 0))), (0, .ref (a 0)), (1, .int (nI x))]) hx hb dX9_sumTold_59 hl (k := 5) rfl (nI_add _ _) (by decide) rfl (fun ls hl => ?_)
          refine lv_goto (tgt := 7) hx hb dX9_sumTold_62 (by decide) ?_
          exact ih_7 (k + 1) (nI (sumS σ x (k + 1))) (nI (topS σ x k)) (by omega) (by omega) rfl (by show _ = nI (max (topS σ x k) (if x.testBit k then oR σ k 2 else 0)); first | rw [Nat.max_eq_right (by omega)] | rw [Nat.max_eq_left (by omega)]) ls (lv_sub hl [4, 5, 0, 2, 1] rfl)
        · have n_49 := (not_congr (nI_leI (a := (if x.testBit k then oR σ k 2 else 0)) (b := (topS σ x k)) (by omega) (by omega))).mp c_49
          refine lv_iload hx hb dX9_sumTold_52 (lv_at hl 1 rfl) ?_
          refine lv_goto (tgt := 58) hx hb dX9_sumTold_54 (by decide) ?_
          refine lv_istore_n (lv' := [(3, .int (nI (if x.testBit k then oR σ k 2 else 0))), (2, .int (nI (sumS σ x (k + 1)))), (5, .int (nI (if x.testBit k then oR σ k 2 else 0))), (0, .ref (a 0)), (1, .int (nI x)), (4, .int (nI k))]) hx hb dX9_sumTold_58 rfl hl (by decide) rfl (fun ls hl => ?_)
          refine lv_iinc (v := nI (k + 1)) (lv' := [(4, .int (nI (k + 1))), (3, .int (nI (if x.testBit k then oR σ k 2 else 0))), (2, .int (nI (sumS σ x (k + 1)))), (5, .int (nI (if x.testBit k then oR σ k 2 else 0))), (0, .ref (a 0)), (1, .int (nI x))]) hx hb dX9_sumTold_59 hl (k := 5) rfl (nI_add _ _) (by decide) rfl (fun ls hl => ?_)
          refine lv_goto (tgt := 7) hx hb dX9_sumTold_62 (by decide) ?_
          exact ih_7 (k + 1) (nI (sumS σ x (k + 1))) (nI (if x.testBit k then oR σ k 2 else 0)) (by omega) (by omega) rfl (by show _ = nI (max (topS σ x k) (if x.testBit k then oR σ k 2 else 0)); first | rw [Nat.max_eq_right (by omega)] | rw [Nat.max_eq_left (by omega)]) ls (lv_sub hl [4, 5, 0, 2, 1] rfl)
      refine lv_iload hx hb dX9_sumTold_7 (lv_at hl 2 rfl) ?_
      refine lv_aload_n hx hb dX9_sumTold_9 rfl (lv_at hl 0 rfl) ?_
      refine va_get (D := Γ.1) (ci := 9) (v := .ref (a 1)) (C := RX9) (T := TX9) (N := 11) hx hb hts (by decide +kernel) hown hK hP 0 rfl rfl 1 (by decide) (hts (.fieldLink RX9 7 "RowVeilsModel" "s" "[I") (by decide +kernel)) (fun _ h9 => h9) rfl dX9_sumTold_10 ?_
      refine lv_iconst (v := nI 0) hx hb dX9_sumTold_13 (by decide) ?_
      refine va_iald hx hb hK hP 1 0 rfl rfl (vp_in_nI (by omega) (by omega)) dX9_sumTold_14 ?_
      refine asi (z := nI (σ 0)) ((congrArg _ (nI_clamp (by omega))).trans (hM _ (by omega))) ?_
      refine lv_icmp_ge (tgt := 65) hx hb dX9_sumTold_15 (by decide) (fun c_15 => ?_) (fun c_15 => ?_)
      · have n_15 := (nI_leI (a := (σ 0)) (b := k) (by omega) (by omega)).mp c_15
        refine lv_aload_n hx hb dX9_sumTold_65 rfl (lv_at hl 0 rfl) ?_
        refine lv_iload_n hx hb dX9_sumTold_66 rfl (lv_at hl 1 rfl) ?_
        have hs0 := sumS_le hI x (n := k) (by omega)
        have ht0 := topS_le hI x (n := k) (by omega)
        refine cRi (As := [.int (nI x)]) (rest := []) (m_X9_isTooSmall l Γ a v hs g σ hM hI x hx0) S k_X9_isTooSmall gX9_sumTold_X9_isTooSmall rfl ⟨Nat.le_of_ble_eq_true rfl, Nat.le_of_ble_eq_true rfl⟩ hK hP [0, 1, 2, 3, 4] rfl 0 (ci := 9) rfl rfl rfl rfl hl.1 (Nat.le_of_ble_eq_true rfl) rfl dX9_sumTold_67 ⟨Nat.le_of_ble_eq_true rfl, Nat.le_of_ble_eq_true rfl⟩ (fun r hr => ?_)
        subst hr
        refine lv_if_ne (tgt := 80) hx hb dX9_sumTold_70 (by decide) (fun c_70 => ?_) (fun c_70 => ?_)
        · have n_70 := bI_nz.mp c_70
          refine lv_iconst (v := (-1)) hx hb dX9_sumTold_80 (by decide) ?_
          refine lv_goto (tgt := 85) hx hb dX9_sumTold_81 (by decide) ?_
          exact W.iret (v := (-1)) hx hb hrt (fun t9 ht9 hW9 => ⟨_, rfl, by unfold sAns; rw [show σ 0 = k from by omega]; first | rw [if_pos (Or.inl n_70)] | rw [if_pos (Or.inr (by omega))], ht9⟩) (fun _ h9 => nomatch h9) dX9_sumTold_85 hlk
        · have n_70 := bI_z.mp c_70
          refine lv_iconst (v := nI 2) hx hb dX9_sumTold_73 (by decide) ?_
          refine lv_iload_n hx hb dX9_sumTold_74 rfl (lv_at hl 4 rfl) ?_
          refine lv_imul hx hb dX9_sumTold_75 ?_
          refine asi (z := nI (2 * (topS σ x k))) (pk_mul _ _) ?_
          refine lv_iload_n hx hb dX9_sumTold_76 rfl (lv_at hl 3 rfl) ?_
          refine lv_icmp_le (tgt := 84) hx hb dX9_sumTold_77 (by decide) (fun c_77 => ?_) (fun c_77 => ?_)
          · have n_77 := (nI_leI (a := (2 * (topS σ x k))) (b := (sumS σ x k)) (by omega) (by omega)).mp c_77
            refine lv_iload_n hx hb dX9_sumTold_84 rfl (lv_at hl 3 rfl) ?_
            exact W.iret (v := nI (sumS σ x k)) hx hb hrt (fun t9 ht9 hW9 => ⟨_, rfl, by unfold sAns; rw [show σ 0 = k from by omega, if_neg (fun h => h.elim (fun h => by rw [n_70] at h; cases h) (fun h => by omega))], ht9⟩) (fun _ h9 => nomatch h9) dX9_sumTold_85 hlk
          · have n_77 := (not_congr (nI_leI (a := (2 * (topS σ x k))) (b := (sumS σ x k)) (by omega) (by omega))).mp c_77
            refine lv_iconst (v := (-1)) hx hb dX9_sumTold_80 (by decide) ?_
            refine lv_goto (tgt := 85) hx hb dX9_sumTold_81 (by decide) ?_
            exact W.iret (v := (-1)) hx hb hrt (fun t9 ht9 hW9 => ⟨_, rfl, by unfold sAns; rw [show σ 0 = k from by omega]; first | rw [if_pos (Or.inl n_70)] | rw [if_pos (Or.inr (by omega))], ht9⟩) (fun _ h9 => nomatch h9) dX9_sumTold_85 hlk
      · have n_15 := (not_congr (nI_leI (a := (σ 0)) (b := k) (by omega) (by omega))).mp c_15
        refine lv_iload_n hx hb dX9_sumTold_18 rfl (lv_at hl 1 rfl) ?_
        refine lv_iload hx hb dX9_sumTold_19 (lv_at hl 2 rfl) ?_
        refine lv_ishr hx hb dX9_sumTold_21 ?_
        refine asi (z := nI (x >>> k)) (shr_n (by omega) (by omega)) ?_
        refine lv_iconst (v := nI 1) hx hb dX9_sumTold_22 (by decide) ?_
        refine lv_iand hx hb dX9_sumTold_23 ?_
        refine asi (z := nI ((x >>> k) % 2)) (by rw [nI_and, Nat.and_one_is_mod]) ?_
        refine lv_iconst (v := nI 1) hx hb dX9_sumTold_24 (by decide) ?_
        refine lv_icmp_ne (tgt := 38) hx hb dX9_sumTold_25 (by decide) (fun c_25 => ?_) (fun c_25 => ?_)
        · have n_25 : x.testBit k = false := tb_f (fun h => c_25 (by rw [h]))
          refine lv_iconst (v := nI 0) hx hb dX9_sumTold_38 (by decide) ?_
          exact L_39 (nI 0) (by first | rw [if_pos n_25] | rw [if_neg (by rw [n_25]; decide)]) n_15 ls (lv_sub hl [0, 1, 3, 4, 2] rfl)
        · have n_25 : x.testBit k = true := tb_t ((nI_eq (by omega) (by decide)).mp c_25)
          have hrk := hI.row (r := k) (by omega)
          refine lv_aload_n hx hb dX9_sumTold_28 rfl (lv_at hl 0 rfl) ?_
          refine lv_iload hx hb dX9_sumTold_29 (lv_at hl 2 rfl) ?_
          refine lv_iconst (v := nI 2) hx hb dX9_sumTold_31 (by decide) ?_
          refine cRi (As := [.int (nI k), .int (nI 2)]) (rest := []) (m_X9_of l Γ a v hs g σ hM hI k 2 (by omega)) S k_X9_of gX9_sumTold_X9_of rfl ⟨Nat.le_of_ble_eq_true rfl, Nat.le_of_ble_eq_true rfl⟩ hK hP [0, 1, 2, 3, 4] rfl 0 (ci := 9) rfl rfl rfl rfl hl.1 (Nat.le_of_ble_eq_true rfl) rfl dX9_sumTold_32 ⟨Nat.le_of_ble_eq_true rfl, Nat.le_of_ble_eq_true rfl⟩ (fun r hr => ?_)
          subst hr
          refine lv_goto (tgt := 39) hx hb dX9_sumTold_35 (by decide) ?_
          exact L_39 (nI (oR σ k 2)) (by first | rw [if_pos n_25] | rw [if_neg (by rw [n_25]; decide)]) n_15 ls (lv_sub hl [0, 1, 3, 4, 2] rfl)
  refine lv_iconst (v := nI 0) hx hb dX9_sumTold_0 (by decide) ?_
  refine lv_istore_n (lv' := [(2, .int (nI 0)), (0, .ref (a 0)), (1, .int (nI x))]) hx hb dX9_sumTold_1 rfl hl (by decide) rfl (fun ls hl => ?_)
  refine lv_iconst (v := nI 0) hx hb dX9_sumTold_2 (by decide) ?_
  refine lv_istore_n (lv' := [(3, .int (nI 0)), (2, .int (nI 0)), (0, .ref (a 0)), (1, .int (nI x))]) hx hb dX9_sumTold_3 rfl hl (by decide) rfl (fun ls hl => ?_)
  refine lv_iconst (v := nI 0) hx hb dX9_sumTold_4 (by decide) ?_
  refine lv_istore (lv' := [(4, .int (nI 0)), (3, .int (nI 0)), (2, .int (nI 0)), (0, .ref (a 0)), (1, .int (nI x))]) hx hb dX9_sumTold_5 hl (by decide) rfl (fun ls hl => ?_)
  exact L_7 ((σ 0) + 1) 0 (nI 0) (nI 0) (by omega) (by omega) rfl rfl ls (lv_sub hl [3, 4, 0, 2, 1] rfl)

abbrev rm_X9_seers : Room := { frames := 5, cells := 0, slots := 0, locals := 115 }
theorem k_X9_seers : Cal yX9_seers wsX9_seers rm_X9_seers cX9_seers 4 (some .int) 1 0 0 := ⟨⟨_, rfl⟩, rfl, rfl, by decide +kernel⟩
set_option maxHeartbeats 4000000 in
set_option maxRecDepth 100000 in
theorem m_X9_seers (l : Launch) (Γ : Gm) (a : Nat → Nat) (v : Nat → Int32) (hs : Int64) (g : Nat → Nat → Int32) (σ : Nat → Nat) (hM : RepM σ (g 0)) (hI : Inv σ) (q : Nat) (hq0 : q < σ 0) : MRi l yX9_seers wsX9_seers rm_X9_seers Γ (wMd Γ a v hs g) [.ref (a 0), .int (nI q)] (fun r => r = nI (seers σ q)) := by
  refine mR (cc := cX9_seers) (maxL := 4) (ret := (some .int)) (own := RX9) (by decide) rfl rfl (Nat.le_of_ble_eq_true rfl) ?_
  intro p e s m args below meth c S hrt hlk hK hP ls hl
  obtain ⟨hx, hb, hml, hown, hts⟩ := id S
  have hl : lv_has ls 4 [(0, .ref (a 0)), (1, .int (nI q))] := hl
  have hP : gP Γ (wMd Γ a v hs g) s.heap := hP
  have L_4 : ∀ (fuel : Nat), ∀ (k : Nat) (x2 : Int32) (hk : k ≤ 5) (hfk : 5 - k < fuel) (e_x2 : x2 = nI (bset (fun p => decide (vmk σ p q = 0)) k)), ∀ ls : Array Slot, lv_has ls 4 [(0, .ref (a 0)), (1, .int (nI q)), (3, .int (nI k)), (2, .int x2)] → W p l e rm_X9_seers s m args below meth c s.heap [] 0 0 (MQ below (vp_Si (fun r => r = nI (seers σ q))) args s 0 0 (fun _ => False)) (F0 m 4 ls []) := by
    intro fuel
    induction fuel with
    | zero => intro k x2 hk hfk e_x2; exact absurd hfk (by omega)
    | succ fuel ih_4 =>
      intro k x2 hk hfk e_x2 ls hl
      subst e_x2
      refine lv_iload_n hx hb dX9_seers_4 rfl (lv_at hl 2 rfl) ?_
      refine lv_iconst (v := nI 5) hx hb dX9_seers_5 (by decide) ?_
      refine lv_icmp_ge (tgt := 34) hx hb dX9_seers_6 (by decide) (fun c_6 => ?_) (fun c_6 => ?_)
      · have n_6 := (nI_leI (a := 5) (b := k) (by omega) (by omega)).mp c_6
        refine lv_iload_n hx hb dX9_seers_34 rfl (lv_at hl 3 rfl) ?_
        exact W.iret (v := nI (bset (fun p => decide (vmk σ p q = 0)) k)) hx hb hrt (fun t9 ht9 hW9 => ⟨_, rfl, by unfold seers; rw [show 5 = k from by omega], ht9⟩) (fun _ h9 => nomatch h9) dX9_seers_35 hlk
      · have n_6 := (not_congr (nI_leI (a := 5) (b := k) (by omega) (by omega))).mp c_6
        refine lv_iload_n hx hb dX9_seers_9 rfl (lv_at hl 3 rfl) ?_
        refine lv_aload_n hx hb dX9_seers_10 rfl (lv_at hl 0 rfl) ?_
        refine lv_iload_n hx hb dX9_seers_11 rfl (lv_at hl 2 rfl) ?_
        refine lv_iload_n hx hb dX9_seers_12 rfl (lv_at hl 1 rfl) ?_
        refine cRi (As := [.int (nI k), .int (nI q)]) (rest := [.int (nI (bset (fun p => decide (vmk σ p q = 0)) k))]) (m_X9_veilsOf l Γ a v hs g σ hM hI k q (by omega) hq0) S k_X9_veilsOf gX9_seers_X9_veilsOf rfl ⟨Nat.le_of_ble_eq_true rfl, Nat.le_of_ble_eq_true rfl⟩ hK hP [0, 1, 2, 3, 4] rfl 0 (ci := 9) rfl rfl rfl rfl hl.1 (Nat.le_of_ble_eq_true rfl) rfl dX9_seers_13 ⟨Nat.le_of_ble_eq_true rfl, Nat.le_of_ble_eq_true rfl⟩ (fun r hr => ?_)
        subst hr
        have hv := vmk_lt σ k q
        refine lv_if_ne (tgt := 25) hx hb dX9_seers_16 (by decide) (fun c_16 => ?_) (fun c_16 => ?_)
        · have n_16 := (not_congr (nI_eq (a := (vmk σ k q)) (b := 0) (by omega) (by omega))).mp c_16
          refine lv_iconst (v := nI 0) hx hb dX9_seers_25 (by decide) ?_
          refine lv_ior hx hb dX9_seers_26 ?_
          refine asi (z := nI (bset (fun p => decide (vmk σ p q = 0)) (k + 1))) (by first | exact bo_s (p := (fun p => decide (vmk σ p q = 0))) (by omega) (decide_eq_true n_16) | exact bo_z (p := (fun p => decide (vmk σ p q = 0))) (decide_eq_false n_16)) ?_
          refine lv_istore_n (lv' := [(2, .int (nI (bset (fun p => decide (vmk σ p q = 0)) (k + 1)))), (0, .ref (a 0)), (1, .int (nI q)), (3, .int (nI k))]) hx hb dX9_seers_27 rfl hl (by decide) rfl (fun ls hl => ?_)
          refine lv_iinc (v := nI (k + 1)) (lv' := [(3, .int (nI (k + 1))), (2, .int (nI (bset (fun p => decide (vmk σ p q = 0)) (k + 1)))), (0, .ref (a 0)), (1, .int (nI q))]) hx hb dX9_seers_28 hl (k := 3) rfl (nI_add _ _) (by decide) rfl (fun ls hl => ?_)
          refine lv_goto (tgt := 4) hx hb dX9_seers_31 (by decide) ?_
          exact ih_4 (k + 1) (nI (bset (fun p => decide (vmk σ p q = 0)) (k + 1))) (by omega) (by omega) rfl ls (lv_sub hl [2, 3, 0, 1] rfl)
        · have n_16 := (nI_eq (a := (vmk σ k q)) (b := 0) (by omega) (by omega)).mp c_16
          refine lv_iconst (v := nI 1) hx hb dX9_seers_19 (by decide) ?_
          refine lv_iload_n hx hb dX9_seers_20 rfl (lv_at hl 2 rfl) ?_
          refine lv_ishl hx hb dX9_seers_21 ?_
          refine lv_goto (tgt := 26) hx hb dX9_seers_22 (by decide) ?_
          refine lv_ior hx hb dX9_seers_26 ?_
          refine asi (z := nI (bset (fun p => decide (vmk σ p q = 0)) (k + 1))) (by first | exact bo_s (p := (fun p => decide (vmk σ p q = 0))) (by omega) (decide_eq_true n_16) | exact bo_z (p := (fun p => decide (vmk σ p q = 0))) (decide_eq_false n_16)) ?_
          refine lv_istore_n (lv' := [(2, .int (nI (bset (fun p => decide (vmk σ p q = 0)) (k + 1)))), (0, .ref (a 0)), (1, .int (nI q)), (3, .int (nI k))]) hx hb dX9_seers_27 rfl hl (by decide) rfl (fun ls hl => ?_)
          refine lv_iinc (v := nI (k + 1)) (lv' := [(3, .int (nI (k + 1))), (2, .int (nI (bset (fun p => decide (vmk σ p q = 0)) (k + 1)))), (0, .ref (a 0)), (1, .int (nI q))]) hx hb dX9_seers_28 hl (k := 3) rfl (nI_add _ _) (by decide) rfl (fun ls hl => ?_)
          refine lv_goto (tgt := 4) hx hb dX9_seers_31 (by decide) ?_
          exact ih_4 (k + 1) (nI (bset (fun p => decide (vmk σ p q = 0)) (k + 1))) (by omega) (by omega) rfl ls (lv_sub hl [2, 3, 0, 1] rfl)
  refine lv_iconst (v := nI 0) hx hb dX9_seers_0 (by decide) ?_
  refine lv_istore_n (lv' := [(2, .int (nI 0)), (0, .ref (a 0)), (1, .int (nI q))]) hx hb dX9_seers_1 rfl hl (by decide) rfl (fun ls hl => ?_)
  refine lv_iconst (v := nI 0) hx hb dX9_seers_2 (by decide) ?_
  refine lv_istore_n (lv' := [(3, .int (nI 0)), (2, .int (nI 0)), (0, .ref (a 0)), (1, .int (nI q))]) hx hb dX9_seers_3 rfl hl (by decide) rfl (fun ls hl => ?_)
  exact L_4 (5 + 1) 0 (nI 0) (by omega) (by omega) rfl ls (lv_sub hl [2, 3, 0, 1] rfl)

abbrev rm_X9_tellsRow : Room := { frames := 6, cells := 0, slots := 0, locals := 138 }
theorem k_X9_tellsRow : Cal yX9_tellsRow wsX9_tellsRow rm_X9_tellsRow cX9_tellsRow 3 (some .int) 2 0 0 := ⟨⟨_, rfl⟩, rfl, rfl, by decide +kernel⟩
set_option maxHeartbeats 4000000 in
set_option maxRecDepth 100000 in
theorem m_X9_tellsRow (l : Launch) (Γ : Gm) (a : Nat → Nat) (v : Nat → Int32) (hs : Int64) (g : Nat → Nat → Int32) (σ : Nat → Nat) (hM : RepM σ (g 0)) (hI : Inv σ) (q w : Nat) (hq0 : q < σ 0) (hw : w < 5) : MRi l yX9_tellsRow wsX9_tellsRow rm_X9_tellsRow Γ (wMd Γ a v hs g) [.ref (a 0), .int (nI q), .int (nI w)] (fun r => r = nI (rowN σ q w)) := by
  refine mR (cc := cX9_tellsRow) (maxL := 3) (ret := (some .int)) (own := RX9) (by decide) rfl rfl (Nat.le_of_ble_eq_true rfl) ?_
  intro p e s m args below meth c S hrt hlk hK hP ls hl
  obtain ⟨hx, hb, hml, hown, hts⟩ := id S
  have hn := hI.n
  have hl : lv_has ls 3 [(0, .ref (a 0)), (1, .int (nI q)), (2, .int (nI w))] := hl
  have hP : gP Γ (wMd Γ a v hs g) s.heap := hP
  refine lv_iload_n hx hb dX9_tellsRow_0 rfl (lv_at hl 2 rfl) ?_
  refine lv_iconst (v := nI 4) hx hb dX9_tellsRow_1 (by decide) ?_
  refine lv_icmp_ne (tgt := 13) hx hb dX9_tellsRow_2 (by decide) (fun c_2 => ?_) (fun c_2 => ?_)
  · have n_2 := (not_congr (nI_eq (a := w) (b := 4) (by omega) (by omega))).mp c_2
    refine lv_aload_n hx hb dX9_tellsRow_13 rfl (lv_at hl 0 rfl) ?_
    refine lv_iload_n hx hb dX9_tellsRow_14 rfl (lv_at hl 1 rfl) ?_
    refine lv_iload_n hx hb dX9_tellsRow_15 rfl (lv_at hl 2 rfl) ?_
    refine cRi (As := [.int (nI q), .int (nI w)]) (rest := []) (m_X9_of l Γ a v hs g σ hM hI q w (by omega)) S k_X9_of gX9_tellsRow_X9_of rfl ⟨Nat.le_of_ble_eq_true rfl, Nat.le_of_ble_eq_true rfl⟩ hK hP [0, 1, 2, 3, 4] rfl 0 (ci := 9) rfl rfl rfl rfl hl.1 (Nat.le_of_ble_eq_true rfl) rfl dX9_tellsRow_16 ⟨Nat.le_of_ble_eq_true rfl, Nat.le_of_ble_eq_true rfl⟩ (fun r hr => ?_)
    subst hr
    exact W.iret (v := nI (oR σ q w)) hx hb hrt (fun t9 ht9 hW9 => ⟨_, rfl, by unfold rowN; first | rw [if_pos (by omega)] | rw [if_neg (by omega)], ht9⟩) (fun _ h9 => nomatch h9) dX9_tellsRow_19 hlk
  · have n_2 := (nI_eq (a := w) (b := 4) (by omega) (by omega)).mp c_2
    refine lv_aload_n hx hb dX9_tellsRow_5 rfl (lv_at hl 0 rfl) ?_
    refine lv_iload_n hx hb dX9_tellsRow_6 rfl (lv_at hl 1 rfl) ?_
    refine cRi (As := [.int (nI q)]) (rest := []) (m_X9_seers l Γ a v hs g σ hM hI q hq0) S k_X9_seers gX9_tellsRow_X9_seers rfl ⟨Nat.le_of_ble_eq_true rfl, Nat.le_of_ble_eq_true rfl⟩ hK hP [0, 1, 2, 3, 4] rfl 0 (ci := 9) rfl rfl rfl rfl hl.1 (Nat.le_of_ble_eq_true rfl) rfl dX9_tellsRow_7 ⟨Nat.le_of_ble_eq_true rfl, Nat.le_of_ble_eq_true rfl⟩ (fun r hr => ?_)
    subst hr
    refine lv_goto (tgt := 19) hx hb dX9_tellsRow_10 (by decide) ?_
    exact W.iret (v := nI (seers σ q)) hx hb hrt (fun t9 ht9 hW9 => ⟨_, rfl, by unfold rowN; first | rw [if_pos (by omega)] | rw [if_neg (by omega)], ht9⟩) (fun _ h9 => nomatch h9) dX9_tellsRow_19 hlk

abbrev rm_X9_tellsPerson : Room := { frames := 6, cells := 0, slots := 0, locals := 138 }
theorem k_X9_tellsPerson : Cal yX9_tellsPerson wsX9_tellsPerson rm_X9_tellsPerson cX9_tellsPerson 3 (some .int) 2 0 0 := ⟨⟨_, rfl⟩, rfl, rfl, by decide +kernel⟩
set_option maxHeartbeats 4000000 in
set_option maxRecDepth 100000 in
theorem m_X9_tellsPerson (l : Launch) (Γ : Gm) (a : Nat → Nat) (v : Nat → Int32) (hs : Int64) (g : Nat → Nat → Int32) (σ : Nat → Nat) (hM : RepM σ (g 0)) (hI : Inv σ) (p0 w : Nat) (hp : p0 < 5) (hw : w < 8) : MRi l yX9_tellsPerson wsX9_tellsPerson rm_X9_tellsPerson Γ (wMd Γ a v hs g) [.ref (a 0), .int (nI p0), .int (nI w)] (fun r => r = perN σ p0 w) := by
  refine mR (cc := cX9_tellsPerson) (maxL := 3) (ret := (some .int)) (own := RX9) (by decide) rfl rfl (Nat.le_of_ble_eq_true rfl) ?_
  intro p e s m args below meth c S hrt hlk hK hP ls hl
  obtain ⟨hx, hb, hml, hown, hts⟩ := id S
  have hl : lv_has ls 3 [(0, .ref (a 0)), (1, .int (nI p0)), (2, .int (nI w))] := hl
  have hP : gP Γ (wMd Γ a v hs g) s.heap := hP
  refine lv_iload_n hx hb dX9_tellsPerson_0 rfl (lv_at hl 2 rfl) ?_
  rcases (by omega : w = 0 ∨ w = 1 ∨ w = 2 ∨ w = 3 ∨ w = 4 ∨ w = 5 ∨ w = 6 ∨ w = 7) with rfl | rfl | rfl | rfl | rfl | rfl | rfl | rfl
  · refine lv_tableIn (off := 39) (tgt := 40) hx hb dX9_tellsPerson_1 (by decide) (by decide) (by decide) (by decide) ?_
    refine lv_aload_n hx hb dX9_tellsPerson_40 rfl (lv_at hl 0 rfl) ?_
    refine lv_iload_n hx hb dX9_tellsPerson_41 rfl (lv_at hl 1 rfl) ?_
    refine lv_iload_n hx hb dX9_tellsPerson_42 rfl (lv_at hl 2 rfl) ?_
    refine cRi (As := [.int (nI p0), .int (nI 0)]) (rest := []) (m_X9_ofPerson l Γ a v hs g σ hM hI p0 0 (by omega)) S k_X9_ofPerson gX9_tellsPerson_X9_ofPerson rfl ⟨Nat.le_of_ble_eq_true rfl, Nat.le_of_ble_eq_true rfl⟩ hK hP [0, 1, 2, 3, 4] rfl 0 (ci := 9) rfl rfl rfl rfl hl.1 (Nat.le_of_ble_eq_true rfl) rfl dX9_tellsPerson_43 ⟨Nat.le_of_ble_eq_true rfl, Nat.le_of_ble_eq_true rfl⟩ (fun r hr => ?_)
    subst hr
    exact W.iret (v := nI (oP σ p0 0)) hx hb hrt (fun t9 ht9 hW9 => ⟨_, rfl, rfl, ht9⟩) (fun _ h9 => nomatch h9) dX9_tellsPerson_46 hlk
  · refine lv_tableIn (off := 39) (tgt := 40) hx hb dX9_tellsPerson_1 (by decide) (by decide) (by decide) (by decide) ?_
    refine lv_aload_n hx hb dX9_tellsPerson_40 rfl (lv_at hl 0 rfl) ?_
    refine lv_iload_n hx hb dX9_tellsPerson_41 rfl (lv_at hl 1 rfl) ?_
    refine lv_iload_n hx hb dX9_tellsPerson_42 rfl (lv_at hl 2 rfl) ?_
    refine cRi (As := [.int (nI p0), .int (nI 1)]) (rest := []) (m_X9_ofPerson l Γ a v hs g σ hM hI p0 1 (by omega)) S k_X9_ofPerson gX9_tellsPerson_X9_ofPerson rfl ⟨Nat.le_of_ble_eq_true rfl, Nat.le_of_ble_eq_true rfl⟩ hK hP [0, 1, 2, 3, 4] rfl 0 (ci := 9) rfl rfl rfl rfl hl.1 (Nat.le_of_ble_eq_true rfl) rfl dX9_tellsPerson_43 ⟨Nat.le_of_ble_eq_true rfl, Nat.le_of_ble_eq_true rfl⟩ (fun r hr => ?_)
    subst hr
    exact W.iret (v := nI (oP σ p0 1)) hx hb hrt (fun t9 ht9 hW9 => ⟨_, rfl, rfl, ht9⟩) (fun _ h9 => nomatch h9) dX9_tellsPerson_46 hlk
  · refine lv_tableIn (off := 46) (tgt := 47) hx hb dX9_tellsPerson_1 (by decide) (by decide) (by decide) (by decide) ?_
    refine lv_aload_n hx hb dX9_tellsPerson_47 rfl (lv_at hl 0 rfl) ?_
    refine lv_iload_n hx hb dX9_tellsPerson_48 rfl (lv_at hl 1 rfl) ?_
    refine cRi (As := [.int (nI p0)]) (rest := []) (m_X9_masterOf l Γ a v hs g σ hM hI p0 hp) S k_X9_masterOf gX9_tellsPerson_X9_masterOf rfl ⟨Nat.le_of_ble_eq_true rfl, Nat.le_of_ble_eq_true rfl⟩ hK hP [0, 1, 2, 3, 4] rfl 0 (ci := 9) rfl rfl rfl rfl hl.1 (Nat.le_of_ble_eq_true rfl) rfl dX9_tellsPerson_49 ⟨Nat.le_of_ble_eq_true rfl, Nat.le_of_ble_eq_true rfl⟩ (fun r hr => ?_)
    subst hr
    exact W.iret (v := mI (oP σ p0 2)) hx hb hrt (fun t9 ht9 hW9 => ⟨_, rfl, rfl, ht9⟩) (fun _ h9 => nomatch h9) dX9_tellsPerson_52 hlk
  · refine lv_tableIn (off := 52) (tgt := 53) hx hb dX9_tellsPerson_1 (by decide) (by decide) (by decide) (by decide) ?_
    refine lv_aload_n hx hb dX9_tellsPerson_53 rfl (lv_at hl 0 rfl) ?_
    refine lv_iload_n hx hb dX9_tellsPerson_54 rfl (lv_at hl 1 rfl) ?_
    refine cRi (As := [.int (nI p0)]) (rest := []) (m_X9_seenBy l Γ a v hs g σ hM hI p0 hp) S k_X9_seenBy gX9_tellsPerson_X9_seenBy rfl ⟨Nat.le_of_ble_eq_true rfl, Nat.le_of_ble_eq_true rfl⟩ hK hP [0, 1, 2, 3, 4] rfl 0 (ci := 9) rfl rfl rfl rfl hl.1 (Nat.le_of_ble_eq_true rfl) rfl dX9_tellsPerson_55 ⟨Nat.le_of_ble_eq_true rfl, Nat.le_of_ble_eq_true rfl⟩ (fun r hr => ?_)
    subst hr
    refine cSi (As := [.int (nI (sAll σ p0))]) (rest := []) (m_X9_ones l (sAll σ p0) (Nat.lt_trans (seenQ_lt hI _ _ _ _) (by decide))) S k_X9_ones gX9_tellsPerson_X9_ones ⟨Nat.le_of_ble_eq_true rfl, Nat.le_of_ble_eq_true rfl⟩ rfl hl.1 (Nat.le_of_ble_eq_true rfl) rfl dX9_tellsPerson_58 ⟨Nat.le_of_ble_eq_true rfl, Nat.le_of_ble_eq_true rfl⟩ (fun r hr => ?_)
    subst hr
    exact W.iret (v := nI (ones (sAll σ p0))) hx hb hrt (fun t9 ht9 hW9 => ⟨_, rfl, rfl, ht9⟩) (fun _ h9 => nomatch h9) dX9_tellsPerson_61 hlk
  · refine lv_tableIn (off := 61) (tgt := 62) hx hb dX9_tellsPerson_1 (by decide) (by decide) (by decide) (by decide) ?_
    refine lv_aload_n hx hb dX9_tellsPerson_62 rfl (lv_at hl 0 rfl) ?_
    refine lv_iload_n hx hb dX9_tellsPerson_63 rfl (lv_at hl 1 rfl) ?_
    refine cRi (As := [.int (nI p0)]) (rest := []) (m_X9_seenBy l Γ a v hs g σ hM hI p0 hp) S k_X9_seenBy gX9_tellsPerson_X9_seenBy rfl ⟨Nat.le_of_ble_eq_true rfl, Nat.le_of_ble_eq_true rfl⟩ hK hP [0, 1, 2, 3, 4] rfl 0 (ci := 9) rfl rfl rfl rfl hl.1 (Nat.le_of_ble_eq_true rfl) rfl dX9_tellsPerson_64 ⟨Nat.le_of_ble_eq_true rfl, Nat.le_of_ble_eq_true rfl⟩ (fun r hr => ?_)
    subst hr
    exact W.iret (v := nI (sAll σ p0)) hx hb hrt (fun t9 ht9 hW9 => ⟨_, rfl, rfl, ht9⟩) (fun _ h9 => nomatch h9) dX9_tellsPerson_67 hlk
  · refine lv_tableIn (off := 67) (tgt := 68) hx hb dX9_tellsPerson_1 (by decide) (by decide) (by decide) (by decide) ?_
    refine lv_aload_n hx hb dX9_tellsPerson_68 rfl (lv_at hl 0 rfl) ?_
    refine lv_iload_n hx hb dX9_tellsPerson_69 rfl (lv_at hl 1 rfl) ?_
    refine cRi (As := [.int (nI p0)]) (rest := []) (m_X9_kept l Γ a v hs g σ hM hI p0 hp) S k_X9_kept gX9_tellsPerson_X9_kept rfl ⟨Nat.le_of_ble_eq_true rfl, Nat.le_of_ble_eq_true rfl⟩ hK hP [0, 1, 2, 3, 4] rfl 0 (ci := 9) rfl rfl rfl rfl hl.1 (Nat.le_of_ble_eq_true rfl) rfl dX9_tellsPerson_70 ⟨Nat.le_of_ble_eq_true rfl, Nat.le_of_ble_eq_true rfl⟩ (fun r hr => ?_)
    subst hr
    exact W.iret (v := nI (oK σ p0)) hx hb hrt (fun t9 ht9 hW9 => ⟨_, rfl, rfl, ht9⟩) (fun _ h9 => nomatch h9) dX9_tellsPerson_73 hlk
  · refine lv_tableOut (tgt := 74) hx hb dX9_tellsPerson_1 (by decide) (by decide) ?_
    refine lv_aload_n hx hb dX9_tellsPerson_74 rfl (lv_at hl 0 rfl) ?_
    refine lv_iload_n hx hb dX9_tellsPerson_75 rfl (lv_at hl 1 rfl) ?_
    refine lv_iconst (v := nI 3) hx hb dX9_tellsPerson_76 (by decide) ?_
    refine lv_iload_n hx hb dX9_tellsPerson_77 rfl (lv_at hl 2 rfl) ?_
    refine lv_iadd hx hb dX9_tellsPerson_78 ?_
    refine asi (z := nI 9) (nI_add _ _) ?_
    refine lv_bipush (v := nI 6) hx hb dX9_tellsPerson_79 (by decide) ?_
    refine lv_isub hx hb dX9_tellsPerson_81 ?_
    refine asi (z := nI 3) (by decide) ?_
    refine cRi (As := [.int (nI p0), .int (nI 3)]) (rest := []) (m_X9_ofPerson l Γ a v hs g σ hM hI p0 3 (by omega)) S k_X9_ofPerson gX9_tellsPerson_X9_ofPerson rfl ⟨Nat.le_of_ble_eq_true rfl, Nat.le_of_ble_eq_true rfl⟩ hK hP [0, 1, 2, 3, 4] rfl 0 (ci := 9) rfl rfl rfl rfl hl.1 (Nat.le_of_ble_eq_true rfl) rfl dX9_tellsPerson_82 ⟨Nat.le_of_ble_eq_true rfl, Nat.le_of_ble_eq_true rfl⟩ (fun r hr => ?_)
    subst hr
    exact W.iret (v := nI (oP σ p0 3)) hx hb hrt (fun t9 ht9 hW9 => ⟨_, rfl, rfl, ht9⟩) (fun _ h9 => nomatch h9) dX9_tellsPerson_85 hlk
  · refine lv_tableOut (tgt := 74) hx hb dX9_tellsPerson_1 (by decide) (by decide) ?_
    refine lv_aload_n hx hb dX9_tellsPerson_74 rfl (lv_at hl 0 rfl) ?_
    refine lv_iload_n hx hb dX9_tellsPerson_75 rfl (lv_at hl 1 rfl) ?_
    refine lv_iconst (v := nI 3) hx hb dX9_tellsPerson_76 (by decide) ?_
    refine lv_iload_n hx hb dX9_tellsPerson_77 rfl (lv_at hl 2 rfl) ?_
    refine lv_iadd hx hb dX9_tellsPerson_78 ?_
    refine asi (z := nI 10) (nI_add _ _) ?_
    refine lv_bipush (v := nI 6) hx hb dX9_tellsPerson_79 (by decide) ?_
    refine lv_isub hx hb dX9_tellsPerson_81 ?_
    refine asi (z := nI 4) (by decide) ?_
    refine cRi (As := [.int (nI p0), .int (nI 4)]) (rest := []) (m_X9_ofPerson l Γ a v hs g σ hM hI p0 4 (by omega)) S k_X9_ofPerson gX9_tellsPerson_X9_ofPerson rfl ⟨Nat.le_of_ble_eq_true rfl, Nat.le_of_ble_eq_true rfl⟩ hK hP [0, 1, 2, 3, 4] rfl 0 (ci := 9) rfl rfl rfl rfl hl.1 (Nat.le_of_ble_eq_true rfl) rfl dX9_tellsPerson_82 ⟨Nat.le_of_ble_eq_true rfl, Nat.le_of_ble_eq_true rfl⟩ (fun r hr => ?_)
    subst hr
    exact W.iret (v := nI (oP σ p0 4)) hx hb hrt (fun t9 ht9 hW9 => ⟨_, rfl, rfl, ht9⟩) (fun _ h9 => nomatch h9) dX9_tellsPerson_85 hlk

abbrev rm_X9_sumOf : Room := { frames := 1, cells := 0, slots := 0, locals := 22 }
theorem k_X9_sumOf : Cal yX9_sumOf wsX9_sumOf rm_X9_sumOf cX9_sumOf 4 (some .int) 1 0 0 := ⟨⟨_, rfl⟩, rfl, rfl, by decide +kernel⟩
set_option maxHeartbeats 4000000 in
set_option maxRecDepth 100000 in
theorem m_X9_sumOf (l : Launch) (Γ : Gm) (a : Nat → Nat) (v : Nat → Int32) (hs : Int64) (g : Nat → Nat → Int32) (σ : Nat → Nat) (hM : RepM σ (g 0)) (hI : Inv σ) (w : Nat) (hw : w < 5) : MRi l yX9_sumOf wsX9_sumOf rm_X9_sumOf Γ (wMd Γ a v hs g) [.ref (a 0), .int (nI w)] (fun r => r = nI (sumP σ w 5)) := by
  refine mR (cc := cX9_sumOf) (maxL := 4) (ret := (some .int)) (own := RX9) (by decide) rfl rfl (Nat.le_of_ble_eq_true rfl) ?_
  intro p e s m args below meth c S hrt hlk hK hP ls hl
  obtain ⟨hx, hb, hml, hown, hts⟩ := id S
  have hl : lv_has ls 4 [(0, .ref (a 0)), (1, .int (nI w))] := hl
  have hP : gP Γ (wMd Γ a v hs g) s.heap := hP
  have L_4 : ∀ (fuel : Nat), ∀ (k : Nat) (x2 : Int32) (hk : k ≤ 5) (hfk : 5 - k < fuel) (e_x2 : x2 = nI (sumP σ w k)), ∀ ls : Array Slot, lv_has ls 4 [(0, .ref (a 0)), (1, .int (nI w)), (3, .int (nI k)), (2, .int x2)] → W p l e rm_X9_sumOf s m args below meth c s.heap [] 0 0 (MQ below (vp_Si (fun r => r = nI (sumP σ w 5))) args s 0 0 (fun _ => False)) (F0 m 4 ls []) := by
    intro fuel
    induction fuel with
    | zero => intro k x2 hk hfk e_x2; exact absurd hfk (by omega)
    | succ fuel ih_4 =>
      intro k x2 hk hfk e_x2 ls hl
      subst e_x2
      refine lv_iload_n hx hb dX9_sumOf_4 rfl (lv_at hl 2 rfl) ?_
      refine lv_iconst (v := nI 5) hx hb dX9_sumOf_5 (by decide) ?_
      refine lv_icmp_ge (tgt := 24) hx hb dX9_sumOf_6 (by decide) (fun c_6 => ?_) (fun c_6 => ?_)
      · have n_6 := (nI_leI (a := 5) (b := k) (by omega) (by omega)).mp c_6
        refine lv_iload_n hx hb dX9_sumOf_24 rfl (lv_at hl 3 rfl) ?_
        exact W.iret (v := nI (sumP σ w k)) hx hb hrt (fun t9 ht9 hW9 => ⟨_, rfl, by rw [show 5 = k from by omega], ht9⟩) (fun _ h9 => nomatch h9) dX9_sumOf_25 hlk
      · have n_6 := (not_congr (nI_leI (a := 5) (b := k) (by omega) (by omega))).mp c_6
        refine lv_iload_n hx hb dX9_sumOf_9 rfl (lv_at hl 3 rfl) ?_
        refine lv_aload_n hx hb dX9_sumOf_10 rfl (lv_at hl 0 rfl) ?_
        refine lv_iload_n hx hb dX9_sumOf_11 rfl (lv_at hl 2 rfl) ?_
        refine lv_iload_n hx hb dX9_sumOf_12 rfl (lv_at hl 1 rfl) ?_
        refine cRi (As := [.int (nI k), .int (nI w)]) (rest := [.int (nI (sumP σ w k))]) (m_X9_ofPerson l Γ a v hs g σ hM hI k w (by omega)) S k_X9_ofPerson gX9_sumOf_X9_ofPerson rfl ⟨Nat.le_of_ble_eq_true rfl, Nat.le_of_ble_eq_true rfl⟩ hK hP [0, 1, 2, 3, 4] rfl 0 (ci := 9) rfl rfl rfl rfl hl.1 (Nat.le_of_ble_eq_true rfl) rfl dX9_sumOf_13 ⟨Nat.le_of_ble_eq_true rfl, Nat.le_of_ble_eq_true rfl⟩ (fun r hr => ?_)
        subst hr
        refine lv_iadd hx hb dX9_sumOf_16 ?_
        refine asi (z := nI (sumP σ w (k + 1))) (nI_add _ _) ?_
        refine lv_istore_n (lv' := [(2, .int (nI (sumP σ w (k + 1)))), (0, .ref (a 0)), (1, .int (nI w)), (3, .int (nI k))]) hx hb dX9_sumOf_17 rfl hl (by decide) rfl (fun ls hl => ?_)
        refine lv_iinc (v := nI (k + 1)) (lv' := [(3, .int (nI (k + 1))), (2, .int (nI (sumP σ w (k + 1)))), (0, .ref (a 0)), (1, .int (nI w))]) hx hb dX9_sumOf_18 hl (k := 3) rfl (nI_add _ _) (by decide) rfl (fun ls hl => ?_)
        refine lv_goto (tgt := 4) hx hb dX9_sumOf_21 (by decide) ?_
        exact ih_4 (k + 1) (nI (sumP σ w (k + 1))) (by omega) (by omega) rfl ls (lv_sub hl [2, 3, 0, 1] rfl)
  refine lv_iconst (v := nI 0) hx hb dX9_sumOf_0 (by decide) ?_
  refine lv_istore_n (lv' := [(2, .int (nI 0)), (0, .ref (a 0)), (1, .int (nI w))]) hx hb dX9_sumOf_1 rfl hl (by decide) rfl (fun ls hl => ?_)
  refine lv_iconst (v := nI 0) hx hb dX9_sumOf_2 (by decide) ?_
  refine lv_istore_n (lv' := [(3, .int (nI 0)), (2, .int (nI 0)), (0, .ref (a 0)), (1, .int (nI w))]) hx hb dX9_sumOf_3 rfl hl (by decide) rfl (fun ls hl => ?_)
  exact L_4 (5 + 1) 0 (nI 0) (by omega) (by omega) rfl ls (lv_sub hl [2, 3, 0, 1] rfl)

abbrev rm_X9_veiledPairs : Room := { frames := 5, cells := 0, slots := 0, locals := 115 }
theorem k_X9_veiledPairs : Cal yX9_veiledPairs wsX9_veiledPairs rm_X9_veiledPairs cX9_veiledPairs 6 (some .int) 1 0 0 := ⟨⟨_, rfl⟩, rfl, rfl, by decide +kernel⟩
set_option maxHeartbeats 4000000 in
set_option maxRecDepth 100000 in
theorem m_X9_veiledPairs_all (l : Launch) (Γ : Gm) (a : Nat → Nat) (v : Nat → Int32) (hs : Int64) (g : Nat → Nat → Int32) (σ : Nat → Nat) (hM : RepM σ (g 0)) (hI : Inv σ)  : MRi l yX9_veiledPairs wsX9_veiledPairs rm_X9_veiledPairs Γ (wMd Γ a v hs g) [.ref (a 0), .int (-1)] (fun r => r = nI (prsC (pvP σ) 5 (σ 0))) := by
  refine mR (cc := cX9_veiledPairs) (maxL := 6) (ret := (some .int)) (own := RX9) (by decide) rfl rfl (Nat.le_of_ble_eq_true rfl) ?_
  intro p e s m args below meth c S hrt hlk hK hP ls hl
  obtain ⟨hx, hb, hml, hown, hts⟩ := id S
  have hn := hI.n
  have hl : lv_has ls 6 [(0, .ref (a 0)), (1, .int (-1))] := hl
  have hP : gP Γ (wMd Γ a v hs g) s.heap := hP
  have L_4 : ∀ (fuel : Nat), ∀ (k : Nat) (x2 : Int32) (hk : k ≤ σ 0) (hfk : σ 0 - k < fuel) (e_x2 : x2 = nI (prsC (pvP σ) 5 k)), ∀ ls : Array Slot, lv_has ls 6 [(0, .ref (a 0)), (1, .int (-1)), (3, .int (nI k)), (2, .int x2)] → W p l e rm_X9_veiledPairs s m args below meth c s.heap [] 0 0 (MQ below (vp_Si (fun r => r = nI (prsC (pvP σ) 5 (σ 0)))) args s 0 0 (fun _ => False)) (F0 m 4 ls []) := by
    intro fuel
    induction fuel with
    | zero => intro k x2 hk hfk e_x2; exact absurd hfk (by omega)
    | succ fuel ih_4 =>
      intro k x2 hk hfk e_x2 ls hl
      subst e_x2
      have L_17 : ∀ (fuel : Nat), ∀ (j : Nat) (y2 : Int32) (hj : j ≤ 5) (hfj : 5 - j < fuel) (e_y2 : y2 = nI (prsC (pvP σ) 5 k + cnt (fun p => (pvP σ) p k) j)) (n_11 : ¬ σ 0 ≤ k), ∀ ls : Array Slot, lv_has ls 6 [(0, .ref (a 0)), (1, .int (-1)), (3, .int (nI k)), (4, .int (nI j)), (2, .int y2)] → W p l e rm_X9_veiledPairs s m args below meth c s.heap [] 0 0 (MQ below (vp_Si (fun r => r = nI (prsC (pvP σ) 5 (σ 0)))) args s 0 0 (fun _ => False)) (F0 m 17 ls []) := by
        intro fuel
        induction fuel with
        | zero => intro j y2 hj hfj e_y2 n_11; exact absurd hfj (by omega)
        | succ fuel ih_17 =>
          intro j y2 hj hfj e_y2 n_11 ls hl
          subst e_y2
          refine lv_iload hx hb dX9_veiledPairs_17 (lv_at hl 3 rfl) ?_
          refine lv_iconst (v := nI 5) hx hb dX9_veiledPairs_19 (by decide) ?_
          refine lv_icmp_ge (tgt := 72) hx hb dX9_veiledPairs_20 (by decide) (fun c_20 => ?_) (fun c_20 => ?_)
          · have n_20 := (nI_leI (a := 5) (b := j) (by omega) (by omega)).mp c_20
            refine lv_iinc (v := nI (k + 1)) (lv' := [(3, .int (nI (k + 1))), (0, .ref (a 0)), (1, .int (-1)), (4, .int (nI j)), (2, .int (nI (prsC (pvP σ) 5 k + cnt (fun p => (pvP σ) p k) j)))]) hx hb dX9_veiledPairs_72 hl (k := 2) rfl (nI_add _ _) (by decide) rfl (fun ls hl => ?_)
            refine lv_goto (tgt := 4) hx hb dX9_veiledPairs_75 (by decide) ?_
            exact ih_4 (k + 1) (nI (prsC (pvP σ) 5 k + cnt (fun p => (pvP σ) p k) j)) (by omega) (by omega) (by rw [show j = 5 from by omega]; rfl) ls (lv_sub hl [1, 2, 0, 4] rfl)
          · have n_20 := (not_congr (nI_leI (a := 5) (b := j) (by omega) (by omega))).mp c_20
            refine lv_aload_n hx hb dX9_veiledPairs_23 rfl (lv_at hl 0 rfl) ?_
            refine lv_iload hx hb dX9_veiledPairs_24 (lv_at hl 3 rfl) ?_
            refine lv_iload_n hx hb dX9_veiledPairs_26 rfl (lv_at hl 2 rfl) ?_
            refine cRi (As := [.int (nI j), .int (nI k)]) (rest := []) (m_X9_veilsOf l Γ a v hs g σ hM hI j k (by omega) (by omega)) S k_X9_veilsOf gX9_veiledPairs_X9_veilsOf rfl ⟨Nat.le_of_ble_eq_true rfl, Nat.le_of_ble_eq_true rfl⟩ hK hP [0, 1, 2, 3, 4] rfl 0 (ci := 9) rfl rfl rfl rfl hl.1 (Nat.le_of_ble_eq_true rfl) rfl dX9_veiledPairs_27 ⟨Nat.le_of_ble_eq_true rfl, Nat.le_of_ble_eq_true rfl⟩ (fun r hr => ?_)
            subst hr
            refine lv_istore (lv' := [(5, .int (nI (vmk σ j k))), (0, .ref (a 0)), (1, .int (-1)), (3, .int (nI k)), (4, .int (nI j)), (2, .int (nI (prsC (pvP σ) 5 k + cnt (fun p => (pvP σ) p k) j)))]) hx hb dX9_veiledPairs_30 hl (by decide) rfl (fun ls hl => ?_)
            have hv := vmk_lt σ j k
            refine lv_iload_n hx hb dX9_veiledPairs_32 rfl (lv_at hl 5 rfl) ?_
            refine lv_iload_n hx hb dX9_veiledPairs_33 rfl (lv_at hl 2 rfl) ?_
            refine lv_iconst (v := (-1)) hx hb dX9_veiledPairs_34 (by decide) ?_
            refine lv_icmp_ne (tgt := 51) hx hb dX9_veiledPairs_35 (by decide) (fun c_35 => ?_) (fun c_35 => ?_)
            · exact absurd rfl c_35
            · refine lv_iload hx hb dX9_veiledPairs_38 (lv_at hl 0 rfl) ?_
              refine lv_if_eq (tgt := 47) hx hb dX9_veiledPairs_40 (by decide) (fun c_40 => ?_) (fun c_40 => ?_)
              · have n_40 := (nI_eq (a := (vmk σ j k)) (b := 0) (by omega) (by omega)).mp c_40
                refine lv_iconst (v := nI 0) hx hb dX9_veiledPairs_47 (by decide) ?_
                refine lv_goto (tgt := 64) hx hb dX9_veiledPairs_48 (by decide) ?_
                refine lv_iadd hx hb dX9_veiledPairs_64 ?_
                refine asi (z := nI (prsC (pvP σ) 5 k + cnt (fun p => (pvP σ) p k) (j + 1))) (by first | (rw [cnt_t (p := (fun p => (pvP σ) p k)) (decide_eq_true n_40)]; exact nI_add _ _) | (rw [cnt_f (p := (fun p => (pvP σ) p k)) (decide_eq_false (fun h => h n_40))]; exact nI_add _ 0)) ?_
                refine lv_istore_n (lv' := [(2, .int (nI (prsC (pvP σ) 5 k + cnt (fun p => (pvP σ) p k) (j + 1)))), (5, .int (nI (vmk σ j k))), (0, .ref (a 0)), (1, .int (-1)), (3, .int (nI k)), (4, .int (nI j))]) hx hb dX9_veiledPairs_65 rfl hl (by decide) rfl (fun ls hl => ?_)
                refine lv_iinc (v := nI (j + 1)) (lv' := [(4, .int (nI (j + 1))), (2, .int (nI (prsC (pvP σ) 5 k + cnt (fun p => (pvP σ) p k) (j + 1)))), (5, .int (nI (vmk σ j k))), (0, .ref (a 0)), (1, .int (-1)), (3, .int (nI k))]) hx hb dX9_veiledPairs_66 hl (k := 5) rfl (nI_add _ _) (by decide) rfl (fun ls hl => ?_)
                refine lv_goto (tgt := 17) hx hb dX9_veiledPairs_69 (by decide) ?_
                exact ih_17 (j + 1) (nI (prsC (pvP σ) 5 k + cnt (fun p => (pvP σ) p k) (j + 1))) (by omega) (by omega) rfl n_11 ls (lv_sub hl [3, 4, 5, 0, 1] rfl)
              · have n_40 := (not_congr (nI_eq (a := (vmk σ j k)) (b := 0) (by omega) (by omega))).mp c_40
                refine lv_iconst (v := nI 1) hx hb dX9_veiledPairs_43 (by decide) ?_
                refine lv_goto (tgt := 64) hx hb dX9_veiledPairs_44 (by decide) ?_
                refine lv_iadd hx hb dX9_veiledPairs_64 ?_
                refine asi (z := nI (prsC (pvP σ) 5 k + cnt (fun p => (pvP σ) p k) (j + 1))) (by first | (rw [cnt_t (p := (fun p => (pvP σ) p k)) (decide_eq_true n_40)]; exact nI_add _ _) | (rw [cnt_f (p := (fun p => (pvP σ) p k)) (decide_eq_false (fun h => h n_40))]; exact nI_add _ 0)) ?_
                refine lv_istore_n (lv' := [(2, .int (nI (prsC (pvP σ) 5 k + cnt (fun p => (pvP σ) p k) (j + 1)))), (5, .int (nI (vmk σ j k))), (0, .ref (a 0)), (1, .int (-1)), (3, .int (nI k)), (4, .int (nI j))]) hx hb dX9_veiledPairs_65 rfl hl (by decide) rfl (fun ls hl => ?_)
                refine lv_iinc (v := nI (j + 1)) (lv' := [(4, .int (nI (j + 1))), (2, .int (nI (prsC (pvP σ) 5 k + cnt (fun p => (pvP σ) p k) (j + 1)))), (5, .int (nI (vmk σ j k))), (0, .ref (a 0)), (1, .int (-1)), (3, .int (nI k))]) hx hb dX9_veiledPairs_66 hl (k := 5) rfl (nI_add _ _) (by decide) rfl (fun ls hl => ?_)
                refine lv_goto (tgt := 17) hx hb dX9_veiledPairs_69 (by decide) ?_
                exact ih_17 (j + 1) (nI (prsC (pvP σ) 5 k + cnt (fun p => (pvP σ) p k) (j + 1))) (by omega) (by omega) rfl n_11 ls (lv_sub hl [3, 4, 5, 0, 1] rfl)
      refine lv_iload_n hx hb dX9_veiledPairs_4 rfl (lv_at hl 2 rfl) ?_
      refine lv_aload_n hx hb dX9_veiledPairs_5 rfl (lv_at hl 0 rfl) ?_
      refine va_get (D := Γ.1) (ci := 9) (v := .ref (a 1)) (C := RX9) (T := TX9) (N := 11) hx hb hts (by decide +kernel) hown hK hP 0 rfl rfl 1 (by decide) (hts (.fieldLink RX9 7 "RowVeilsModel" "s" "[I") (by decide +kernel)) (fun _ h9 => h9) rfl dX9_veiledPairs_6 ?_
      refine lv_iconst (v := nI 0) hx hb dX9_veiledPairs_9 (by decide) ?_
      refine va_iald hx hb hK hP 1 0 rfl rfl (vp_in_nI (by omega) (by omega)) dX9_veiledPairs_10 ?_
      refine asi (z := nI (σ 0)) ((congrArg _ (nI_clamp (by omega))).trans (hM _ (by omega))) ?_
      refine lv_icmp_ge (tgt := 78) hx hb dX9_veiledPairs_11 (by decide) (fun c_11 => ?_) (fun c_11 => ?_)
      · have n_11 := (nI_leI (a := (σ 0)) (b := k) (by omega) (by omega)).mp c_11
        refine lv_iload_n hx hb dX9_veiledPairs_78 rfl (lv_at hl 3 rfl) ?_
        exact W.iret (v := nI (prsC (pvP σ) 5 k)) hx hb hrt (fun t9 ht9 hW9 => ⟨_, rfl, by rw [show σ 0 = k from by omega], ht9⟩) (fun _ h9 => nomatch h9) dX9_veiledPairs_79 hlk
      · have n_11 := (not_congr (nI_leI (a := (σ 0)) (b := k) (by omega) (by omega))).mp c_11
        refine lv_iconst (v := nI 0) hx hb dX9_veiledPairs_14 (by decide) ?_
        refine lv_istore (lv' := [(4, .int (nI 0)), (0, .ref (a 0)), (1, .int (-1)), (3, .int (nI k)), (2, .int (nI (prsC (pvP σ) 5 k)))]) hx hb dX9_veiledPairs_15 hl (by decide) rfl (fun ls hl => ?_)
        exact L_17 (5 + 1) 0 (nI (prsC (pvP σ) 5 k)) (by omega) (by omega) rfl n_11 ls (lv_sub hl [1, 2, 3, 0, 4] rfl)
  refine lv_iconst (v := nI 0) hx hb dX9_veiledPairs_0 (by decide) ?_
  refine lv_istore_n (lv' := [(2, .int (nI 0)), (0, .ref (a 0)), (1, .int (-1))]) hx hb dX9_veiledPairs_1 rfl hl (by decide) rfl (fun ls hl => ?_)
  refine lv_iconst (v := nI 0) hx hb dX9_veiledPairs_2 (by decide) ?_
  refine lv_istore_n (lv' := [(3, .int (nI 0)), (2, .int (nI 0)), (0, .ref (a 0)), (1, .int (-1))]) hx hb dX9_veiledPairs_3 rfl hl (by decide) rfl (fun ls hl => ?_)
  exact L_4 ((σ 0) + 1) 0 (nI 0) (by omega) (by omega) rfl ls (lv_sub hl [2, 3, 0, 1] rfl)

set_option maxHeartbeats 4000000 in
set_option maxRecDepth 100000 in
theorem m_X9_veiledPairs_one (l : Launch) (Γ : Gm) (a : Nat → Nat) (v : Nat → Int32) (hs : Int64) (g : Nat → Nat → Int32) (σ : Nat → Nat) (hM : RepM σ (g 0)) (hI : Inv σ) (rule : Nat) (hr4 : rule < 4) : MRi l yX9_veiledPairs wsX9_veiledPairs rm_X9_veiledPairs Γ (wMd Γ a v hs g) [.ref (a 0), .int (nI rule)] (fun r => r = nI (prsC (p1P σ rule) 5 (σ 0))) := by
  refine mR (cc := cX9_veiledPairs) (maxL := 6) (ret := (some .int)) (own := RX9) (by decide) rfl rfl (Nat.le_of_ble_eq_true rfl) ?_
  intro p e s m args below meth c S hrt hlk hK hP ls hl
  obtain ⟨hx, hb, hml, hown, hts⟩ := id S
  have hn := hI.n
  have h8 : 2 ^ rule ≤ 2 ^ 3 := Nat.pow_le_pow_right (by decide) (by omega)
  have hl : lv_has ls 6 [(0, .ref (a 0)), (1, .int (nI rule))] := hl
  have hP : gP Γ (wMd Γ a v hs g) s.heap := hP
  have L_4 : ∀ (fuel : Nat), ∀ (k : Nat) (x2 : Int32) (hk : k ≤ σ 0) (hfk : σ 0 - k < fuel) (e_x2 : x2 = nI (prsC (p1P σ rule) 5 k)), ∀ ls : Array Slot, lv_has ls 6 [(0, .ref (a 0)), (1, .int (nI rule)), (3, .int (nI k)), (2, .int x2)] → W p l e rm_X9_veiledPairs s m args below meth c s.heap [] 0 0 (MQ below (vp_Si (fun r => r = nI (prsC (p1P σ rule) 5 (σ 0)))) args s 0 0 (fun _ => False)) (F0 m 4 ls []) := by
    intro fuel
    induction fuel with
    | zero => intro k x2 hk hfk e_x2; exact absurd hfk (by omega)
    | succ fuel ih_4 =>
      intro k x2 hk hfk e_x2 ls hl
      subst e_x2
      have L_17 : ∀ (fuel : Nat), ∀ (j : Nat) (y2 : Int32) (hj : j ≤ 5) (hfj : 5 - j < fuel) (e_y2 : y2 = nI (prsC (p1P σ rule) 5 k + cnt (fun p => (p1P σ rule) p k) j)) (n_11 : ¬ σ 0 ≤ k), ∀ ls : Array Slot, lv_has ls 6 [(0, .ref (a 0)), (1, .int (nI rule)), (3, .int (nI k)), (4, .int (nI j)), (2, .int y2)] → W p l e rm_X9_veiledPairs s m args below meth c s.heap [] 0 0 (MQ below (vp_Si (fun r => r = nI (prsC (p1P σ rule) 5 (σ 0)))) args s 0 0 (fun _ => False)) (F0 m 17 ls []) := by
        intro fuel
        induction fuel with
        | zero => intro j y2 hj hfj e_y2 n_11; exact absurd hfj (by omega)
        | succ fuel ih_17 =>
          intro j y2 hj hfj e_y2 n_11 ls hl
          subst e_y2
          refine lv_iload hx hb dX9_veiledPairs_17 (lv_at hl 3 rfl) ?_
          refine lv_iconst (v := nI 5) hx hb dX9_veiledPairs_19 (by decide) ?_
          refine lv_icmp_ge (tgt := 72) hx hb dX9_veiledPairs_20 (by decide) (fun c_20 => ?_) (fun c_20 => ?_)
          · have n_20 := (nI_leI (a := 5) (b := j) (by omega) (by omega)).mp c_20
            refine lv_iinc (v := nI (k + 1)) (lv' := [(3, .int (nI (k + 1))), (0, .ref (a 0)), (1, .int (nI rule)), (4, .int (nI j)), (2, .int (nI (prsC (p1P σ rule) 5 k + cnt (fun p => (p1P σ rule) p k) j)))]) hx hb dX9_veiledPairs_72 hl (k := 2) rfl (nI_add _ _) (by decide) rfl (fun ls hl => ?_)
            refine lv_goto (tgt := 4) hx hb dX9_veiledPairs_75 (by decide) ?_
            exact ih_4 (k + 1) (nI (prsC (p1P σ rule) 5 k + cnt (fun p => (p1P σ rule) p k) j)) (by omega) (by omega) (by rw [show j = 5 from by omega]; rfl) ls (lv_sub hl [1, 2, 0, 4] rfl)
          · have n_20 := (not_congr (nI_leI (a := 5) (b := j) (by omega) (by omega))).mp c_20
            refine lv_aload_n hx hb dX9_veiledPairs_23 rfl (lv_at hl 0 rfl) ?_
            refine lv_iload hx hb dX9_veiledPairs_24 (lv_at hl 3 rfl) ?_
            refine lv_iload_n hx hb dX9_veiledPairs_26 rfl (lv_at hl 2 rfl) ?_
            refine cRi (As := [.int (nI j), .int (nI k)]) (rest := []) (m_X9_veilsOf l Γ a v hs g σ hM hI j k (by omega) (by omega)) S k_X9_veilsOf gX9_veiledPairs_X9_veilsOf rfl ⟨Nat.le_of_ble_eq_true rfl, Nat.le_of_ble_eq_true rfl⟩ hK hP [0, 1, 2, 3, 4] rfl 0 (ci := 9) rfl rfl rfl rfl hl.1 (Nat.le_of_ble_eq_true rfl) rfl dX9_veiledPairs_27 ⟨Nat.le_of_ble_eq_true rfl, Nat.le_of_ble_eq_true rfl⟩ (fun r hr => ?_)
            subst hr
            refine lv_istore (lv' := [(5, .int (nI (vmk σ j k))), (0, .ref (a 0)), (1, .int (nI rule)), (3, .int (nI k)), (4, .int (nI j)), (2, .int (nI (prsC (p1P σ rule) 5 k + cnt (fun p => (p1P σ rule) p k) j)))]) hx hb dX9_veiledPairs_30 hl (by decide) rfl (fun ls hl => ?_)
            have hv := vmk_lt σ j k
            refine lv_iload_n hx hb dX9_veiledPairs_32 rfl (lv_at hl 5 rfl) ?_
            refine lv_iload_n hx hb dX9_veiledPairs_33 rfl (lv_at hl 2 rfl) ?_
            refine lv_iconst (v := (-1)) hx hb dX9_veiledPairs_34 (by decide) ?_
            refine lv_icmp_ne (tgt := 51) hx hb dX9_veiledPairs_35 (by decide) (fun c_35 => ?_) (fun c_35 => ?_)
            · refine lv_iload hx hb dX9_veiledPairs_51 (lv_at hl 0 rfl) ?_
              refine lv_iconst (v := nI 1) hx hb dX9_veiledPairs_53 (by decide) ?_
              refine lv_iload_n hx hb dX9_veiledPairs_54 rfl (lv_at hl 2 rfl) ?_
              refine lv_ishl hx hb dX9_veiledPairs_55 ?_
              refine asi (z := nI (2 ^ rule)) (sh1 (by omega)) ?_
              refine lv_icmp_ne (tgt := 63) hx hb dX9_veiledPairs_56 (by decide) (fun c_56 => ?_) (fun c_56 => ?_)
              · have n_56 := (not_congr (nI_eq (a := (vmk σ j k)) (b := (2 ^ rule)) (by omega) (by omega))).mp c_56
                refine lv_iconst (v := nI 0) hx hb dX9_veiledPairs_63 (by decide) ?_
                refine lv_iadd hx hb dX9_veiledPairs_64 ?_
                refine asi (z := nI (prsC (p1P σ rule) 5 k + cnt (fun p => (p1P σ rule) p k) (j + 1))) (by first | (rw [cnt_t (p := (fun p => (p1P σ rule) p k)) (decide_eq_true n_56)]; exact nI_add _ _) | (rw [cnt_f (p := (fun p => (p1P σ rule) p k)) (decide_eq_false n_56)]; exact nI_add _ 0)) ?_
                refine lv_istore_n (lv' := [(2, .int (nI (prsC (p1P σ rule) 5 k + cnt (fun p => (p1P σ rule) p k) (j + 1)))), (5, .int (nI (vmk σ j k))), (0, .ref (a 0)), (1, .int (nI rule)), (3, .int (nI k)), (4, .int (nI j))]) hx hb dX9_veiledPairs_65 rfl hl (by decide) rfl (fun ls hl => ?_)
                refine lv_iinc (v := nI (j + 1)) (lv' := [(4, .int (nI (j + 1))), (2, .int (nI (prsC (p1P σ rule) 5 k + cnt (fun p => (p1P σ rule) p k) (j + 1)))), (5, .int (nI (vmk σ j k))), (0, .ref (a 0)), (1, .int (nI rule)), (3, .int (nI k))]) hx hb dX9_veiledPairs_66 hl (k := 5) rfl (nI_add _ _) (by decide) rfl (fun ls hl => ?_)
                refine lv_goto (tgt := 17) hx hb dX9_veiledPairs_69 (by decide) ?_
                exact ih_17 (j + 1) (nI (prsC (p1P σ rule) 5 k + cnt (fun p => (p1P σ rule) p k) (j + 1))) (by omega) (by omega) rfl n_11 ls (lv_sub hl [3, 4, 5, 0, 1] rfl)
              · have n_56 := (nI_eq (a := (vmk σ j k)) (b := (2 ^ rule)) (by omega) (by omega)).mp c_56
                refine lv_iconst (v := nI 1) hx hb dX9_veiledPairs_59 (by decide) ?_
                refine lv_goto (tgt := 64) hx hb dX9_veiledPairs_60 (by decide) ?_
                refine lv_iadd hx hb dX9_veiledPairs_64 ?_
                refine asi (z := nI (prsC (p1P σ rule) 5 k + cnt (fun p => (p1P σ rule) p k) (j + 1))) (by first | (rw [cnt_t (p := (fun p => (p1P σ rule) p k)) (decide_eq_true n_56)]; exact nI_add _ _) | (rw [cnt_f (p := (fun p => (p1P σ rule) p k)) (decide_eq_false n_56)]; exact nI_add _ 0)) ?_
                refine lv_istore_n (lv' := [(2, .int (nI (prsC (p1P σ rule) 5 k + cnt (fun p => (p1P σ rule) p k) (j + 1)))), (5, .int (nI (vmk σ j k))), (0, .ref (a 0)), (1, .int (nI rule)), (3, .int (nI k)), (4, .int (nI j))]) hx hb dX9_veiledPairs_65 rfl hl (by decide) rfl (fun ls hl => ?_)
                refine lv_iinc (v := nI (j + 1)) (lv' := [(4, .int (nI (j + 1))), (2, .int (nI (prsC (p1P σ rule) 5 k + cnt (fun p => (p1P σ rule) p k) (j + 1)))), (5, .int (nI (vmk σ j k))), (0, .ref (a 0)), (1, .int (nI rule)), (3, .int (nI k))]) hx hb dX9_veiledPairs_66 hl (k := 5) rfl (nI_add _ _) (by decide) rfl (fun ls hl => ?_)
                refine lv_goto (tgt := 17) hx hb dX9_veiledPairs_69 (by decide) ?_
                exact ih_17 (j + 1) (nI (prsC (p1P σ rule) 5 k + cnt (fun p => (p1P σ rule) p k) (j + 1))) (by omega) (by omega) rfl n_11 ls (lv_sub hl [3, 4, 5, 0, 1] rfl)
            · exact absurd c_35 (nI_m1 (by omega))
      refine lv_iload_n hx hb dX9_veiledPairs_4 rfl (lv_at hl 2 rfl) ?_
      refine lv_aload_n hx hb dX9_veiledPairs_5 rfl (lv_at hl 0 rfl) ?_
      refine va_get (D := Γ.1) (ci := 9) (v := .ref (a 1)) (C := RX9) (T := TX9) (N := 11) hx hb hts (by decide +kernel) hown hK hP 0 rfl rfl 1 (by decide) (hts (.fieldLink RX9 7 "RowVeilsModel" "s" "[I") (by decide +kernel)) (fun _ h9 => h9) rfl dX9_veiledPairs_6 ?_
      refine lv_iconst (v := nI 0) hx hb dX9_veiledPairs_9 (by decide) ?_
      refine va_iald hx hb hK hP 1 0 rfl rfl (vp_in_nI (by omega) (by omega)) dX9_veiledPairs_10 ?_
      refine asi (z := nI (σ 0)) ((congrArg _ (nI_clamp (by omega))).trans (hM _ (by omega))) ?_
      refine lv_icmp_ge (tgt := 78) hx hb dX9_veiledPairs_11 (by decide) (fun c_11 => ?_) (fun c_11 => ?_)
      · have n_11 := (nI_leI (a := (σ 0)) (b := k) (by omega) (by omega)).mp c_11
        refine lv_iload_n hx hb dX9_veiledPairs_78 rfl (lv_at hl 3 rfl) ?_
        exact W.iret (v := nI (prsC (p1P σ rule) 5 k)) hx hb hrt (fun t9 ht9 hW9 => ⟨_, rfl, by rw [show σ 0 = k from by omega], ht9⟩) (fun _ h9 => nomatch h9) dX9_veiledPairs_79 hlk
      · have n_11 := (not_congr (nI_leI (a := (σ 0)) (b := k) (by omega) (by omega))).mp c_11
        refine lv_iconst (v := nI 0) hx hb dX9_veiledPairs_14 (by decide) ?_
        refine lv_istore (lv' := [(4, .int (nI 0)), (0, .ref (a 0)), (1, .int (nI rule)), (3, .int (nI k)), (2, .int (nI (prsC (p1P σ rule) 5 k)))]) hx hb dX9_veiledPairs_15 hl (by decide) rfl (fun ls hl => ?_)
        exact L_17 (5 + 1) 0 (nI (prsC (p1P σ rule) 5 k)) (by omega) (by omega) rfl n_11 ls (lv_sub hl [1, 2, 3, 0, 4] rfl)
  refine lv_iconst (v := nI 0) hx hb dX9_veiledPairs_0 (by decide) ?_
  refine lv_istore_n (lv' := [(2, .int (nI 0)), (0, .ref (a 0)), (1, .int (nI rule))]) hx hb dX9_veiledPairs_1 rfl hl (by decide) rfl (fun ls hl => ?_)
  refine lv_iconst (v := nI 0) hx hb dX9_veiledPairs_2 (by decide) ?_
  refine lv_istore_n (lv' := [(3, .int (nI 0)), (2, .int (nI 0)), (0, .ref (a 0)), (1, .int (nI rule))]) hx hb dX9_veiledPairs_3 rfl hl (by decide) rfl (fun ls hl => ?_)
  exact L_4 ((σ 0) + 1) 0 (nI 0) (by omega) (by omega) rfl ls (lv_sub hl [2, 3, 0, 1] rfl)

abbrev rm_X9_tellsCount : Room := { frames := 6, cells := 0, slots := 0, locals := 140 }
theorem k_X9_tellsCount : Cal yX9_tellsCount wsX9_tellsCount rm_X9_tellsCount cX9_tellsCount 2 (some .int) 1 0 0 := ⟨⟨_, rfl⟩, rfl, rfl, by decide +kernel⟩
set_option maxHeartbeats 4000000 in
set_option maxRecDepth 100000 in
theorem m_X9_tellsCount (l : Launch) (Γ : Gm) (a : Nat → Nat) (v : Nat → Int32) (hs : Int64) (g : Nat → Nat → Int32) (σ : Nat → Nat) (hM : RepM σ (g 0)) (hI : Inv σ) (w : Nat) (hw : w < 10) : MRi l yX9_tellsCount wsX9_tellsCount rm_X9_tellsCount Γ (wMd Γ a v hs g) [.ref (a 0), .int (nI w)] (fun r => r = cntQ σ (v 1) w) := by
  refine mR (cc := cX9_tellsCount) (maxL := 2) (ret := (some .int)) (own := RX9) (by decide) rfl rfl (Nat.le_of_ble_eq_true rfl) ?_
  intro p e s m args below meth c S hrt hlk hK hP ls hl
  obtain ⟨hx, hb, hml, hown, hts⟩ := id S
  have hl : lv_has ls 2 [(0, .ref (a 0)), (1, .int (nI w))] := hl
  have hP : gP Γ (wMd Γ a v hs g) s.heap := hP
  refine lv_iload_n hx hb dX9_tellsCount_0 rfl (lv_at hl 1 rfl) ?_
  rcases (by omega : w = 0 ∨ w = 1 ∨ w = 2 ∨ w = 3 ∨ w = 4 ∨ w = 5 ∨ w = 6 ∨ w = 7 ∨ w = 8 ∨ w = 9) with rfl | rfl | rfl | rfl | rfl | rfl | rfl | rfl | rfl | rfl
  · refine lv_tableIn (off := 51) (tgt := 52) hx hb dX9_tellsCount_1 (by decide) (by decide) (by decide) (by decide) ?_
    refine lv_aload_n hx hb dX9_tellsCount_52 rfl (lv_at hl 0 rfl) ?_
    refine va_get (D := Γ.1) (ci := 9) (v := .ref (a 1)) (C := RX9) (T := TX9) (N := 11) hx hb hts (by decide +kernel) hown hK hP 0 rfl rfl 1 (by decide) (hts (.fieldLink RX9 7 "RowVeilsModel" "s" "[I") (by decide +kernel)) (fun _ h9 => h9) rfl dX9_tellsCount_53 ?_
    refine lv_iload_n hx hb dX9_tellsCount_56 rfl (lv_at hl 1 rfl) ?_
    refine va_iald hx hb hK hP 1 0 rfl rfl (vp_in_nI (by omega) (by omega)) dX9_tellsCount_57 ?_
    refine asi (z := nI (σ 0)) ((congrArg _ (nI_clamp (by omega))).trans (hM _ (by omega))) ?_
    exact W.iret (v := nI (σ 0)) hx hb hrt (fun t9 ht9 hW9 => ⟨_, rfl, rfl, ht9⟩) (fun _ h9 => nomatch h9) dX9_tellsCount_58 hlk
  · refine lv_tableIn (off := 51) (tgt := 52) hx hb dX9_tellsCount_1 (by decide) (by decide) (by decide) (by decide) ?_
    refine lv_aload_n hx hb dX9_tellsCount_52 rfl (lv_at hl 0 rfl) ?_
    refine va_get (D := Γ.1) (ci := 9) (v := .ref (a 1)) (C := RX9) (T := TX9) (N := 11) hx hb hts (by decide +kernel) hown hK hP 0 rfl rfl 1 (by decide) (hts (.fieldLink RX9 7 "RowVeilsModel" "s" "[I") (by decide +kernel)) (fun _ h9 => h9) rfl dX9_tellsCount_53 ?_
    refine lv_iload_n hx hb dX9_tellsCount_56 rfl (lv_at hl 1 rfl) ?_
    refine va_iald hx hb hK hP 1 0 rfl rfl (vp_in_nI (by omega) (by omega)) dX9_tellsCount_57 ?_
    refine asi (z := nI (σ 1)) ((congrArg _ (nI_clamp (by omega))).trans (hM _ (by omega))) ?_
    exact W.iret (v := nI (σ 1)) hx hb hrt (fun t9 ht9 hW9 => ⟨_, rfl, rfl, ht9⟩) (fun _ h9 => nomatch h9) dX9_tellsCount_58 hlk
  · refine lv_tableIn (off := 51) (tgt := 52) hx hb dX9_tellsCount_1 (by decide) (by decide) (by decide) (by decide) ?_
    refine lv_aload_n hx hb dX9_tellsCount_52 rfl (lv_at hl 0 rfl) ?_
    refine va_get (D := Γ.1) (ci := 9) (v := .ref (a 1)) (C := RX9) (T := TX9) (N := 11) hx hb hts (by decide +kernel) hown hK hP 0 rfl rfl 1 (by decide) (hts (.fieldLink RX9 7 "RowVeilsModel" "s" "[I") (by decide +kernel)) (fun _ h9 => h9) rfl dX9_tellsCount_53 ?_
    refine lv_iload_n hx hb dX9_tellsCount_56 rfl (lv_at hl 1 rfl) ?_
    refine va_iald hx hb hK hP 1 0 rfl rfl (vp_in_nI (by omega) (by omega)) dX9_tellsCount_57 ?_
    refine asi (z := nI (σ 2)) ((congrArg _ (nI_clamp (by omega))).trans (hM _ (by omega))) ?_
    exact W.iret (v := nI (σ 2)) hx hb hrt (fun t9 ht9 hW9 => ⟨_, rfl, rfl, ht9⟩) (fun _ h9 => nomatch h9) dX9_tellsCount_58 hlk
  · refine lv_tableIn (off := 51) (tgt := 52) hx hb dX9_tellsCount_1 (by decide) (by decide) (by decide) (by decide) ?_
    refine lv_aload_n hx hb dX9_tellsCount_52 rfl (lv_at hl 0 rfl) ?_
    refine va_get (D := Γ.1) (ci := 9) (v := .ref (a 1)) (C := RX9) (T := TX9) (N := 11) hx hb hts (by decide +kernel) hown hK hP 0 rfl rfl 1 (by decide) (hts (.fieldLink RX9 7 "RowVeilsModel" "s" "[I") (by decide +kernel)) (fun _ h9 => h9) rfl dX9_tellsCount_53 ?_
    refine lv_iload_n hx hb dX9_tellsCount_56 rfl (lv_at hl 1 rfl) ?_
    refine va_iald hx hb hK hP 1 0 rfl rfl (vp_in_nI (by omega) (by omega)) dX9_tellsCount_57 ?_
    refine asi (z := nI (σ 3)) ((congrArg _ (nI_clamp (by omega))).trans (hM _ (by omega))) ?_
    exact W.iret (v := nI (σ 3)) hx hb hrt (fun t9 ht9 hW9 => ⟨_, rfl, rfl, ht9⟩) (fun _ h9 => nomatch h9) dX9_tellsCount_58 hlk
  · refine lv_tableIn (off := 51) (tgt := 52) hx hb dX9_tellsCount_1 (by decide) (by decide) (by decide) (by decide) ?_
    refine lv_aload_n hx hb dX9_tellsCount_52 rfl (lv_at hl 0 rfl) ?_
    refine va_get (D := Γ.1) (ci := 9) (v := .ref (a 1)) (C := RX9) (T := TX9) (N := 11) hx hb hts (by decide +kernel) hown hK hP 0 rfl rfl 1 (by decide) (hts (.fieldLink RX9 7 "RowVeilsModel" "s" "[I") (by decide +kernel)) (fun _ h9 => h9) rfl dX9_tellsCount_53 ?_
    refine lv_iload_n hx hb dX9_tellsCount_56 rfl (lv_at hl 1 rfl) ?_
    refine va_iald hx hb hK hP 1 0 rfl rfl (vp_in_nI (by omega) (by omega)) dX9_tellsCount_57 ?_
    refine asi (z := nI (σ 4)) ((congrArg _ (nI_clamp (by omega))).trans (hM _ (by omega))) ?_
    exact W.iret (v := nI (σ 4)) hx hb hrt (fun t9 ht9 hW9 => ⟨_, rfl, rfl, ht9⟩) (fun _ h9 => nomatch h9) dX9_tellsCount_58 hlk
  · refine lv_tableIn (off := 58) (tgt := 59) hx hb dX9_tellsCount_1 (by decide) (by decide) (by decide) (by decide) ?_
    refine lv_aload_n hx hb dX9_tellsCount_59 rfl (lv_at hl 0 rfl) ?_
    refine lv_iconst (v := nI 3) hx hb dX9_tellsCount_60 (by decide) ?_
    refine lv_iload_n hx hb dX9_tellsCount_61 rfl (lv_at hl 1 rfl) ?_
    refine lv_iadd hx hb dX9_tellsCount_62 ?_
    refine asi (z := nI 8) (nI_add _ _) ?_
    refine lv_iconst (v := nI 5) hx hb dX9_tellsCount_63 (by decide) ?_
    refine lv_isub hx hb dX9_tellsCount_64 ?_
    refine asi (z := nI 3) (by decide) ?_
    refine cRi (As := [.int (nI 3)]) (rest := []) (m_X9_sumOf l Γ a v hs g σ hM hI 3 (by decide)) S k_X9_sumOf gX9_tellsCount_X9_sumOf rfl ⟨Nat.le_of_ble_eq_true rfl, Nat.le_of_ble_eq_true rfl⟩ hK hP [0, 1, 2, 3, 4] rfl 0 (ci := 9) rfl rfl rfl rfl hl.1 (Nat.le_of_ble_eq_true rfl) rfl dX9_tellsCount_65 ⟨Nat.le_of_ble_eq_true rfl, Nat.le_of_ble_eq_true rfl⟩ (fun r hr => ?_)
    subst hr
    exact W.iret (v := nI (sumP σ 3 5)) hx hb hrt (fun t9 ht9 hW9 => ⟨_, rfl, rfl, ht9⟩) (fun _ h9 => nomatch h9) dX9_tellsCount_68 hlk
  · refine lv_tableIn (off := 58) (tgt := 59) hx hb dX9_tellsCount_1 (by decide) (by decide) (by decide) (by decide) ?_
    refine lv_aload_n hx hb dX9_tellsCount_59 rfl (lv_at hl 0 rfl) ?_
    refine lv_iconst (v := nI 3) hx hb dX9_tellsCount_60 (by decide) ?_
    refine lv_iload_n hx hb dX9_tellsCount_61 rfl (lv_at hl 1 rfl) ?_
    refine lv_iadd hx hb dX9_tellsCount_62 ?_
    refine asi (z := nI 9) (nI_add _ _) ?_
    refine lv_iconst (v := nI 5) hx hb dX9_tellsCount_63 (by decide) ?_
    refine lv_isub hx hb dX9_tellsCount_64 ?_
    refine asi (z := nI 4) (by decide) ?_
    refine cRi (As := [.int (nI 4)]) (rest := []) (m_X9_sumOf l Γ a v hs g σ hM hI 4 (by decide)) S k_X9_sumOf gX9_tellsCount_X9_sumOf rfl ⟨Nat.le_of_ble_eq_true rfl, Nat.le_of_ble_eq_true rfl⟩ hK hP [0, 1, 2, 3, 4] rfl 0 (ci := 9) rfl rfl rfl rfl hl.1 (Nat.le_of_ble_eq_true rfl) rfl dX9_tellsCount_65 ⟨Nat.le_of_ble_eq_true rfl, Nat.le_of_ble_eq_true rfl⟩ (fun r hr => ?_)
    subst hr
    exact W.iret (v := nI (sumP σ 4 5)) hx hb hrt (fun t9 ht9 hW9 => ⟨_, rfl, rfl, ht9⟩) (fun _ h9 => nomatch h9) dX9_tellsCount_68 hlk
  · refine lv_tableIn (off := 68) (tgt := 69) hx hb dX9_tellsCount_1 (by decide) (by decide) (by decide) (by decide) ?_
    refine lv_aload_n hx hb dX9_tellsCount_69 rfl (lv_at hl 0 rfl) ?_
    refine va_get (D := Γ.1) (ci := 9) (v := .ref (a 1)) (C := RX9) (T := TX9) (N := 11) hx hb hts (by decide +kernel) hown hK hP 0 rfl rfl 1 (by decide) (hts (.fieldLink RX9 7 "RowVeilsModel" "s" "[I") (by decide +kernel)) (fun _ h9 => h9) rfl dX9_tellsCount_70 ?_
    refine lv_iconst (v := nI 5) hx hb dX9_tellsCount_73 (by decide) ?_
    refine va_iald hx hb hK hP 1 0 rfl rfl (vp_in_nI (by omega) (by omega)) dX9_tellsCount_74 ?_
    refine asi (z := nI (σ 5)) ((congrArg _ (nI_clamp (by omega))).trans (hM _ (by omega))) ?_
    exact W.iret (v := nI (σ 5)) hx hb hrt (fun t9 ht9 hW9 => ⟨_, rfl, rfl, ht9⟩) (fun _ h9 => nomatch h9) dX9_tellsCount_75 hlk
  · refine lv_tableIn (off := 75) (tgt := 76) hx hb dX9_tellsCount_1 (by decide) (by decide) (by decide) (by decide) ?_
    refine lv_aload_n hx hb dX9_tellsCount_76 rfl (lv_at hl 0 rfl) ?_
    refine lv_iconst (v := (-1)) hx hb dX9_tellsCount_77 (by decide) ?_
    refine cRi (As := [.int (-1)]) (rest := []) (m_X9_veiledPairs_all l Γ a v hs g σ hM hI) S k_X9_veiledPairs gX9_tellsCount_X9_veiledPairs rfl ⟨Nat.le_of_ble_eq_true rfl, Nat.le_of_ble_eq_true rfl⟩ hK hP [0, 1, 2, 3, 4] rfl 0 (ci := 9) rfl rfl rfl rfl hl.1 (Nat.le_of_ble_eq_true rfl) rfl dX9_tellsCount_78 ⟨Nat.le_of_ble_eq_true rfl, Nat.le_of_ble_eq_true rfl⟩ (fun r hr => ?_)
    subst hr
    refine asi (z := nI (veilN σ)) rfl ?_
    exact W.iret (v := nI (veilN σ)) hx hb hrt (fun t9 ht9 hW9 => ⟨_, rfl, rfl, ht9⟩) (fun _ h9 => nomatch h9) dX9_tellsCount_81 hlk
  · refine lv_tableOut (tgt := 82) hx hb dX9_tellsCount_1 (by decide) (by decide) ?_
    refine lv_aload_n hx hb dX9_tellsCount_82 rfl (lv_at hl 0 rfl) ?_
    refine va_get (D := Γ.1) (ci := 9) (v := .int (v 1)) (C := RX9) (T := TX9) (N := 11) hx hb hts (by decide +kernel) hown hK hP 0 rfl rfl 3 (by decide) (hts (.fieldLink RX9 34 "RowVeilsModel" "savedMany" "I") (by decide +kernel)) (fun _ h9 => h9) rfl dX9_tellsCount_83 ?_
    exact W.iret (v := v 1) hx hb hrt (fun t9 ht9 hW9 => ⟨_, rfl, rfl, ht9⟩) (fun _ h9 => nomatch h9) dX9_tellsCount_86 hlk

abbrev rm_X9_hidden : Room := { frames := 6, cells := 0, slots := 0, locals := 140 }
theorem k_X9_hidden : Cal yX9_hidden wsX9_hidden rm_X9_hidden cX9_hidden 2 (some .int) 1 0 0 := ⟨⟨_, rfl⟩, rfl, rfl, by decide +kernel⟩
set_option maxHeartbeats 4000000 in
set_option maxRecDepth 100000 in
theorem m_X9_hidden (l : Launch) (Γ : Gm) (a : Nat → Nat) (v : Nat → Int32) (hs : Int64) (g : Nat → Nat → Int32) (σ : Nat → Nat) (hM : RepM σ (g 0)) (hI : Inv σ) (rule : Nat) (hr4 : rule < 4) : MRi l yX9_hidden wsX9_hidden rm_X9_hidden Γ (wMd Γ a v hs g) [.ref (a 0), .int (nI rule)] (fun r => r = nI (hidQ σ rule)) := by
  refine mR (cc := cX9_hidden) (maxL := 2) (ret := (some .int)) (own := RX9) (by decide) rfl rfl (Nat.le_of_ble_eq_true rfl) ?_
  intro p e s m args below meth c S hrt hlk hK hP ls hl
  obtain ⟨hx, hb, hml, hown, hts⟩ := id S
  have hu := hI.rules
  have hl : lv_has ls 2 [(0, .ref (a 0)), (1, .int (nI rule))] := hl
  have hP : gP Γ (wMd Γ a v hs g) s.heap := hP
  refine lv_aload_n hx hb dX9_hidden_0 rfl (lv_at hl 0 rfl) ?_
  refine va_get (D := Γ.1) (ci := 9) (v := .ref (a 1)) (C := RX9) (T := TX9) (N := 11) hx hb hts (by decide +kernel) hown hK hP 0 rfl rfl 1 (by decide) (hts (.fieldLink RX9 7 "RowVeilsModel" "s" "[I") (by decide +kernel)) (fun _ h9 => h9) rfl dX9_hidden_1 ?_
  refine lv_iconst (v := nI 1) hx hb dX9_hidden_4 (by decide) ?_
  refine va_iald hx hb hK hP 1 0 rfl rfl (vp_in_nI (by omega) (by omega)) dX9_hidden_5 ?_
  refine asi (z := nI (σ 1)) ((congrArg _ (nI_clamp (by omega))).trans (hM _ (by omega))) ?_
  refine lv_iload_n hx hb dX9_hidden_6 rfl (lv_at hl 1 rfl) ?_
  refine lv_ishr hx hb dX9_hidden_7 ?_
  refine asi (z := nI (σ 1 >>> rule)) (shr_n (by omega) (by omega)) ?_
  refine lv_iconst (v := nI 1) hx hb dX9_hidden_8 (by decide) ?_
  refine lv_iand hx hb dX9_hidden_9 ?_
  refine asi (z := nI ((σ 1 >>> rule) % 2)) (by rw [nI_and, Nat.and_one_is_mod]) ?_
  refine lv_iconst (v := nI 1) hx hb dX9_hidden_10 (by decide) ?_
  refine lv_icmp_ne (tgt := 22) hx hb dX9_hidden_11 (by decide) (fun c_11 => ?_) (fun c_11 => ?_)
  · have n_11 : (σ 1).testBit rule = false := tb_f (fun h => c_11 (by rw [h]))
    refine lv_iconst (v := nI 0) hx hb dX9_hidden_22 (by decide) ?_
    exact W.iret (v := nI 0) hx hb hrt (fun t9 ht9 hW9 => ⟨_, rfl, by rw [hid_0 n_11], ht9⟩) (fun _ h9 => nomatch h9) dX9_hidden_23 hlk
  · refine lv_aload_n hx hb dX9_hidden_14 rfl (lv_at hl 0 rfl) ?_
    refine lv_iload_n hx hb dX9_hidden_15 rfl (lv_at hl 1 rfl) ?_
    refine cRi (As := [.int (nI rule)]) (rest := []) (m_X9_veiledPairs_one l Γ a v hs g σ hM hI rule hr4) S k_X9_veiledPairs gX9_hidden_X9_veiledPairs rfl ⟨Nat.le_of_ble_eq_true rfl, Nat.le_of_ble_eq_true rfl⟩ hK hP [0, 1, 2, 3, 4] rfl 0 (ci := 9) rfl rfl rfl rfl hl.1 (Nat.le_of_ble_eq_true rfl) rfl dX9_hidden_16 ⟨Nat.le_of_ble_eq_true rfl, Nat.le_of_ble_eq_true rfl⟩ (fun r hr => ?_)
    subst hr
    refine lv_goto (tgt := 23) hx hb dX9_hidden_19 (by decide) ?_
    exact W.iret (v := nI (prsC (p1P σ rule) 5 (σ 0))) hx hb hrt (fun t9 ht9 hW9 => ⟨_, rfl, by rw [hid_C], ht9⟩) (fun _ h9 => nomatch h9) dX9_hidden_23 hlk

abbrev rm_X9_would : Room := { frames := 7, cells := 0, slots := 0, locals := 162 }
theorem k_X9_would : Cal yX9_would wsX9_would rm_X9_would cX9_would 7 (some .int) 5 0 0 := ⟨⟨_, rfl⟩, rfl, rfl, by decide +kernel⟩
set_option maxHeartbeats 4000000 in
set_option maxRecDepth 100000 in
theorem m_X9_would (l : Launch) (Γ : Gm) (a : Nat → Nat) (v : Nat → Int32) (hs : Int64) (g : Nat → Nat → Int32) (σ : Nat → Nat) (hM : RepM σ (g 0)) (hI : Inv σ) (p0 : Nat) (hp : p0 < 5) (pl : Int32) (lo hi2 : Nat) (hlo : lo < 2 ^ 31) (hhi : hi2 < 2 ^ 31) (w : Nat) (hw : w < 4) : MRi l yX9_would wsX9_would rm_X9_would Γ (wMd Γ a v hs g) [.ref (a 0), .int (nI p0), .int pl, .int (nI lo), .int (nI hi2), .int (nI w)] (fun r => r = wouQ σ p0 pl lo hi2 w) := by
  refine mR (cc := cX9_would) (maxL := 7) (ret := (some .int)) (own := RX9) (by decide) rfl rfl (Nat.le_of_ble_eq_true rfl) ?_
  intro p e s m args below meth c S hrt hlk hK hP ls hl
  obtain ⟨hx, hb, hml, hown, hts⟩ := id S
  have hsq := seenQ_lt hI p0 pl lo hi2
  have hl : lv_has ls 7 [(0, .ref (a 0)), (1, .int (nI p0)), (2, .int pl), (3, .int (nI lo)), (4, .int (nI hi2)), (5, .int (nI w))] := hl
  have hP : gP Γ (wMd Γ a v hs g) s.heap := hP
  refine lv_aload_n hx hb dX9_would_0 rfl (lv_at hl 0 rfl) ?_
  refine lv_iload_n hx hb dX9_would_1 rfl (lv_at hl 1 rfl) ?_
  refine lv_iload_n hx hb dX9_would_2 rfl (lv_at hl 2 rfl) ?_
  refine lv_iload_n hx hb dX9_would_3 rfl (lv_at hl 3 rfl) ?_
  refine lv_iload hx hb dX9_would_4 (lv_at hl 4 rfl) ?_
  refine cRi (As := [.int (nI p0), .int pl, .int (nI lo), .int (nI hi2)]) (rest := []) (m_X9_asked l Γ a v hs g σ hM hI p0 hp pl lo hi2 hlo hhi) S k_X9_asked gX9_would_X9_asked rfl ⟨Nat.le_of_ble_eq_true rfl, Nat.le_of_ble_eq_true rfl⟩ hK hP [0, 1, 2, 3, 4] rfl 0 (ci := 9) rfl rfl rfl rfl hl.1 (Nat.le_of_ble_eq_true rfl) rfl dX9_would_6 ⟨Nat.le_of_ble_eq_true rfl, Nat.le_of_ble_eq_true rfl⟩ (fun r hr => ?_)
  subst hr
  refine lv_istore (lv' := [(6, .int (nI (seenQ σ p0 pl lo hi2))), (0, .ref (a 0)), (1, .int (nI p0)), (2, .int pl), (3, .int (nI lo)), (4, .int (nI hi2)), (5, .int (nI w))]) hx hb dX9_would_9 hl (by decide) rfl (fun ls hl => ?_)
  refine lv_iload hx hb dX9_would_11 (lv_at hl 6 rfl) ?_
  rcases (by omega : w = 0 ∨ w = 1 ∨ w = 2 ∨ w = 3) with rfl | rfl | rfl | rfl
  · refine lv_tableIn (off := 27) (tgt := 40) hx hb dX9_would_13 (by decide) (by decide) (by decide) (by decide) ?_
    refine lv_aload_n hx hb dX9_would_40 rfl (lv_at hl 1 rfl) ?_
    refine lv_iload_n hx hb dX9_would_41 rfl (lv_at hl 2 rfl) ?_
    refine lv_iload hx hb dX9_would_42 (lv_at hl 0 rfl) ?_
    refine cRi (As := [.int (nI p0), .int (nI (seenQ σ p0 pl lo hi2))]) (rest := []) (m_X9_countTold l Γ a v hs g σ hM hI p0 (seenQ σ p0 pl lo hi2) hp (seenQ_lt hI _ _ _ _)) S k_X9_countTold gX9_would_X9_countTold rfl ⟨Nat.le_of_ble_eq_true rfl, Nat.le_of_ble_eq_true rfl⟩ hK hP [0, 1, 2, 3, 4] rfl 0 (ci := 9) rfl rfl rfl rfl hl.1 (Nat.le_of_ble_eq_true rfl) rfl dX9_would_44 ⟨Nat.le_of_ble_eq_true rfl, Nat.le_of_ble_eq_true rfl⟩ (fun r hr => ?_)
    subst hr
    exact W.iret (v := cAns σ p0 (seenQ σ p0 pl lo hi2)) hx hb hrt (fun t9 ht9 hW9 => ⟨_, rfl, rfl, ht9⟩) (fun _ h9 => nomatch h9) dX9_would_47 hlk
  · refine lv_tableIn (off := 35) (tgt := 48) hx hb dX9_would_13 (by decide) (by decide) (by decide) (by decide) ?_
    refine lv_aload_n hx hb dX9_would_48 rfl (lv_at hl 1 rfl) ?_
    refine lv_iload hx hb dX9_would_49 (lv_at hl 0 rfl) ?_
    refine cRi (As := [.int (nI (seenQ σ p0 pl lo hi2))]) (rest := []) (m_X9_sumTold l Γ a v hs g σ hM hI (seenQ σ p0 pl lo hi2) (seenQ_lt hI _ _ _ _)) S k_X9_sumTold gX9_would_X9_sumTold rfl ⟨Nat.le_of_ble_eq_true rfl, Nat.le_of_ble_eq_true rfl⟩ hK hP [0, 1, 2, 3, 4] rfl 0 (ci := 9) rfl rfl rfl rfl hl.1 (Nat.le_of_ble_eq_true rfl) rfl dX9_would_51 ⟨Nat.le_of_ble_eq_true rfl, Nat.le_of_ble_eq_true rfl⟩ (fun r hr => ?_)
    subst hr
    exact W.iret (v := sAns σ (seenQ σ p0 pl lo hi2)) hx hb hrt (fun t9 ht9 hW9 => ⟨_, rfl, rfl, ht9⟩) (fun _ h9 => nomatch h9) dX9_would_54 hlk
  · refine lv_tableIn (off := 42) (tgt := 55) hx hb dX9_would_13 (by decide) (by decide) (by decide) (by decide) ?_
    refine lv_aload_n hx hb dX9_would_55 rfl (lv_at hl 1 rfl) ?_
    refine lv_iload_n hx hb dX9_would_56 rfl (lv_at hl 2 rfl) ?_
    refine lv_iload hx hb dX9_would_57 (lv_at hl 0 rfl) ?_
    refine cRi (As := [.int (nI p0), .int (nI (seenQ σ p0 pl lo hi2))]) (rest := []) (m_X9_givesAway l Γ a v hs g σ hM hI p0 (seenQ σ p0 pl lo hi2) hp (seenQ_lt hI _ _ _ _)) S k_X9_givesAway gX9_would_X9_givesAway rfl ⟨Nat.le_of_ble_eq_true rfl, Nat.le_of_ble_eq_true rfl⟩ hK hP [0, 1, 2, 3, 4] rfl 0 (ci := 9) rfl rfl rfl rfl hl.1 (Nat.le_of_ble_eq_true rfl) rfl dX9_would_59 ⟨Nat.le_of_ble_eq_true rfl, Nat.le_of_ble_eq_true rfl⟩ (fun r hr => ?_)
    subst hr
    refine lv_if_eq (tgt := 69) hx hb dX9_would_62 (by decide) (fun c_62 => ?_) (fun c_62 => ?_)
    · have n_62 := bI_z.mp c_62
      refine lv_iconst (v := nI 0) hx hb dX9_would_69 (by decide) ?_
      exact W.iret (v := nI 0) hx hb hrt (fun t9 ht9 hW9 => ⟨_, rfl, bf n_62, ht9⟩) (fun _ h9 => nomatch h9) dX9_would_70 hlk
    · have n_62 := bI_nz.mp c_62
      refine lv_iconst (v := nI 1) hx hb dX9_would_65 (by decide) ?_
      refine lv_goto (tgt := 70) hx hb dX9_would_66 (by decide) ?_
      exact W.iret (v := nI 1) hx hb hrt (fun t9 ht9 hW9 => ⟨_, rfl, bt n_62, ht9⟩) (fun _ h9 => nomatch h9) dX9_would_70 hlk
  · refine lv_tableOut (tgt := 71) hx hb dX9_would_13 (by decide) (by decide) ?_
    refine lv_aload_n hx hb dX9_would_71 rfl (lv_at hl 1 rfl) ?_
    refine lv_iload_n hx hb dX9_would_72 rfl (lv_at hl 3 rfl) ?_
    refine lv_iload_n hx hb dX9_would_73 rfl (lv_at hl 4 rfl) ?_
    refine lv_iload hx hb dX9_would_74 (lv_at hl 5 rfl) ?_
    refine cRi (As := [.int pl, .int (nI lo), .int (nI hi2)]) (rest := []) (m_X9_rowsOf l Γ a v hs g σ hM hI pl lo hi2 hlo hhi) S k_X9_rowsOf gX9_would_X9_rowsOf rfl ⟨Nat.le_of_ble_eq_true rfl, Nat.le_of_ble_eq_true rfl⟩ hK hP [0, 1, 2, 3, 4] rfl 0 (ci := 9) rfl rfl rfl rfl hl.1 (Nat.le_of_ble_eq_true rfl) rfl dX9_would_76 ⟨Nat.le_of_ble_eq_true rfl, Nat.le_of_ble_eq_true rfl⟩ (fun r hr => ?_)
    subst hr
    refine cSi (As := [.int (nI (bset (rowQ σ pl lo hi2) (σ 0)))]) (rest := []) (m_X9_ones l (bset (rowQ σ pl lo hi2) (σ 0)) (Nat.lt_of_lt_of_le (bset_lt _ _) (Nat.le_trans (Nat.pow_le_pow_right (by decide) hI.n) (by decide)))) S k_X9_ones gX9_would_X9_ones ⟨Nat.le_of_ble_eq_true rfl, Nat.le_of_ble_eq_true rfl⟩ rfl hl.1 (Nat.le_of_ble_eq_true rfl) rfl dX9_would_79 ⟨Nat.le_of_ble_eq_true rfl, Nat.le_of_ble_eq_true rfl⟩ (fun r hr => ?_)
    subst hr
    exact W.iret (v := nI (ones (bset (rowQ σ pl lo hi2) (σ 0)))) hx hb hrt (fun t9 ht9 hW9 => ⟨_, rfl, by rw [rowM_ones hI]; rfl, ht9⟩) (fun _ h9 => nomatch h9) dX9_would_82 hlk

abbrev rm_X9_blindestOne : Room := { frames := 6, cells := 0, slots := 0, locals := 138 }
theorem k_X9_blindestOne : Cal yX9_blindestOne wsX9_blindestOne rm_X9_blindestOne cX9_blindestOne 3 (some .int) 0 0 0 := ⟨⟨_, rfl⟩, rfl, rfl, by decide +kernel⟩
set_option maxHeartbeats 4000000 in
set_option maxRecDepth 100000 in
theorem m_X9_blindestOne (l : Launch) (Γ : Gm) (a : Nat → Nat) (v : Nat → Int32) (hs : Int64) (g : Nat → Nat → Int32) (σ : Nat → Nat) (hM : RepM σ (g 0)) (hI : Inv σ)  : MRi l yX9_blindestOne wsX9_blindestOne rm_X9_blindestOne Γ (wMd Γ a v hs g) [.ref (a 0)] (fun r => r = nI (blF (seenN σ) 5)) := by
  refine mR (cc := cX9_blindestOne) (maxL := 3) (ret := (some .int)) (own := RX9) (by decide) rfl rfl (Nat.le_of_ble_eq_true rfl) ?_
  intro p e s m args below meth c S hrt hlk hK hP ls hl
  obtain ⟨hx, hb, hml, hown, hts⟩ := id S
  have hs16 : ∀ p, seenN σ p ≤ 16 := fun p => ones_le _
  have hl : lv_has ls 3 [(0, .ref (a 0))] := hl
  have hP : gP Γ (wMd Γ a v hs g) s.heap := hP
  have L_4 : ∀ (fuel : Nat), ∀ (k : Nat) (h1k : 1 ≤ k) (hk : k ≤ 5) (hfk : 5 - k < fuel), ∀ ls : Array Slot, lv_has ls 3 [(0, .ref (a 0)), (1, .int (nI (blF (seenN σ) k))), (2, .int (nI k))] → W p l e rm_X9_blindestOne s m args below meth c s.heap [] 0 0 (MQ below (vp_Si (fun r => r = nI (blF (seenN σ) 5))) args s 0 0 (fun _ => False)) (F0 m 4 ls []) := by
    intro fuel
    induction fuel with
    | zero => intro k h1k hk hfk; exact absurd hfk (by omega)
    | succ fuel ih_4 =>
      intro k h1k hk hfk ls hl
      have L_33 : ∀ (y : Int32) (e_y : y = nI (blF (seenN σ) (k + 1))) (n_6 : ¬ 5 ≤ k), ∀ ls : Array Slot, lv_has ls 3 [(0, .ref (a 0)), (2, .int (nI k))] → W p l e rm_X9_blindestOne s m args below meth c s.heap [] 0 0 (MQ below (vp_Si (fun r => r = nI (blF (seenN σ) 5))) args s 0 0 (fun _ => False)) (F0 m 33 ls [.int y]) := by
        intro y e_y n_6 ls hl
        subst e_y
        refine lv_istore_n (lv' := [(1, .int (nI (blF (seenN σ) (k + 1)))), (0, .ref (a 0)), (2, .int (nI k))]) hx hb dX9_blindestOne_33 rfl hl (by decide) rfl (fun ls hl => ?_)
        refine lv_iinc (v := nI (k + 1)) (lv' := [(2, .int (nI (k + 1))), (1, .int (nI (blF (seenN σ) (k + 1)))), (0, .ref (a 0))]) hx hb dX9_blindestOne_34 hl (k := 2) rfl (nI_add _ _) (by decide) rfl (fun ls hl => ?_)
        refine lv_goto (tgt := 4) hx hb dX9_blindestOne_37 (by decide) ?_
        exact ih_4 (k + 1) (by omega) (by omega) (by omega) ls (lv_sub hl [2, 1, 0] rfl)
      refine lv_iload_n hx hb dX9_blindestOne_4 rfl (lv_at hl 2 rfl) ?_
      refine lv_iconst (v := nI 5) hx hb dX9_blindestOne_5 (by decide) ?_
      refine lv_icmp_ge (tgt := 40) hx hb dX9_blindestOne_6 (by decide) (fun c_6 => ?_) (fun c_6 => ?_)
      · have n_6 := (nI_leI (a := 5) (b := k) (by omega) (by omega)).mp c_6
        refine lv_iload_n hx hb dX9_blindestOne_40 rfl (lv_at hl 1 rfl) ?_
        exact W.iret (v := nI (blF (seenN σ) k)) hx hb hrt (fun t9 ht9 hW9 => ⟨_, rfl, by rw [show 5 = k from by omega], ht9⟩) (fun _ h9 => nomatch h9) dX9_blindestOne_41 hlk
      · have n_6 := (not_congr (nI_leI (a := 5) (b := k) (by omega) (by omega))).mp c_6
        have hbf := blF_lt (seenN σ) h1k
        refine lv_aload_n hx hb dX9_blindestOne_9 rfl (lv_at hl 0 rfl) ?_
        refine lv_iload_n hx hb dX9_blindestOne_10 rfl (lv_at hl 2 rfl) ?_
        refine cRi (As := [.int (nI k)]) (rest := []) (m_X9_seenBy l Γ a v hs g σ hM hI k (by omega)) S k_X9_seenBy gX9_blindestOne_X9_seenBy rfl ⟨Nat.le_of_ble_eq_true rfl, Nat.le_of_ble_eq_true rfl⟩ hK hP [0, 1, 2, 3, 4] rfl 0 (ci := 9) rfl rfl rfl rfl hl.1 (Nat.le_of_ble_eq_true rfl) rfl dX9_blindestOne_11 ⟨Nat.le_of_ble_eq_true rfl, Nat.le_of_ble_eq_true rfl⟩ (fun r hr => ?_)
        subst hr
        refine cSi (As := [.int (nI (sAll σ k))]) (rest := []) (m_X9_ones l (sAll σ k) (Nat.lt_trans (seenQ_lt hI _ _ _ _) (by decide))) S k_X9_ones gX9_blindestOne_X9_ones ⟨Nat.le_of_ble_eq_true rfl, Nat.le_of_ble_eq_true rfl⟩ rfl hl.1 (Nat.le_of_ble_eq_true rfl) rfl dX9_blindestOne_14 ⟨Nat.le_of_ble_eq_true rfl, Nat.le_of_ble_eq_true rfl⟩ (fun r hr => ?_)
        subst hr
        refine lv_aload_n hx hb dX9_blindestOne_17 rfl (lv_at hl 0 rfl) ?_
        refine lv_iload_n hx hb dX9_blindestOne_18 rfl (lv_at hl 1 rfl) ?_
        refine cRi (As := [.int (nI (blF (seenN σ) k))]) (rest := [.int (nI (ones (sAll σ k)))]) (m_X9_seenBy l Γ a v hs g σ hM hI (blF (seenN σ) k) (by omega)) S k_X9_seenBy gX9_blindestOne_X9_seenBy rfl ⟨Nat.le_of_ble_eq_true rfl, Nat.le_of_ble_eq_true rfl⟩ hK hP [0, 1, 2, 3, 4] rfl 0 (ci := 9) rfl rfl rfl rfl hl.1 (Nat.le_of_ble_eq_true rfl) rfl dX9_blindestOne_19 ⟨Nat.le_of_ble_eq_true rfl, Nat.le_of_ble_eq_true rfl⟩ (fun r hr => ?_)
        subst hr
        refine cSi (As := [.int (nI (sAll σ (blF (seenN σ) k)))]) (rest := [.int (nI (ones (sAll σ k)))]) (m_X9_ones l (sAll σ (blF (seenN σ) k)) (Nat.lt_trans (seenQ_lt hI _ _ _ _) (by decide))) S k_X9_ones gX9_blindestOne_X9_ones ⟨Nat.le_of_ble_eq_true rfl, Nat.le_of_ble_eq_true rfl⟩ rfl hl.1 (Nat.le_of_ble_eq_true rfl) rfl dX9_blindestOne_22 ⟨Nat.le_of_ble_eq_true rfl, Nat.le_of_ble_eq_true rfl⟩ (fun r hr => ?_)
        subst hr
        have hs1 := hs16 k
        have hs2 := hs16 (blF (seenN σ) k)
        refine lv_icmp_ge (tgt := 32) hx hb dX9_blindestOne_25 (by decide) (fun c_25 => ?_) (fun c_25 => ?_)
        · have n_25 := (nI_leI (a := (seenN σ (blF (seenN σ) k))) (b := (seenN σ k)) (by omega) (by omega)).mp c_25
          refine lv_iload_n hx hb dX9_blindestOne_32 rfl (lv_at hl 1 rfl) ?_
          exact L_33 (nI (blF (seenN σ) k)) (by first | rw [bl_lt h1k (by omega)] | rw [bl_ge h1k (by omega)]) n_6 ls (lv_sub hl [0, 2] rfl)
        · have n_25 := (not_congr (nI_leI (a := (seenN σ (blF (seenN σ) k))) (b := (seenN σ k)) (by omega) (by omega))).mp c_25
          refine lv_iload_n hx hb dX9_blindestOne_28 rfl (lv_at hl 2 rfl) ?_
          refine lv_goto (tgt := 33) hx hb dX9_blindestOne_29 (by decide) ?_
          exact L_33 (nI k) (by first | rw [bl_lt h1k (by omega)] | rw [bl_ge h1k (by omega)]) n_6 ls (lv_sub hl [0, 2] rfl)
  refine lv_iconst (v := nI 0) hx hb dX9_blindestOne_0 (by decide) ?_
  refine lv_istore_n (lv' := [(1, .int (nI 0)), (0, .ref (a 0))]) hx hb dX9_blindestOne_1 rfl hl (by decide) rfl (fun ls hl => ?_)
  refine lv_iconst (v := nI 1) hx hb dX9_blindestOne_2 (by decide) ?_
  refine lv_istore_n (lv' := [(2, .int (nI 1)), (1, .int (nI 0)), (0, .ref (a 0))]) hx hb dX9_blindestOne_3 rfl hl (by decide) rfl (fun ls hl => ?_)
  exact L_4 5 1 (by omega) (by omega) (by omega) ls (lv_sub hl [2, 1, 0] rfl)

abbrev rm_X9_neededBy : Room := { frames := 7, cells := 0, slots := 0, locals := 162 }
theorem k_X9_neededBy : Cal yX9_neededBy wsX9_neededBy rm_X9_neededBy cX9_neededBy 6 (some .int) 2 0 0 := ⟨⟨_, rfl⟩, rfl, rfl, by decide +kernel⟩
set_option maxHeartbeats 4000000 in
set_option maxRecDepth 100000 in
theorem m_X9_neededBy (l : Launch) (Γ : Gm) (a : Nat → Nat) (v : Nat → Int32) (hs : Int64) (g : Nat → Nat → Int32) (σ : Nat → Nat) (hM : RepM σ (g 0)) (hI : Inv σ) (p0 : Nat) (hp : p0 < 5) (pl : Int32) : MRi l yX9_neededBy wsX9_neededBy rm_X9_neededBy Γ (wMd Γ a v hs g) [.ref (a 0), .int (nI p0), .int pl] (fun r => r = needQ σ p0 pl) := by
  refine mR (cc := cX9_neededBy) (maxL := 6) (ret := (some .int)) (own := RX9) (by decide) rfl rfl (Nat.le_of_ble_eq_true rfl) ?_
  intro p e s m args below meth c S hrt hlk hK hP ls hl
  obtain ⟨hx, hb, hml, hown, hts⟩ := id S
  have hn := hI.n
  have h1 : rowM σ pl 0 99 ≤ 16 := Nat.le_trans (cnt_le _ _) hI.n
  have h2 := ones_le (seenQ σ p0 pl 0 99)
  have hl : lv_has ls 6 [(0, .ref (a 0)), (1, .int (nI p0)), (2, .int pl)] := hl
  have hP : gP Γ (wMd Γ a v hs g) s.heap := hP
  have L_29 : ∀ (fuel : Nat), ∀ (k : Nat) (h1k : 1 ≤ k) (hk : k ≤ 10) (hfk : 10 - k < fuel) (hno : needQ σ p0 pl = needF (rowM σ pl 0 99) (ones (seenQ σ p0 pl 0 99)) (10 - k) k), ∀ ls : Array Slot, lv_has ls 6 [(0, .ref (a 0)), (1, .int (nI p0)), (2, .int pl), (3, .int (nI (rowM σ pl 0 99))), (4, .int (nI (ones (seenQ σ p0 pl 0 99)))), (5, .int (nI k))] → W p l e rm_X9_neededBy s m args below meth c s.heap [] 0 0 (MQ below (vp_Si (fun r => r = needQ σ p0 pl)) args s 0 0 (fun _ => False)) (F0 m 29 ls []) := by
    intro fuel
    induction fuel with
    | zero => intro k h1k hk hfk hno; exact absurd hfk (by omega)
    | succ fuel ih_29 =>
      intro k h1k hk hfk hno ls hl
      refine lv_iload hx hb dX9_neededBy_29 (lv_at hl 5 rfl) ?_
      refine lv_bipush (v := nI 10) hx hb dX9_neededBy_31 (by decide) ?_
      refine lv_icmp_ge (tgt := 57) hx hb dX9_neededBy_33 (by decide) (fun c_33 => ?_) (fun c_33 => ?_)
      · have n_33 := (nI_leI (a := 10) (b := k) (by omega) (by omega)).mp c_33
        refine lv_iconst (v := (-1)) hx hb dX9_neededBy_57 (by decide) ?_
        exact W.iret (v := (-1)) hx hb hrt (fun t9 ht9 hW9 => ⟨_, rfl, by rw [hno, show 10 - k = 0 from by omega]; rfl, ht9⟩) (fun _ h9 => nomatch h9) dX9_neededBy_58 hlk
      · have n_33 := (not_congr (nI_leI (a := 10) (b := k) (by omega) (by omega))).mp c_33
        refine lv_iload_n hx hb dX9_neededBy_36 rfl (lv_at hl 3 rfl) ?_
        refine lv_iload hx hb dX9_neededBy_37 (lv_at hl 5 rfl) ?_
        refine lv_idiv hx hb dX9_neededBy_39 (nI_ne0 (by omega) (by omega)) ?_
        refine asi (z := nI (rowM σ pl 0 99 / k)) (pk_div (by omega) (by omega) (by omega)) ?_
        refine lv_iload hx hb dX9_neededBy_40 (lv_at hl 4 rfl) ?_
        refine lv_iload hx hb dX9_neededBy_42 (lv_at hl 5 rfl) ?_
        refine lv_idiv hx hb dX9_neededBy_44 (nI_ne0 (by omega) (by omega)) ?_
        refine asi (z := nI (ones (seenQ σ p0 pl 0 99) / k)) (pk_div (by omega) (by omega) (by omega)) ?_
        have hd1 := Nat.div_le_self (rowM σ pl 0 99) k
        have hd2 := Nat.div_le_self (ones (seenQ σ p0 pl 0 99)) k
        refine lv_icmp_ne (tgt := 51) hx hb dX9_neededBy_45 (by decide) (fun c_45 => ?_) (fun c_45 => ?_)
        · have n_45 := (not_congr (nI_eq (a := (rowM σ pl 0 99 / k)) (b := (ones (seenQ σ p0 pl 0 99) / k)) (by omega) (by omega))).mp c_45
          refine lv_iinc (v := nI (k + 1)) (lv' := [(5, .int (nI (k + 1))), (0, .ref (a 0)), (1, .int (nI p0)), (2, .int pl), (3, .int (nI (rowM σ pl 0 99))), (4, .int (nI (ones (seenQ σ p0 pl 0 99))))]) hx hb dX9_neededBy_51 hl (k := 5) rfl (nI_add _ _) (by decide) rfl (fun ls hl => ?_)
          refine lv_goto (tgt := 29) hx hb dX9_neededBy_54 (by decide) ?_
          exact ih_29 (k + 1) (by omega) (by omega) (by omega) (by rw [hno]; exact needF_s (by omega) n_45) ls (lv_sub hl [1, 2, 3, 4, 5, 0] rfl)
        · have n_45 := (nI_eq (a := (rowM σ pl 0 99 / k)) (b := (ones (seenQ σ p0 pl 0 99) / k)) (by omega) (by omega)).mp c_45
          refine lv_iload hx hb dX9_neededBy_48 (lv_at hl 5 rfl) ?_
          exact W.iret (v := nI k) hx hb hrt (fun t9 ht9 hW9 => ⟨_, rfl, by rw [hno, needF_t (by omega) n_45], ht9⟩) (fun _ h9 => nomatch h9) dX9_neededBy_50 hlk
  refine lv_aload_n hx hb dX9_neededBy_0 rfl (lv_at hl 0 rfl) ?_
  refine lv_iload_n hx hb dX9_neededBy_1 rfl (lv_at hl 2 rfl) ?_
  refine lv_iconst (v := nI 0) hx hb dX9_neededBy_2 (by decide) ?_
  refine lv_bipush (v := nI 99) hx hb dX9_neededBy_3 (by decide) ?_
  refine cRi (As := [.int pl, .int (nI 0), .int (nI 99)]) (rest := []) (m_X9_rowsOf l Γ a v hs g σ hM hI pl 0 99 (by decide) (by decide)) S k_X9_rowsOf gX9_neededBy_X9_rowsOf rfl ⟨Nat.le_of_ble_eq_true rfl, Nat.le_of_ble_eq_true rfl⟩ hK hP [0, 1, 2, 3, 4] rfl 0 (ci := 9) rfl rfl rfl rfl hl.1 (Nat.le_of_ble_eq_true rfl) rfl dX9_neededBy_5 ⟨Nat.le_of_ble_eq_true rfl, Nat.le_of_ble_eq_true rfl⟩ (fun r hr => ?_)
  subst hr
  refine cSi (As := [.int (nI (bset (rowQ σ pl 0 99) (σ 0)))]) (rest := []) (m_X9_ones l (bset (rowQ σ pl 0 99) (σ 0)) (Nat.lt_of_lt_of_le (bset_lt _ _) (Nat.le_trans (Nat.pow_le_pow_right (by decide) hI.n) (by decide)))) S k_X9_ones gX9_neededBy_X9_ones ⟨Nat.le_of_ble_eq_true rfl, Nat.le_of_ble_eq_true rfl⟩ rfl hl.1 (Nat.le_of_ble_eq_true rfl) rfl dX9_neededBy_8 ⟨Nat.le_of_ble_eq_true rfl, Nat.le_of_ble_eq_true rfl⟩ (fun r hr => ?_)
  subst hr
  refine asi (z := nI (rowM σ pl 0 99)) (by rw [rowM_ones hI]) ?_
  refine lv_istore_n (lv' := [(3, .int (nI (rowM σ pl 0 99))), (0, .ref (a 0)), (1, .int (nI p0)), (2, .int pl)]) hx hb dX9_neededBy_11 rfl hl (by decide) rfl (fun ls hl => ?_)
  refine lv_aload_n hx hb dX9_neededBy_12 rfl (lv_at hl 1 rfl) ?_
  refine lv_iload_n hx hb dX9_neededBy_13 rfl (lv_at hl 2 rfl) ?_
  refine lv_iload_n hx hb dX9_neededBy_14 rfl (lv_at hl 3 rfl) ?_
  refine lv_iconst (v := nI 0) hx hb dX9_neededBy_15 (by decide) ?_
  refine lv_bipush (v := nI 99) hx hb dX9_neededBy_16 (by decide) ?_
  refine cRi (As := [.int (nI p0), .int pl, .int (nI 0), .int (nI 99)]) (rest := []) (m_X9_asked l Γ a v hs g σ hM hI p0 hp pl 0 99 (by decide) (by decide)) S k_X9_asked gX9_neededBy_X9_asked rfl ⟨Nat.le_of_ble_eq_true rfl, Nat.le_of_ble_eq_true rfl⟩ hK hP [0, 1, 2, 3, 4] rfl 0 (ci := 9) rfl rfl rfl rfl hl.1 (Nat.le_of_ble_eq_true rfl) rfl dX9_neededBy_18 ⟨Nat.le_of_ble_eq_true rfl, Nat.le_of_ble_eq_true rfl⟩ (fun r hr => ?_)
  subst hr
  refine cSi (As := [.int (nI (seenQ σ p0 pl 0 99))]) (rest := []) (m_X9_ones l (seenQ σ p0 pl 0 99) (Nat.lt_trans (seenQ_lt hI _ _ _ _) (by decide))) S k_X9_ones gX9_neededBy_X9_ones ⟨Nat.le_of_ble_eq_true rfl, Nat.le_of_ble_eq_true rfl⟩ rfl hl.1 (Nat.le_of_ble_eq_true rfl) rfl dX9_neededBy_21 ⟨Nat.le_of_ble_eq_true rfl, Nat.le_of_ble_eq_true rfl⟩ (fun r hr => ?_)
  subst hr
  refine lv_istore (lv' := [(4, .int (nI (ones (seenQ σ p0 pl 0 99)))), (3, .int (nI (rowM σ pl 0 99))), (0, .ref (a 0)), (1, .int (nI p0)), (2, .int pl)]) hx hb dX9_neededBy_24 hl (by decide) rfl (fun ls hl => ?_)
  refine lv_iconst (v := nI 1) hx hb dX9_neededBy_26 (by decide) ?_
  refine lv_istore (lv' := [(5, .int (nI 1)), (4, .int (nI (ones (seenQ σ p0 pl 0 99)))), (3, .int (nI (rowM σ pl 0 99))), (0, .ref (a 0)), (1, .int (nI p0)), (2, .int pl)]) hx hb dX9_neededBy_27 hl (by decide) rfl (fun ls hl => ?_)
  exact L_29 10 1 (by omega) (by omega) (by omega) (by rfl) ls (lv_sub hl [3, 4, 5, 2, 1, 0] rfl)

abbrev rm_X9_share : Room := { frames := 6, cells := 0, slots := 0, locals := 140 }
theorem k_X9_share : Cal yX9_share wsX9_share rm_X9_share cX9_share 2 (some .double) 0 0 0 := ⟨⟨_, rfl⟩, rfl, rfl, by decide +kernel⟩
set_option maxHeartbeats 4000000 in
set_option maxRecDepth 100000 in
theorem m_X9_share (l : Launch) (Γ : Gm) (a : Nat → Nat) (v : Nat → Int32) (hs : Int64) (g : Nat → Nat → Int32) (σ : Nat → Nat) (hM : RepM σ (g 0)) (hI : Inv σ)  : MRd l yX9_share wsX9_share rm_X9_share Γ (wMd Γ a v hs g) [.ref (a 0)] (fun r => r = shareQ σ) := by
  refine mR (cc := cX9_share) (maxL := 2) (ret := (some .double)) (own := RX9) (by decide) rfl rfl (Nat.le_of_ble_eq_true rfl) ?_
  intro p e s m args below meth c S hrt hlk hK hP ls hl
  obtain ⟨hx, hb, hml, hown, hts⟩ := id S
  have hn := hI.n
  have hvp := veil_pair hI
  have hl : lv_has ls 2 [(0, .ref (a 0))] := hl
  have hP : gP Γ (wMd Γ a v hs g) s.heap := hP
  refine lv_iconst (v := nI 5) hx hb dX9_share_0 (by decide) ?_
  refine lv_aload_n hx hb dX9_share_1 rfl (lv_at hl 0 rfl) ?_
  refine va_get (D := Γ.1) (ci := 9) (v := .ref (a 1)) (C := RX9) (T := TX9) (N := 11) hx hb hts (by decide +kernel) hown hK hP 0 rfl rfl 1 (by decide) (hts (.fieldLink RX9 7 "RowVeilsModel" "s" "[I") (by decide +kernel)) (fun _ h9 => h9) rfl dX9_share_2 ?_
  refine lv_iconst (v := nI 0) hx hb dX9_share_5 (by decide) ?_
  refine va_iald hx hb hK hP 1 0 rfl rfl (vp_in_nI (by omega) (by omega)) dX9_share_6 ?_
  refine asi (z := nI (σ 0)) ((congrArg _ (nI_clamp (by omega))).trans (hM _ (by omega))) ?_
  refine lv_imul hx hb dX9_share_7 ?_
  refine asi (z := nI (σ 0 * 5)) (by rw [pk_mul, Nat.mul_comm]) ?_
  refine lv_istore_n (lv' := [(1, .int (nI (σ 0 * 5))), (0, .ref (a 0))]) hx hb dX9_share_8 rfl hl (by decide) rfl (fun ls hl => ?_)
  refine lv_iload_n hx hb dX9_share_9 rfl (lv_at hl 0 rfl) ?_
  refine lv_if_ne (tgt := 17) hx hb dX9_share_10 (by decide) (fun c_10 => ?_) (fun c_10 => ?_)
  · have n_10 := (not_congr (nI_eq (a := (σ 0 * 5)) (b := 0) (by omega) (by omega))).mp c_10
    refine lv_iload_n hx hb dX9_share_17 rfl (lv_at hl 0 rfl) ?_
    refine lv_aload_n hx hb dX9_share_18 rfl (lv_at hl 1 rfl) ?_
    refine lv_iconst (v := (-1)) hx hb dX9_share_19 (by decide) ?_
    refine cRi (As := [.int (-1)]) (rest := [.int (nI (σ 0 * 5))]) (m_X9_veiledPairs_all l Γ a v hs g σ hM hI) S k_X9_veiledPairs gX9_share_X9_veiledPairs rfl ⟨Nat.le_of_ble_eq_true rfl, Nat.le_of_ble_eq_true rfl⟩ hK hP [0, 1, 2, 3, 4] rfl 0 (ci := 9) rfl rfl rfl rfl hl.1 (Nat.le_of_ble_eq_true rfl) rfl dX9_share_20 ⟨Nat.le_of_ble_eq_true rfl, Nat.le_of_ble_eq_true rfl⟩ (fun r hr => ?_)
    subst hr
    refine asi (z := nI (veilN σ)) rfl ?_
    refine lv_isub hx hb dX9_share_23 ?_
    refine asi (z := nI (pairS σ 5)) (by rw [pk_sub (by omega)]; exact congrArg nI (by omega)) ?_
    refine lv_i2d hx hb dX9_share_24 ?_
    refine lv_iload_n hx hb dX9_share_25 rfl (lv_at hl 0 rfl) ?_
    refine lv_i2d hx hb dX9_share_26 ?_
    refine lv_ddiv hx hb dX9_share_27 (share_ok (by omega) hn (pairS_le σ 5)) ?_
    exact W.dret (v := FP.ddiv (FP.i2d (nI (pairS σ 5))) (FP.i2d (nI (σ 0 * 5)))) hx hb hrt (fun t9 ht9 hW9 => ⟨_, rfl, by unfold shareQ; rw [if_neg (by omega)]; rfl, ht9⟩) (fun _ h9 => nomatch h9) dX9_share_28 hlk
  · have n_10 := (nI_eq (a := (σ 0 * 5)) (b := 0) (by omega) (by omega)).mp c_10
    refine lv_dconst1 hx hb dX9_share_13 ?_
    refine lv_goto (tgt := 28) hx hb dX9_share_14 (by decide) ?_
    exact W.dret (v := 4607182418800017408) hx hb hrt (fun t9 ht9 hW9 => ⟨_, rfl, by unfold shareQ; rw [if_pos (by omega)], ht9⟩) (fun _ h9 => nomatch h9) dX9_share_28 hlk

